/-- how a pair of methods of statements may end -/
def jOz (sc : Bool) (X : JCX) (p : Int32) (N K n q nf i : Nat) (κ : Int) (Fc : PF) (Gc : PG) (Fm : PF) (Gm : PG) (r2 : Int32) (F1 : PF) (G1 : PG) (F2 : PF) (G2 : PG) : Prop :=
  (r2 = 1 ∧ ∃ (Y : JCX) (t1 j : Nat) (LB LC : List JHO), jV Y p N K n q nf t1 j F1 G1 F2 G2 ∧ jW X Y p N i j 0 κ [] [] (LB ++ LC) [] Fc Gc Fm Gm F1 G1 F2 G2 ∧ (F2 15 = Fm 15 ∧ F2 51 = Fm 51 ∧ i < j) ∧ (p = 1 → jLk LB (wN Fc) (wN F1) (F2 63) (F1 30) (Fm 63) (Fc 30) ∧ jLk LC (wN Fc) (wN F1) (F2 64) (F1 31) (Fm 64) (Fc 31)) ∧ (sc = true → jLe Y.2.2.1 X.2.2.1) ∧ (p = 1 → Fm 51 = 0 → LB = [] ∧ LC = [])) ∨ jEnd F1 F2
abbrev jOs (X : JCX) (p : Int32) (N K n q nf i : Nat) (κ : Int) (Fc : PF) (Gc : PG) (Fm : PF) (Gm : PG) (r2 : Int32) (F1 : PF) (G1 : PG) (F2 : PF) (G2 : PG) : Prop := jOz false X p N K n q nf i κ Fc Gc Fm Gm r2 F1 G1 F2 G2
section JW6
variable {fu : Nat} {X : JCX} {p : Int32} {N K n q nf t i j : Nat} {d κ : Int} {s s1 : SH} {hs : List JHO} {Fc Fm F1 F2 : PF} {Gc Gm G1 G2 : PG}
theorem jOs.al (V : jV X p N K n q nf t i Fc Gc Fm Gm) (h : jAl X p N i j 0 κ [] [] [] Fc Gc Fm Gm F1 G1 F2 G2) (hk : κ ≤ 0) (hij : i < j) : jOs X p N K n q nf i 0 Fc Gc Fm Gm 1 F1 G1 F2 G2 := .inl ⟨rfl, X, t, j, [], [], V.al h hk, (jW.al h).ca rfl hk, ⟨h.1.2.1 15 rfl, h.1.2.1 51 rfl, hij⟩, fun _ => ⟨⟨h.1.2.1 63 rfl, h.1.1.1 30 rfl⟩, h.1.2.1 64 rfl, h.1.1.1 31 rfl⟩, fun z => absurd z (by decide), fun _ _ => ⟨rfl, rfl⟩⟩
/-- both write: one step, some words, in any way -/
theorem jAl.fx {w a b : Int32} {ws : List Int32} (h7 : Fc 7 = 0 ∨ Fc 7 = 1) (hp : p = 1 → Fc 7 = 1) (D : jD N i Fc Gc Fm Gm) (c : EMC ws Fc Gc F1 G1) (m : EMM w a b Fm Gm F2 G2) (f : p = 1 → Fc 7 = 1 → ∀ (mu : Nat → Nat) (A : JAN), A (sN Fm) = (s, some X.2.2.1) → mu (sN Fm) = wN Fc → JX X Fc Gc Fm Gm mu A F1 G1 F2 G2 s1 hs []) : jAl X p N i i 0 (ws.length : Int) s s1 hs Fc Gc Fm Gm F1 G1 F2 G2 := by
  obtain ⟨D1, ⟨D2, D3, D4⟩, ⟨D5, D6⟩, D7, D8, D9⟩ := D
  obtain ⟨x1, x2, x3⟩ := id c
  obtain ⟨y1, y2, y3, y4, y5, y6⟩ := id m
  have c6 : 0 ≤ (F1 6).toInt ∧ (F1 6).toInt ≤ (Fc 6).toInt + ws.length := by
    rcases h7 with z | z
    · rw [(x2 z).1]
      omega
    · have := (x3 z).1
      omega
  refine ⟨⟨KX.tr KX.rf x1 rfl rfl, KX.tr KX.rf y1 rfl rfl⟩, ⟨?_, ⟨?_, ?_, ?_⟩, ⟨?_, ?_⟩, c6.1, by omega, ?_⟩, ⟨Nat.le_refl _, Int.le_refl _⟩, ?_, ⟨x1.1 21 rfl, fun _ _ => by rw [x1.2 20 rfl]⟩, ⟨y1.1 70 rfl, fun _ _ => ⟨by rw [y1.2 67 rfl], by rw [y1.2 68 rfl], by rw [y1.2 69 rfl]⟩⟩, by omega, fun q => ⟨y1.1 55 rfl, fun mu A h1 h2 => f q (hp q) mu A h1 h2⟩⟩
  · unfold CU at D1 ⊢
    rw [x1.1 9 rfl, y1.1 42 rfl, x1.1 10 rfl, y1.1 43 rfl, x1.1 14 rfl, y1.1 44 rfl, x1.1 11 rfl, x1.1 12 rfl, x1.1 13 rfl, x1.2 90 rfl, x1.2 91 rfl, x1.2 92 rfl]
    exact D1
  · rw [y1.1 47 rfl]; exact D2
  · rw [x1.1 43 rfl]; exact D3
  · rw [x1.1 47 rfl]; exact D4
  · rw [x1.1 21 rfl]; exact D5
  · rw [x1.1 21 rfl, y1.2 6 rfl]; exact D6
  · rw [y1.1 70 rfl]; exact D9
  · rw [x1.1 10 rfl]; omega
theorem jAl.hlt {a b : Int32} (hX : X.1 = false) (h7 : Fc 7 = 0 ∨ Fc 7 = 1) (hp : p = 1 → Fc 7 = 1) (D : jD N i Fc Gc Fm Gm) (c : EMC [18] Fc Gc F1 G1) (m : EMM 20 a b Fm Gm F2 G2) : jAl X p N i i 0 1 (0 :: s) s1 [] Fc Gc Fm Gm F1 G1 F2 G2 := jAl.fx (ws := [18]) h7 hp D c m (fun _ z mu A h1 h2 => JX.hlt hX (JX.rf h1 h2) (m.sn D.2.2.2.2.1) (c.wn z D.2.2.2.1) (fun k hk => m.2.2.1 k (Nat.ne_of_lt hk)) (c.2.2 z).2.1 m.2.2.2.1 ((c.2.2 z).2.2 0 18 rfl))
theorem jAl.ret {a b : Int32} (hX : X.1 = false) (h7 : Fc 7 = 0 ∨ Fc 7 = 1) (hp : p = 1 → Fc 7 = 1) (D : jD N i Fc Gc Fm Gm) (c : EMC [15] Fc Gc F1 G1) (m : EMM 17 a b Fm Gm F2 G2) : jAl X p N i i 0 1 [0] s1 [] Fc Gc Fm Gm F1 G1 F2 G2 := jAl.fx (ws := [15]) h7 hp D c m (fun _ z mu A h1 h2 => JX.ret hX (JX.rf h1 h2) (m.sn D.2.2.2.2.1) (c.wn z D.2.2.2.1) (fun k hk => m.2.2.1 k (Nat.ne_of_lt hk)) (c.2.2 z).2.1 m.2.2.2.1 ((c.2.2 z).2.2 0 15 rfl))
theorem jAl.trn {a b : Int32} (hX : X.1 = false) (h7 : Fc 7 = 0 ∨ Fc 7 = 1) (hp : p = 1 → Fc 7 = 1) (D : jD N i Fc Gc Fm Gm) (c : EMC [89] Fc Gc F1 G1) (m : EMM 15 a b Fm Gm F2 G2) : jAl X p N i i 0 1 s s [] Fc Gc Fm Gm F1 G1 F2 G2 := jAl.fx (ws := [89]) h7 hp D c m (fun _ z mu A h1 h2 => JX.turn hX (JX.rf h1 h2) (m.sn D.2.2.2.2.1) (c.wn z D.2.2.2.1) (fun k hk => m.2.2.1 k (Nat.ne_of_lt hk)) (c.2.2 z).2.1 m.2.2.2.1 ((c.2.2 z).2.2 0 89 rfl))
/-- a value in parentheses -/
theorem jc_condition (I : jIn X p N K n q nf t i Fc Gc Fm Gm) : JP (cf_X4_condition fu Fc Gc) (mf_condition fu Fm Gm) (fun _ F1 G1 r2 F2 G2 => jOut X p N i (-4) s (0 :: s) Fc Gc Fm Gm r2 F1 G1 F2 G2) := by
  unfold cf_X4_condition cb_X4_condition_0 mf_condition mb_condition_0
  refine JP.both (jo_open I.1.1 I.2.1.1 (w := 22) (by decide) (by decide) (by decide)) ?_
  rintro r1 F1 G1 r2 F2 G2 (⟨rfl, rfl, hz, o⟩ | o)
  · dsimp only
    unfold cb_X4_condition_9 mb_condition_6
    rw [if_neg i10n, if_neg i10n]
    have li := I.2.1.1.ltS I.1.1 hz
    have e0 := jAl.on (X := X) (p := p) (s := s) I.1 I.2.1 li (I.1.t1 li) o
    have I1 := I.next e0 (by omega)
    unfold cb_X4_condition_12 mb_condition_9 cf_X3_expression mf_expression
    refine JP.both (jPx_all 300 300 (i + 1) s F1 G1 F2 G2 I1) ?_
    rintro r3 F3 G3 r4 F4 G4 (⟨rfl, j, h1⟩ | h1)
    · dsimp only
      have h2 := e0.tr h1
      have I2 := I1.next h1 (Int.le_refl _)
      unfold cb_X4_condition_19 mb_condition_13
      rw [if_neg i10n]
      unfold mb_condition_16
      refine JP.both (jo_close I2.1.1 I2.2.1.1 (by have := h2.2.2.2.1; have := I.2.1.1.2.2.2.2.1; omega) (w := 23) (by decide) (by decide) (by decide)) ?_
      rintro r5 F5 G5 r6 F6 G6 (⟨rfl, hy, o2⟩ | o2)
      · dsimp only
        have lj := I2.2.1.1.ltS I2.1.1 hy
        have e2 := jAl.on (X := X) (p := p) (s := 0 :: s) I2.1 I2.2.1 lj (I2.1.t1 lj) o2
        unfold cb_X4_condition_28 mb_condition_22
        rw [if_neg i10n]
        unfold mb_condition_25 mb_condition_30
        rw [if_pos (show b01 1 = true from rfl)]
        exact JP.ret (.inl ⟨rfl, j + 1, (h2.tr e2).ca (by omega) (by omega)⟩)
      · dsimp only
        exact JP.fin (kqj_X4_condition_28 F5 G5 CFS.rf) (nqj_condition_22 _ F6 G6 MFS.rf) (.inr o2) (fun _ _ _ _ _ _ w => .inr w)
    · dsimp only
      exact JP.fin (kqj_X4_condition_19 F3 G3 CFS.rf) (nqj_condition_13 _ F4 G4 MFS.rf) h1 (fun _ _ _ _ _ _ w => .inr w)
  · dsimp only
    exact JP.fin (kqj_X4_condition_9 _ F1 G1 CFS.rf) (nqj_condition_6 _ F2 G2 MFS.rf) (.inr o) (fun _ _ _ _ _ _ w => .inr w)
/-- put and halt -/
theorem jc_hand {dm : Nat} (V : jV X p N K n q nf t i Fc Gc Fm Gm) (hk : Fc 11 = 16 ∨ Fc 11 = 18) : JP (cf_X4_handOut fu Fc Gc) (mb_statement_237 fu (mS2 fu dm) Fm Gm) (fun _ F1 G1 r2 F2 G2 => jOs X p N K n q nf i 0 Fc Gc Fm Gm r2 F1 G1 F2 G2) := by
  have I := V.1
  have hX := V.2.1.1
  have wd := I.wd (w := 12) (a := 16) (b := 12) (by decide) (by decide) (by decide)
  have wd2 := I.wd (w := 14) (a := 18) (b := 14) (by decide) (by decide) (by decide)
  have li : i < N := by
    rcases hk with z | z
    · exact I.2.1.1.ltW I.1.1 (wd.mp z)
    · exact I.2.1.1.ltW I.1.1 (wd2.mp z)
  have key : ∀ (what : Int32), ((Fc 11 = 16 ∧ what = 19) ∨ (Fc 11 = 18 ∧ what = 20)) → JP ((cf_X2_next fu Fc Gc).bind (fun q => cb_X4_handOut_15 fu (Fc 11) q.2.1 q.2.2)) (mb_statement_264 fu (mS2 fu dm) what (fup Fm 42 (Fm 42 + 1)) Gm) (fun _ F1 G1 r2 F2 G2 => jOs X p N K n q nf i 0 Fc Gc Fm Gm r2 F1 G1 F2 G2) := by
    intro what hw
    refine JP.L (jo_next I.1.1 I.2.1.1 li) ?_
    rintro r F1 G1 (o | o)
    · dsimp only
      have e0 := jAl.on (X := X) (p := p) (s := []) I.1 I.2.1 li (I.1.t1 li) o
      have I1 := I.next e0 (by omega)
      generalize fup Fm 42 (Fm 42 + 1) = F2 at e0 I1 ⊢
      unfold cb_X4_handOut_15 cf_X4_condition cb_X4_condition_0 mb_statement_264
      rw [Option.bind_assoc]
      refine JP.both (jo_open I1.1.1 I1.2.1.1 (w := 22) (by decide) (by decide) (by decide)) ?_
      rintro r3 F3 G3 r4 F4 G4 (⟨rfl, rfl, hz, o2⟩ | o2)
      · dsimp only
        unfold cb_X4_condition_9 mb_statement_270
        rw [if_neg i10n, if_neg i10n]
        have l1 := I1.2.1.1.ltS I1.1.1 hz
        have e1 := jAl.on (X := X) (p := p) (s := []) I1.1 I1.2.1 l1 (I1.1.t1 l1) o2
        have h1 := e0.tr e1
        have I2 := I1.next e1 (by omega)
        unfold cb_X4_condition_12 mb_statement_273 cf_X3_expression mf_expression
        rw [Option.bind_assoc]
        refine JP.both (jPx_all 300 300 (i + 1 + 1) [] F3 G3 F4 G4 I2) ?_
        rintro r5 F5 G5 r6 F6 G6 (⟨rfl, j, h2⟩ | h2)
        · dsimp only
          have h3 := h1.tr h2
          have I3 := I2.next h2 (Int.le_refl _)
          unfold cb_X4_condition_19 mb_statement_277
          rw [if_neg i10n]
          unfold mb_statement_280
          rw [Option.bind_assoc]
          refine JP.both (jo_close I3.1.1 I3.2.1.1 (by have := h3.2.2.2.1; have := I.2.1.1.2.2.2.2.1; omega) (w := 23) (by decide) (by decide) (by decide)) ?_
          rintro r7 F7 G7 r8 F8 G8 (⟨rfl, hy, o3⟩ | o3)
          · dsimp only
            have lj := I3.2.1.1.ltS I3.1.1 hy
            have e3 := jAl.on (X := X) (p := p) (s := [0]) I3.1 I3.2.1 lj (I3.1.t1 lj) o3
            have h4 := h3.tr e3
            have I4 := I3.next e3 (by omega)
            unfold cb_X4_condition_28 mb_statement_286
            rw [if_neg i10n]
            show JP (cb_X4_handOut_19 fu (Fc 11) F7 G7) _ _
            unfold cb_X4_handOut_19 mb_statement_291
            refine JP.L (cp_wadd (Fc 11) G7 (h4.room I.1 I.2.2 (by omega))) ?_
            rintro r9 F9 G9 c1
            dsimp only
            refine JP.R (mp_em what 0 0 F8 G8) ?_
            rintro ra Fa Ga ⟨m0, m1, m2, m3⟩
            dsimp only
            have e4 : jAl X p N (j + 1) (j + 1) 0 1 [0] [] [] F7 G7 F8 G8 F9 G9 Fa Ga := by
              rcases hw with ⟨z1, z2⟩ | ⟨z1, z2⟩
              · rw [z1] at c1
                rw [z2] at m2
                exact jAl.em (ws := [16]) I4.h7.1 I4.h7.2 I4.2.1 c1 m2 (fun z => .inr (.inr (.inr (.inr ⟨hX, .inr (.inr (.inr (.inr (.inr (.inr (.inr (.inr (.inr (.inr (.inl ⟨rfl, rfl, (c1.2.2 (I4.h7.2 z)).2.2 0 16 rfl, rfl⟩))))))))))⟩))))
              · rw [z1] at c1
                rw [z2] at m2
                exact jAl.hlt hX I4.h7.1 I4.h7.2 I4.2.1 c1 m2
            have h5 := h4.tr e4
            have I5 := I.next h5 (by omega)
            unfold cb_X4_handOut_27 mb_statement_298
            refine JP.both (jo_sign I5.1.1 I5.2.1.1 (w := 29) (by decide) (by decide) (by decide)) ?_
            rintro rb Fb Gb rc Fd Gd (⟨rfl, hx, o4⟩ | o4)
            · dsimp only
              have lk := I5.2.1.1.ltS I5.1.1 hx
              have e5 := jAl.on (X := X) (p := p) (s := []) I5.1 I5.2.1 lk (I5.1.t1 lk) o4
              unfold cb_X4_handOut_36 mb_statement_305
              rw [if_pos (show b01 1 = true from rfl)]
              exact JP.ret (jOs.al V ((h5.tr e5).ca (by omega) (Int.le_refl _)) (by omega) (by have := h5.2.2.1.1; omega))
            · dsimp only
              exact JP.fin (kqj_X4_handOut_36 Fb Gb CFS.rf) (nqj_statement_305 _ (nqS2 dm) _ Fd Gd MFS.rf) (.inr o4) (fun _ _ _ _ _ _ w => .inr w)
          · dsimp only
            exact JP.fin (PP.bind (kqj_X4_condition_28 F7 G7 CFS.rf) (fun r F G y => kqj_X4_handOut_19 _ F G y)) (nqj_statement_286 _ (nqS2 dm) _ _ F8 G8 MFS.rf) (.inr o3) (fun _ _ _ _ _ _ w => .inr w)
        · dsimp only
          exact JP.fin (PP.bind (kqj_X4_condition_19 F5 G5 CFS.rf) (fun r F G y => kqj_X4_handOut_19 _ F G y)) (nqj_statement_277 _ (nqS2 dm) _ _ F6 G6 MFS.rf) h2 (fun _ _ _ _ _ _ w => .inr w)
      · dsimp only
        exact JP.fin (PP.bind (kqj_X4_condition_9 _ F3 G3 CFS.rf) (fun r F G y => kqj_X4_handOut_19 _ F G y)) (nqj_statement_270 _ (nqS2 dm) _ _ F4 G4 MFS.rf) (.inr o2) (fun _ _ _ _ _ _ w => .inr w)
    · dsimp only
      exact JP.fin (kqj_X4_handOut_15 _ F1 G1 CFS.rf) (nqj_statement_264 _ (nqS2 dm) _ _ Gm MFS.rf) (.inr o) (fun _ _ _ _ _ _ w => .inr w)
  unfold cf_X4_handOut cb_X4_handOut_0 mb_statement_237
  refine JP.R (mp_isWord 12 Fm Gm) ?_
  rintro z _ _ ⟨rfl, rfl, hz⟩
  dsimp only
  unfold mb_statement_243
  rcases hz with ⟨rfl, hz⟩ | ⟨rfl, hz⟩
  · rw [if_neg i10n]
    unfold mb_statement_246 mb_statement_253
    exact key 19 (.inl ⟨wd.mpr hz, rfl⟩)
  · rw [if_pos rfl]
    unfold mb_statement_251 mb_statement_253
    refine key 20 (.inr ⟨?_, rfl⟩)
    rcases hk with y | y
    · rw [wd.mp y] at hz
      cases hz
    · exact y
/-- return -/
theorem jc_return (V : jV X p N K n q nf t i Fc Gc Fm Gm) (hk : Fc 11 = 15) : JP (cf_X4_returnStatement fu Fc Gc) (mf_returns fu Fm Gm) (fun _ F1 G1 r2 F2 G2 => jOs X p N K n q nf i 0 Fc Gc Fm Gm r2 F1 G1 F2 G2) := by
  have I := V.1
  have hX := V.2.1.1
  have hp := I.1.2.1
  have wd := I.wd (w := 11) (a := 15) (b := 11) (by decide) (by decide) (by decide)
  have li : i < N := I.2.1.1.ltW I.1.1 (wd.mp hk)
  unfold cf_X4_returnStatement cb_X4_returnStatement_0 mf_returns mb_returns_0
  refine JP.L (jo_next I.1.1 I.2.1.1 li) ?_
  rintro r F1 G1 (o | o)
  · dsimp only
    have e0 := jAl.on (X := X) (p := p) (s := []) I.1 I.2.1 li (I.1.t1 li) o
    have I1 := I.next e0 (by omega)
    have V1 := V.al e0 (by omega)
    generalize fup Fm 42 (Fm 42 + 1) = F2 at e0 I1 V1 ⊢
    have sg := I1.sg (w := 29) (a := 26) (b := 29) (by decide) (by decide) (by decide)
    obtain ⟨pl0, pl1, pl2⟩ := I1.2.1.1.place I1.1.1
    have on1 : p = 1 → F1 45 = 1 := fun z => by rw [I1.1.2.2.1.2.1, z]
    have on0 : p = 0 → F1 45 = 0 := fun z => by rw [I1.1.2.2.1.2.1, z]
    have m1 : p = 1 → ¬ F2 46 = 0 := fun z => by rw [I1.1.2.2.1.1, z]; decide
    have m0 : p = 0 → F2 46 = 0 := fun z => by rw [I1.1.2.2.1.1, z]
    -- behind the value: both return
    have fin : ∀ (j : Nat) (F3 : PF) (G3 : PG) (F4 : PF) (G4 : PG) (κ : Int), jAl X p N i j 0 κ [] [0] [] Fc Gc Fm Gm F3 G3 F4 G4 → κ ≤ 0 → JP (cb_X4_returnStatement_75 fu F3 G3) (mb_returns_98 fu F4 G4) (fun _ F1 G1 r2 F2 G2 => jOs X p N K n q nf i 0 Fc Gc Fm Gm r2 F1 G1 F2 G2) := by
      intro j F3 G3 F4 G4 κ h hκ
      have I3 := I.next h hκ
      unfold cb_X4_returnStatement_75 mb_returns_98
      refine JP.L (cp_wadd 15 G3 (h.room I.1 I.2.2 (by omega))) ?_
      rintro r5 F5 G5 c1
      dsimp only
      refine JP.R (mp_em 17 0 0 F4 G4) ?_
      rintro r6 F6 G6 ⟨-, -, m2, -⟩
      dsimp only
      have h1 := h.tr (jAl.ret (s1 := []) hX I3.h7.1 I3.h7.2 I3.2.1 c1 m2)
      have D5 := h1.2.1
      have T5 := I.1.keep h1.1.1 h1.1.2
      unfold cb_X4_returnStatement_84 mb_returns_106
      refine JP.both (jo_sign T5.1 D5.1 (w := 29) (by decide) (by decide) (by decide)) ?_
      rintro rb Fb Gb rd Fd Gd (⟨rfl, hx, o4⟩ | o4)
      · dsimp only
        have lk := D5.1.ltS T5.1 hx
        have e5 := jAl.on (X := X) (p := p) (s := []) T5 D5 lk (T5.t1 lk) o4
        unfold cb_X4_returnStatement_93 mb_returns_113
        rw [if_pos (show b01 1 = true from rfl)]
        exact JP.ret (jOs.al V ((h1.tr e5).ca (by omega) (Int.le_refl _)) (by omega) (by have := h1.2.2.1.1; omega))
      · dsimp only
        exact JP.fin (kqj_X4_returnStatement_93 Fb Gb CFS.rf) (nqj_returns_113 _ Fd Gd MFS.rf) (.inr o4) (fun _ _ _ _ _ _ w => .inr w)
    -- without a value
    have alone : JP (cb_X4_returnStatement_55 fu F1 G1) (mb_returns_46 fu F2 Gm) (fun _ F1 G1 r2 F2 G2 => jOs X p N K n q nf i 0 Fc Gc Fm Gm r2 F1 G1 F2 G2) := by
      unfold cb_X4_returnStatement_55 mb_returns_46
      refine JP.L (cp_wpair 66 0 G1 (e0.room I.1 I.2.2 (by omega))) ?_
      rintro r5 F5 G5 c1
      dsimp only
      refine JP.R (mp_em 0 0 0 F2 Gm) ?_
      rintro r6 F6 G6 ⟨-, -, m2, -⟩
      dsimp only
      have e1 : jAl X p N (i + 1) (i + 1) 0 2 [] [0] [] F1 G1 F2 Gm F5 G5 F6 G6 := jAl.em (ws := [66, 0]) I1.h7.1 I1.h7.2 I1.2.1 c1 m2 (fun z => .inl ⟨rfl, rfl, (c1.2.2 (I1.h7.2 z)).2.2 0 66 rfl, (c1.2.2 (I1.h7.2 z)).2.2 1 0 rfl, rfl⟩)
      unfold cb_X4_returnStatement_65 mb_returns_53
      exact fin (i + 1) F5 G5 F6 G6 _ ((e0.tr e1).ca (by omega) (Int.le_refl _)) (by omega)
    -- with a value
    have valued : JP (cb_X4_returnStatement_68 fu F1 G1) (mb_returns_89 fu F2 Gm) (fun _ F1 G1 r2 F2 G2 => jOs X p N K n q nf i 0 Fc Gc Fm Gm r2 F1 G1 F2 G2) := by
      unfold cb_X4_returnStatement_68 mb_returns_89 cf_X3_expression mf_expression
      refine JP.both (jPx_all 300 300 (i + 1) [] F1 G1 F2 Gm I1) ?_
      rintro r5 F5 G5 r6 F6 G6 (⟨rfl, j, h2⟩ | h2)
      · dsimp only
        unfold mb_returns_93
        rw [if_neg i10n]
        exact fin j F5 G5 F6 G6 _ ((e0.tr h2).ca (by omega) (Int.le_refl _)) (by omega)
      · dsimp only
        exact JP.fin (kqj_X4_returnStatement_75 F5 G5 CFS.rf) (nqj_returns_93 _ F6 G6 MFS.rf) h2 (fun _ _ _ _ _ _ w => .inr w)
    -- both find a fault
    have bad : ∀ (z : Int32) (b : PR), p = 1 → PP b (fun _ F' _ => ¬ F' 47 = 0) → JP (cb_X4_returnStatement_36 fu z F1 G1) b (fun _ F1 G1 r2 F2 G2 => jOs X p N K n q nf i 0 Fc Gc Fm Gm r2 F1 G1 F2 G2) := by
      intro z b hp1 hb
      refine JP.pp (V := fun _ F' _ => (F' 43).toInt ≤ 4000) ?_ hb (fun r1 F5 G5 r2 F6 G6 z1 z2 => .inr (.inl ⟨z1, z2⟩))
      unfold cb_X4_returnStatement_36
      refine PP.bind (cp_note 3 (F1 13) (by decide) (by decide) F1 G1) ?_
      rintro _ F5 G5 ⟨-, -, -, w⟩
      dsimp only
      exact PP.mono (kqj_X4_returnStatement_51 _ F5 G5 CFS.rf) (fun _ F' _ y => y.2 (w (by rw [on1 hp1]; decide) pl1))
    have off : ∀ (z : Int32) (b : PR) (Q : Int32 → PF → PG → Int32 → PF → PG → Prop), p = 0 → JP (cb_X4_returnStatement_51 fu z F1 G1) b Q → JP (cb_X4_returnStatement_36 fu z F1 G1) b Q := by
      intro z b Q hp0 h
      unfold cb_X4_returnStatement_36
      refine JP.L (cp_note 3 (F1 13) (by decide) (by decide) F1 G1) ?_
      rintro _ F5 _ ⟨rfl, -, w, -⟩
      rw [← w (on0 hp0)]
      exact h
    unfold cb_X4_returnStatement_7 mb_returns_10
    refine JP.R (mp_isSign 29 F2 Gm) ?_
    rintro z _ _ ⟨rfl, rfl, hz⟩
    dsimp only
    unfold mb_returns_16
    rcases hz with ⟨rfl, hz⟩ | ⟨rfl, hz⟩
    · rw [if_pos (sg.mpr hz), if_neg i10n]
      unfold cb_X4_returnStatement_19 cb_X4_returnStatement_24 mb_returns_19
      refine JP.ixR (fun _ => ?_)
      have a51 : JP (cb_X4_returnStatement_51 fu 1 F1 G1) (mb_returns_46 fu F2 Gm) (fun _ F1 G1 r2 F2 G2 => jOs X p N K n q nf i 0 Fc Gc Fm Gm r2 F1 G1 F2 G2) := by
        unfold cb_X4_returnStatement_51
        rw [if_neg i10n]
        exact alone
      rcases hp with hp0 | hp1
      · have r31 : ∀ (a : PR) (Q : Int32 → PF → PG → Int32 → PF → PG → Prop), JP a (mb_returns_46 fu F2 Gm) Q → JP a (mb_returns_31 fu F2 Gm) Q := by
          intro a Q h
          unfold mb_returns_31
          refine JP.ixR (fun _ => JP.R (mp_n0 (m0 hp0) (by decide)) ?_)
          rintro _ _ _ ⟨rfl, rfl⟩
          exact h
        have c46 : JP (if (1 : Int32) = F1 48 then cb_X4_returnStatement_36 fu 1 F1 G1 else cb_X4_returnStatement_51 fu 1 F1 G1) (mb_returns_46 fu F2 Gm) (fun _ F1 G1 r2 F2 G2 => jOs X p N K n q nf i 0 Fc Gc Fm Gm r2 F1 G1 F2 G2) := JP.iteL (fun _ => off 1 _ _ hp0 a51) (fun _ => a51)
        exact JP.iteR (fun _ => r31 _ _ c46) (fun _ => c46)
      · obtain ⟨gv, -, -⟩ := V1.2.2.2.2.2 hp1
        rcases gv with ⟨g1, g2⟩ | ⟨g1, g2⟩
        · rw [if_pos g1, if_pos (show (1 : Int32) = F1 48 from g2.symm)]
          refine bad 1 _ hp1 ?_
          unfold mb_returns_31
          exact PP.ix (fun _ => mp_nt (A := fun F' G' => mb_returns_46 fu F' G') (m1 hp1) (by decide) (fun F' G' => nqj_returns_46 F' G' MFS.rf))
        · rw [if_neg g1, if_neg (show ¬ (1 : Int32) = F1 48 by rw [g2]; decide)]
          exact a51
    · rw [if_neg (fun w => by rw [sg.mp w] at hz; cases hz), if_pos rfl]
      unfold cb_X4_returnStatement_23 cb_X4_returnStatement_24 mb_returns_57
      refine JP.ixR (fun _ => ?_)
      have a51 : JP (cb_X4_returnStatement_51 fu 0 F1 G1) (mb_returns_89 fu F2 Gm) (fun _ F1 G1 r2 F2 G2 => jOs X p N K n q nf i 0 Fc Gc Fm Gm r2 F1 G1 F2 G2) := by
        unfold cb_X4_returnStatement_51
        rw [if_pos rfl]
        exact valued
      rcases hp with hp0 | hp1
      · have r69 : ∀ (a : PR) (Q : Int32 → PF → PG → Int32 → PF → PG → Prop), JP a (mb_returns_89 fu F2 Gm) Q → JP a (mb_returns_69 fu F2 Gm) Q := by
          intro a Q h
          unfold mb_returns_69
          refine JP.ixR (fun _ => JP.R (ms_rank 7 F2 Gm).toPP ?_)
          rintro rr _ _ ⟨rfl, rfl⟩
          dsimp only
          unfold mb_returns_86
          refine JP.R (mp_noteAs 8 _ _ (by decide) F2 Gm) ?_
          rintro _ F5 _ ⟨-, rfl, -, w⟩
          rw [← w (m0 hp0)]
          exact h
        have c89 : JP (if (0 : Int32) = F1 48 then cb_X4_returnStatement_36 fu 0 F1 G1 else cb_X4_returnStatement_51 fu 0 F1 G1) (mb_returns_89 fu F2 Gm) (fun _ F1 G1 r2 F2 G2 => jOs X p N K n q nf i 0 Fc Gc Fm Gm r2 F1 G1 F2 G2) := JP.iteL (fun _ => off 0 _ _ hp0 a51) (fun _ => a51)
        exact JP.iteR (fun _ => c89) (fun _ => r69 _ _ c89)
      · obtain ⟨gv, -, -⟩ := V1.2.2.2.2.2 hp1
        rcases gv with ⟨g1, g2⟩ | ⟨g1, g2⟩
        · rw [if_pos g1, if_neg (show ¬ (0 : Int32) = F1 48 by rw [g2]; decide)]
          exact a51
        · rw [if_neg g1, if_pos (show (0 : Int32) = F1 48 from g2.symm)]
          refine bad 0 _ hp1 ?_
          unfold mb_returns_69
          refine PP.ix (fun _ => PP.bind (ms_rank 7 F2 Gm).toPP ?_)
          rintro rr _ _ ⟨rfl, rfl⟩
          dsimp only
          unfold mb_returns_86
          refine PP.bind (mp_noteAs 8 _ _ (by decide) F2 Gm) ?_
          rintro _ F5 G5 ⟨-, -, w, -⟩
          dsimp only
          have w1 := w (m1 hp1)
          refine PP.mono (nqj_returns_89 F5 G5 MFS.rf) (fun _ F' _ y z => ?_)
          have := y.2.1 z
          rw [this] at w1
          exact absurd w1 (by decide)
  · dsimp only
    exact JP.fin (kqj_X4_returnStatement_7 F1 G1 CFS.rf) (nqj_returns_10 _ Gm MFS.rf) (.inr o) (fun _ _ _ _ _ _ w => .inr w)
end JW6
