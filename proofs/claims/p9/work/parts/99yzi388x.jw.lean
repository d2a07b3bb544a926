section JW8X
variable {fu : Nat} {X : JCX} {p : Int32} {N K n q nf t i j kk : Nat} {sym x4 x6 x7 x8 : Int32} {Fc Fm : PF} {Gc Gm : PG}
/-- a call of what is no function, in the second pass -/
theorem mp_callN {dm : Nat} {x1 m f : Int32} {F : PF} {G : PG} (u : jSU nf t G) (h14 : (F 14).toInt = t) (h24 : (F 24).toInt = nf) (ht : t ≤ 690) (hn : nf ≤ 449) (n46 : ¬ F 46 = 0) (cn : F 54 = 0) (hm : jMn nf t G (G 5 x1.toNatClampNeg) m f) (hf : f = -1) : PP (mS1 fu dm 1 x1 0 F G) (fun _ F1 _ => ¬ F1 47 = 0) := by
  cases dm with
  | zero => exact PP.no
  | succ dm =>
    show PP (mh_call fu (mS1 fu dm) x1 0 F G) _
    unfold mh_call mb_call_0
    rw [if_neg n46]
    unfold mb_call_11
    refine PP.bind (mp_meanX x1 u h14 h24 (by omega) (by omega) hm) ?_
    rintro m' F2 _ ⟨rfl, kx, rfl, k62⟩
    dsimp only
    have e46 : ¬ F2 46 = 0 := by rw [kx.1 46 rfl]; exact n46
    have e54 : F2 54 = 0 := (kx.1 54 rfl).trans cn
    unfold mb_call_16
    rw [if_neg e46]
    unfold mb_call_28 mb_call_32
    rw [if_pos e54, k62]
    unfold mb_call_41
    by_cases nm : m = -1
    · rw [if_pos nm]
      unfold mb_call_46
      rw [if_pos hf]
      unfold mb_call_52
      exact PP.ix (fun _ => mp_nt (A := fun F' G' => mb_call_63 fu (mS1 fu dm) x1 0 m f F' G') e46 (by decide) (fun F' G' => nqj_call_63 _ (nqS1 dm) x1 0 m f F' G' MFS.rf))
    · rw [if_neg nm]
      unfold mb_call_63
      rw [if_pos e54]
      unfold mb_call_70
      rw [if_neg nm]
      unfold mb_call_75
      exact PP.ix (fun _ => mp_nt (A := fun F' G' => mb_call_87 fu (mS1 fu dm) x1 0 f F' G') e46 (by decide) (fun F' G' => nqj_call_87 _ (nqS1 dm) x1 0 f F' G' MFS.rf))
theorem cp_wantP0 (pl b : Int32) (F : PF) (G : PG) : PP (cf_X5_wantPlace fu (-1) pl b F G) (fun _ F1 G1 => F = F1 ∧ G = G1) := by
  unfold cf_X5_wantPlace cb_X5_wantPlace_0
  refine PP.bind (cp_kind (-1) F G) ?_
  rintro r _ _ ⟨rfl, rfl, k, -⟩
  dsimp only
  unfold cb_X5_wantPlace_5 cb_X5_wantPlace_28
  rw [if_pos (k rfl)]
  exact PP.ret ⟨rfl, rfl⟩
theorem cp_wantP (pl b : Int32) {F : PF} {G : PG} {j c : Nat} (h41 : (F 41).toInt = c) (hc : c ≤ 700) (hj : j < c) (hs : sym = nI j) (on : ¬ F 45 = 0) (hpl : pl.toInt ≤ 4000) (hk0 : ¬ G 35 j = -1) : PP (cf_X5_wantPlace fu sym pl b F G) (fun _ F1 G1 => G = G1 ∧ (jFits (G 35 j) b → F = F1) ∧ (¬ jFits (G 35 j) b → (F1 43).toInt ≤ 4000)) := by
  unfold cf_X5_wantPlace cb_X5_wantPlace_0
  refine PP.bind (cp_kind sym F G) ?_
  rintro r _ _ ⟨rfl, rfl, -, k⟩
  dsimp only
  rw [k j c h41 hc hj hs]
  unfold cb_X5_wantPlace_5
  rw [if_neg hk0]
  unfold cb_X5_wantPlace_13
  refine PP.bind (cp_fits (G 35 j) b F G) ?_
  rintro r1 _ _ ⟨rfl, rfl, w⟩
  dsimp only
  unfold cb_X5_wantPlace_19 cb_X5_wantPlace_28
  rcases w with ⟨rfl, w⟩ | ⟨rfl, w⟩
  · rw [if_neg i10n]
    exact PP.ret ⟨rfl, fun _ => rfl, fun y => absurd w y⟩
  · rw [if_pos rfl]
    unfold cb_X5_wantPlace_22
    refine PP.bind (cp_note 4 pl (by decide) (by decide) F G) ?_
    rintro r2 F1 G1 ⟨y1, -, -, y4⟩
    dsimp only
    unfold cb_X5_wantPlace_28
    exact PP.ret ⟨y1, fun y => absurd y w, fun _ => y4 on hpl⟩
/-- what the reference reads of an entry -/
theorem mp_s172 {a : PR} {Q : Int32 → PF → PG → Int32 → PF → PG → Prop} {e : Nat} (he : e < 900) (H : ∀ x6 x7 : Int32, ((x6 = 0 ∧ Gm 22 e = 0) ∨ (¬ x6 = 0 ∧ ¬ Gm 22 e = 0)) → ((x7 = 0 ∧ Gm 23 e = 0) ∨ (¬ x7 = 0 ∧ ¬ Gm 23 e = 0)) → JP a (mb_simple_229 fu (nI e) x4 x6 x7 (Gm 20 e) Fm Gm) Q) : JP a (mb_simple_172 fu (nI e) x4 Fm Gm) Q := by
  have ne : ¬ nI e = (-1 : Int32) := nI_n1 (by omega)
  have en : (nI e).toNatClampNeg = e := nI_c e (by omega)
  have k191 : ∀ x6 : Int32, ((x6 = 0 ∧ Gm 22 e = 0) ∨ (¬ x6 = 0 ∧ ¬ Gm 22 e = 0)) → JP a (mb_simple_191 fu (nI e) x4 x6 Fm Gm) Q := by
    intro x6 h6
    have k212 : ∀ x7 : Int32, ((x7 = 0 ∧ Gm 23 e = 0) ∨ (¬ x7 = 0 ∧ ¬ Gm 23 e = 0)) → JP a (mb_simple_212 fu (nI e) x4 x6 x7 Fm Gm) Q := by
      intro x7 h7
      unfold mb_simple_212
      rw [if_neg ne]
      unfold mb_simple_223
      refine JP.ixR (fun _ => ?_)
      rw [en]
      exact H x6 x7 h6 h7
    unfold mb_simple_191
    rw [if_neg ne]
    unfold mb_simple_198
    refine JP.ixR (fun _ => ?_)
    rw [en]
    unfold mb_simple_211 mb_simple_207
    exact JP.iteR (fun y => k212 0 (.inl ⟨rfl, y⟩)) (fun y => k212 1 (.inr ⟨i10n, y⟩))
  unfold mb_simple_172
  rw [if_neg ne]
  unfold mb_simple_177
  refine JP.ixR (fun _ => ?_)
  rw [en]
  unfold mb_simple_190 mb_simple_186
  exact JP.iteR (fun y => k191 0 (.inl ⟨rfl, y⟩)) (fun y => k191 1 (.inr ⟨i10n, y⟩))
/-- a place and what becomes of it -/
theorem js_body {m : Int32} (I : jIn X p N K n q nf t i Fc Gc Fm Gm) (sl : (Fc 6).toInt + 2 ≤ 2 * (Gm 6 i).toInt + 100) (hX : X.1 = false) (hx : (x4 = 1 ∧ sgn (Gm 4) (Gm 5) (Fm 42) 24 = true) ∨ (x4 = 0 ∧ sgn (Gm 4) (Gm 5) (Fm 42) 24 = false)) (tg : jTg p q t sym x4 x6 x7 x8 kk Gc Gm) (m0 : p = 0 → m = -1) (m1 : p = 1 → ∃ e : Nat, e < t ∧ sym = nI (q + e) ∧ m = nI e) : JP (cb_X4_simple_94 fu sym Fc Gc) (mb_simple_229 fu m x4 x6 x7 x8 Fm Gm) (fun _ F1 G1 r2 F2 G2 => (r2 = 1 ∧ ∃ j : Nat, jAl X p N i j 0 3 [] [] [] Fc Gc Fm Gm F1 G1 F2 G2) ∨ jEnd F1 F2) := by
  have sg := I.sg (w := 24) (a := 21) (b := 24) (by decide) (by decide) (by decide)
  unfold cb_X4_simple_94 mb_simple_229
  rcases hx with ⟨z, hz⟩ | ⟨z, hz⟩
  · have z0 : ¬ x4 = 0 := by rw [z]; decide
    rw [if_pos (sg.mpr hz), if_neg z0]
    unfold cb_X4_simple_106 cb_X4_simple_111
    rw [if_neg i10n]
    unfold cb_X4_simple_118 mb_simple_236 cf_X3_index mf_element
    have m1' : p = 1 → X.1 = false ∧ ∃ k : Nat, k < t ∧ sym = nI (q + k) ∧ m = nI k ∧ Gm 17 k = 2 ∧ Gc 35 (q + k) = nI (kk + 1) := by
      intro z1
      obtain ⟨e, e1, e2, e3⟩ := m1 z1
      obtain ⟨e', f1, f2, f3⟩ := tg.2.2 z1
      have t9 := (I.1.2.2.2.2.2 z1).2.2.1.2.2.1
      have ee : e' = e := by
        have := nI_ij (f2.symm.trans e2) (by omega) (by omega)
        omega
      rw [ee] at f3
      rcases f3 with ⟨f4, -⟩ | ⟨-, f4, f5, -⟩
      · exact absurd f4 z0
      · exact ⟨hX, e, e1, e2, e3, f4, f5⟩
    refine JP.both (je_indexD (dm := 300) (dc := 300) (s := []) (fun d _ => jPx_all d) I (sg.mpr hz) m0 m1' tg.2.1) ?_
    rintro r1 F1 G1 r2 F2 G2 (⟨rfl, j, h⟩ | h)
    · dsimp only
      unfold mb_simple_241
      rw [if_neg i10n]
      have I1 : jIn X p N K n q nf t j F1 G1 F2 G2 := by
        refine ⟨I.1.keep h.1.1 h.1.2, h.2.1, ?_⟩
        have e6 : G2 6 = Gm 6 := h.1.2.2 6 rfl
        have := h.2.2.2.2.2.2.1
        rw [e6]
        omega
      have es : jsT x4 kk = [kk] := if_neg z0
      have tl := js_tail (fu := fu) (kk := kk) I1 hX (tg.kx (h.1.1.2 35 rfl) (h.1.2.2 17 rfl) (h.1.2.2 20 rfl) (h.1.2.2 23 rfl))
      rw [es, if_neg z0, z] at tl
      rw [z]
      refine JP.mono tl ?_
      rintro r3 F3 G3 r4 F4 G4 (⟨y1, j2, y2⟩ | y)
      · exact .inl ⟨y1, j2, (h.tr y2).ca (by omega) (by omega)⟩
      · exact .inr y
    · dsimp only
      exact JP.fin (kqj_X4_simple_126 _ _ F1 G1 CFS.rf) (nqj_simple_241 _ _ _ _ _ F2 G2 MFS.rf) h (fun _ _ _ _ _ _ w => .inr w)
  · rw [if_neg (fun w => by rw [sg.mp w] at hz; cases hz), if_pos z]
    unfold cb_X4_simple_110 cb_X4_simple_111
    rw [if_pos rfl]
    have es : jsT x4 kk = [] := if_pos z
    have tl := js_tail (fu := fu) (kk := kk) I hX tg
    rw [es, if_pos z, z] at tl
    rw [z]
    exact tl
/-- a call as a statement: its value is dropped -/
theorem js_drop (I : jIn X p N K n q nf t i Fc Gc Fm Gm) (hX : X.1 = false) {F1 F2 : PF} {G1 G2 : PG} (h : jAl X p N i j 0 0 [] [0] [] Fc Gc Fm Gm F1 G1 F2 G2) : JP (cb_X4_simple_84 fu F1 G1) (mb_simple_34 fu F2 G2) (fun _ F1 G1 r2 F2 G2 => (r2 = 1 ∧ ∃ j : Nat, jAl X p N i j 0 1 [] [] [] Fc Gc Fm Gm F1 G1 F2 G2) ∨ jEnd F1 F2) := by
  have I1 := I.next h (Int.le_refl _)
  unfold cb_X4_simple_84 mb_simple_34
  refine JP.L (cp_wadd 68 G1 (h.room (m := 1) I.1 I.2.2 (by omega))) ?_
  rintro r3 F3 G3 c1
  dsimp only
  refine JP.R (mp_em 18 0 0 F2 G2) ?_
  rintro r4 F4 G4 ⟨-, -, m2, -⟩
  dsimp only
  unfold cb_X4_simple_93 mb_simple_42
  have a := jAl.em (X := X) (p := p) (s := [0]) (s1 := []) (ws := [68]) I1.h7.1 I1.h7.2 I1.2.1 c1 m2 (fun z1 => .inr (.inr (.inr (.inr ⟨hX, .inr (.inr (.inr (.inr (.inr (.inr (.inr (.inr (.inr (.inl ⟨rfl, rfl, (c1.2.2 (I1.h7.2 z1)).2.2 0 68 rfl, rfl⟩)))))))))⟩))))
  exact JP.ret (.inl ⟨rfl, j, (h.tr a).ca (by omega) (by show (0 : Int) + ((1 : Nat) : Int) ≤ 1; omega)⟩)
/-- a SIMPLE -/
theorem js_simple (V : jV X p N K n q nf t i Fc Gc Fm Gm) : JP (cf_X4_simple fu Fc Gc) (mf_simple fu Fm Gm) (fun _ F1 G1 r2 F2 G2 => (r2 = 1 ∧ ∃ j : Nat, jAl X p N i j 0 1 [] [] [] Fc Gc Fm Gm F1 G1 F2 G2) ∨ jEnd F1 F2) := by
  have I := V.1
  have hX := V.2.1.1
  have z54 := V.2.1.2.1
  have hp := I.1.2.1
  have l0 : (0 : Int32).toInt = 0 := rfl
  have ix := I.2.1.1.ix I.1.1
  obtain ⟨pl0, pl1, pl2⟩ := I.2.1.1.place I.1.1
  unfold cf_X4_simple cb_X4_simple_0 mf_simple mb_simple_0
  refine JP.both (jo_name I.1.1 I.2.1.1) ?_
  rintro r1 F1 G1 r2 F2 G2 (⟨rfl, g4, h11, o⟩ | o)
  · dsimp only
    have li : i < N := I.2.1.1.lt I.1.1 (by rw [g4]; decide)
    obtain ⟨tk, tn, -⟩ := I.1.1.2.2.2.1 i li
    obtain ⟨id0, id1⟩ := tn g4
    have ev : Fc 12 = Gm 5 i := by
      have e12 : Fc 12 = Gc 91 i := I.2.1.1.2.2.2.2.2.2.2.2.2.1
      rcases tk.2 with ⟨-, -, z⟩ | ⟨z, -⟩ | ⟨z, -⟩ | ⟨z, -⟩
      · rw [e12, z]
      · rw [g4] at z; exact absurd z (by decide)
      · rw [g4] at z; exact absurd z (by decide)
      · rw [g4] at z; exact absurd z (by decide)
    have e0 := jAl.on (X := X) (p := p) (s := []) I.1 I.2.1 li (I.1.t1 li) o
    have I1 := I.next e0 (by omega)
    have sl : (F1 6).toInt + 2 ≤ 2 * (G2 6 (i + 1)).toInt + 100 := by
      have e6 : G2 6 = Gm 6 := e0.1.2.2 6 rfl
      have := e0.2.2.2.2.2.2.1
      have := I.2.2
      rw [e6]
      omega
    have h45 : F1 45 = p := I1.1.2.2.1.2.1
    have f54 : F2 54 = 0 := (e0.1.2.1 54 rfl).trans z54
    have f46 : F2 46 = p := I1.1.2.2.1.1
    have eM : G2 = Gm := o.2.1.1.symm
    rw [eM] at e0 I1 sl ⊢
    have no2 : ¬ F1 11 = -2 := by
      rcases I1.2.1.1.tk I1.1.1 with z | ⟨z, -⟩
      · intro y
        have := z.pos.1
        rw [y] at this
        exact absurd this (by decide)
      · rw [z]
        decide
    unfold cb_X4_simple_24 mb_simple_4
    rw [if_neg no2, if_pos (show F2 44 ≤ 0 by rw [I1.2.1.1.2.2.2.2.2.2.2.1]; decide)]
    unfold cb_X4_simple_37
    refine JP.L (cp_meant (K := K) (c := q + t) (Fc 12) (Fc 13) (fun z => ⟨(I1.1.2.2.2.2.2 (h45.symm.trans z)).2.2.2.2.1, by rw [ev]; exact id0, by rw [ev]; exact id1⟩) pl1) ?_
    rintro sym Fa _ ⟨rfl, ka, a0, a1⟩
    dsimp only
    have s19 := I1.sg (w := 22) (a := 19) (b := 22) (by decide) (by decide) (by decide)
    have s21 := I1.sg (w := 24) (a := 21) (b := 24) (by decide) (by decide) (by decide)
    have a11 : Fa 11 = F1 11 := ka.1 11 rfl
    have comp : ∀ (r1 : Int32) (F3 : PF) (G3 : PG) (r2 : Int32) (F4 : PF) (G4 : PG), ((r2 = 1 ∧ ∃ j : Nat, jAl X p N (i + 1) j 0 3 [] [] [] F1 G1 F2 Gm F3 G3 F4 G4) ∨ jEnd F3 F4) → ((r2 = 1 ∧ ∃ j : Nat, jAl X p N i j 0 1 [] [] [] Fc Gc Fm Gm F3 G3 F4 G4) ∨ jEnd F3 F4) := by
      rintro r1 F3 G3 r2 F4 G4 (⟨z, k, h⟩ | h)
      · exact .inl ⟨z, k, (e0.tr h).ca (by omega) (by omega)⟩
      · exact .inr h
    have comp1 : ∀ (r1 : Int32) (F3 : PF) (G3 : PG) (r2 : Int32) (F4 : PF) (G4 : PG), ((r2 = 1 ∧ ∃ j : Nat, jAl X p N (i + 1) j 0 1 [] [] [] F1 G1 F2 Gm F3 G3 F4 G4) ∨ jEnd F3 F4) → ((r2 = 1 ∧ ∃ j : Nat, jAl X p N i j 0 1 [] [] [] Fc Gc Fm Gm F3 G3 F4 G4) ∨ jEnd F3 F4) := by
      rintro r1 F3 G3 r2 F4 G4 (⟨z, k, h⟩ | h)
      · exact .inl ⟨z, k, (e0.tr h).ca (by omega) (by omega)⟩
      · exact .inr h
    unfold cb_X4_simple_46 mb_simple_14
    rw [a11]
    rcases hp with hp0 | hp1
    · obtain ⟨e1, e2⟩ := a0 (h45.trans hp0)
      have g46 : F2 46 = 0 := f46.trans hp0
      rw [e1, ← e2]
      refine JP.L (cp_wantP0 (Fc 13) (F1 11) F1 G1) ?_
      rintro _ _ _ ⟨rfl, rfl⟩
      dsimp only
      unfold cb_X4_simple_63
      refine JP.isS (fun hz => ?_) (fun hz => ?_)
      · dsimp only
        rw [if_pos (s19.mpr hz)]
        unfold mb_simple_20
        rw [if_neg i10n]
        unfold cb_X4_simple_75 mb_simple_23 cf_X3_call mf_call
        refine JP.both (je_call0 (dm := 300) (dc := 300) (s := []) (fun d _ => je_callT (fun d _ => jPx_all d)) I1 hp0 (by rw [ix, pl2])) ?_
        rintro r5 F5 G5 r6 F6 G6 (⟨rfl, j, h⟩ | h)
        · dsimp only
          unfold mb_simple_29
          rw [if_neg i10n]
          exact JP.mono (js_drop I1 hX h) comp1
        · dsimp only
          exact JP.fin (kqj_X4_simple_84 F5 G5 CFS.rf) (nqj_simple_29 _ F6 G6 MFS.rf) h (fun _ _ _ _ _ _ w => .inr w)
      · dsimp only
        rw [if_neg (fun w => by rw [s19.mp w] at hz; cases hz)]
        unfold mb_simple_20
        rw [if_pos rfl]
        unfold mb_simple_45
        rw [if_pos g46]
        unfold mb_simple_52 mb_simple_61
        rw [if_pos (show F2 46 ≤ 0 by rw [g46]; decide)]
        unfold mb_simple_86 mb_simple_87
        have go : ∀ x4 : Int32, ((x4 = 1 ∧ sgn (Gm 4) (Gm 5) (F2 42) 24 = true) ∨ (x4 = 0 ∧ sgn (Gm 4) (Gm 5) (F2 42) 24 = false)) → JP (cb_X4_simple_94 fu (-1) F1 G1) (mb_simple_94 fu (Fm 42) (-1) 0 x4 F2 Gm) (fun _ F1 G1 r2 F2 G2 => (r2 = 1 ∧ ∃ j : Nat, jAl X p N i j 0 1 [] [] [] Fc Gc Fm Gm F1 G1 F2 G2) ∨ jEnd F1 F2) := by
          intro x4 hx
          unfold mb_simple_94
          rw [if_pos rfl]
          unfold mb_simple_111
          rw [if_pos rfl]
          unfold mb_simple_148 mb_simple_149
          rw [if_pos rfl]
          unfold mb_simple_155
          rw [if_pos rfl]
          unfold mb_simple_160
          refine JP.ixR (fun _ => JP.R (mp_n0 g46 (by decide)) ?_)
          rintro _ _ _ ⟨rfl, rfl⟩
          dsimp only
          unfold mb_simple_172
          rw [if_pos rfl]
          unfold mb_simple_190 mb_simple_191
          rw [if_pos rfl]
          unfold mb_simple_211 mb_simple_212
          rw [if_pos rfl]
          unfold mb_simple_219
          refine JP.mono (js_body (kk := 1) I1 sl hX hx ⟨?_, .inl rfl, fun z => absurd (hp0.symm.trans z) (by decide)⟩ (fun _ => rfl) (fun z => absurd (hp0.symm.trans z) (by decide))) comp
          rcases hx with ⟨z, -⟩ | ⟨z, -⟩
          · exact .inr z
          · exact .inl z
        refine JP.isS (fun hy => ?_) (fun hy => ?_)
        · exact go 1 (.inl ⟨rfl, hy⟩)
        · exact go 0 (.inr ⟨rfl, hy⟩)
    · obtain ⟨a2, a3, a4⟩ := a1 (h45.trans hp1)
      rw [ev] at a2
      obtain ⟨x0, SA, SE, SU, SL, FT⟩ := I1.1.2.2.2.2.2 hp1
      have t9 := SE.2.2.1
      have t9' : t ≤ 690 := by omega
      have f4 := FT.2.1
      have g46 : F2 46 = 1 := f46.trans hp1
      have n46 : ¬ F2 46 = 0 := by rw [g46]; decide
      have n46' : ¬ F2 46 ≤ 0 := fun z => by have := i_le.mp z; rw [g46] at this; exact absurd this (by decide)
      have f14 := SE.1
      have f24 := SA.1
      have on : ¬ F1 45 = 0 := by rw [h45, hp1]; decide
      -- the reference, where it finds a fault
      have refN : ∀ m f : Int32, jMn nf t Gm (Gm 5 i) m f → (sgn (Gm 4) (Gm 5) (F2 42) 22 = true → f = -1) → (sgn (Gm 4) (Gm 5) (F2 42) 22 = false → ∀ e : Nat, e < t → m = nI e → ((sgn (Gm 4) (Gm 5) (F2 42) 24 = true → ¬ Gm 17 e = 2) ∧ (sgn (Gm 4) (Gm 5) (F2 42) 24 = false → ¬ Gm 17 e = 1))) → PP ((mf_isSign fu 22 F2 Gm).bind (fun q => mb_simple_20 fu (Fm 42) q.1 q.2.1 q.2.2)) (fun _ F' _ => ¬ F' 47 = 0) := by
        intro m f hm hf hme
        refine PP.bind (mp_isSign 22 F2 Gm) ?_
        rintro z _ _ ⟨rfl, rfl, hz⟩
        dsimp only
        unfold mb_simple_20
        rcases hz with ⟨rfl, hz⟩ | ⟨rfl, hz⟩
        · rw [if_neg i10n]
          unfold mb_simple_23 mf_call
          refine PP.bind (mp_callN (dm := 300) SU f14 f24 t9' f4 n46 f54 (by rw [ix]; exact hm) (hf hz)) ?_
          rintro r F3 G3 w
          dsimp only
          exact PP.mono (nqj_simple_29 _ F3 G3 MFS.rf) (fun _ F' _ y v => w (y.2.1 v))
        · rw [if_pos rfl]
          unfold mb_simple_45
          rw [if_neg n46]
          unfold mb_simple_56
          refine PP.bind (mp_meanX (Fm 42) SU f14 f24 (by omega) (by omega) (by rw [ix]; exact hm)) ?_
          rintro m' F3 _ ⟨rfl, kx, rfl, k62⟩
          dsimp only
          have h46 : ¬ F3 46 = 0 := by rw [kx.1 46 rfl]; exact n46
          unfold mb_simple_61
          rw [if_neg (show ¬ F3 46 ≤ 0 by rw [kx.1 46 rfl]; exact n46')]
          have k172 : ∀ (x4 : Int32) (F5 : PF) (G5 : PG), ¬ F5 47 = 0 → PP (mb_simple_172 fu m x4 F5 G5) (fun _ F' _ => ¬ F' 47 = 0) := fun x4 F5 G5 w => PP.mono (nqj_simple_172 _ _ F5 G5 MFS.rf) (fun _ F' _ y v => w (y.2.1 v))
          have k160 : ∀ (x4 : Int32), PP (mb_simple_160 fu (Fm 42) m x4 F3 Gm) (fun _ F' _ => ¬ F' 47 = 0) := by
            intro x4
            unfold mb_simple_160
            exact PP.ix (fun _ => mp_nt (A := fun F' G' => mb_simple_172 fu m x4 F' G') h46 (by decide) (fun F' G' => nqj_simple_172 _ _ F' G' MFS.rf))
          -- no meaning, or one that does not fit
          have k87 : ∀ x3 : Int32, ((x3 = 1 ∧ m = -1) ∨ (x3 = 0 ∧ ¬ (m = -1 ∧ f = -1))) → PP (mb_simple_87 fu (Fm 42) m x3 F3 Gm) (fun _ F' _ => ¬ F' 47 = 0) := by
            intro x3 h3
            unfold mb_simple_87
            refine PP.bind (mp_isSign 24 F3 Gm) ?_
            rintro x4 _ _ ⟨rfl, rfl, hy⟩
            dsimp only
            rw [kx.1 42 rfl] at hy
            unfold mb_simple_94
            rcases h3 with ⟨y1, y2⟩ | ⟨y1, y2⟩
            · rw [y1, if_neg i10n]
              unfold mb_simple_100
              exact PP.ix (fun _ => mp_nt (A := fun F' G' => mb_simple_111 fu (Fm 42) m 1 x4 F' G') h46 (by decide) (fun F' G' => nqj_simple_111 _ _ _ _ F' G' MFS.rf))
            · rw [y1, if_pos rfl]
              have k148 : PP (mb_simple_148 fu (Fm 42) m 0 x4 F3 Gm) (fun _ F' _ => ¬ F' 47 = 0) := by
                unfold mb_simple_148 mb_simple_149
                rw [if_pos rfl]
                unfold mb_simple_155
                rw [if_pos rfl]
                exact k160 x4
              unfold mb_simple_111
              by_cases cm : m = -1
              · rw [if_pos cm]
                exact k148
              · rw [if_neg cm]
                obtain ⟨e, e1, e2⟩ : ∃ e : Nat, e < t ∧ m = nI e := by
                  rcases hm with ⟨-, e, e1, e2, -⟩ | ⟨e1, -⟩
                  · exact ⟨e, e1, e2⟩
                  · exact absurd e1 cm
                have em : m.toNatClampNeg = e := by rw [e2]; exact nI_c e (by omega)
                obtain ⟨n1, n2⟩ := hme hz e e1 e2
                unfold mb_simple_116
                rcases hy with ⟨v1, v2⟩ | ⟨v1, v2⟩
                · rw [v1] at k148
                  rw [v1, if_neg i10n]
                  unfold mb_simple_121
                  rw [em]
                  exact PP.ix (fun _ => PP.ite (fun w => absurd w (n1 v2)) (fun _ => k148))
                · rw [v1] at k148
                  rw [v1, if_pos rfl]
                  unfold mb_simple_134
                  rw [em]
                  exact PP.ix (fun _ => PP.ite (fun w => absurd w (n2 v2)) (fun _ => k148))
          unfold mb_simple_69
          by_cases cm : m = -1
          · rw [if_pos cm]
            unfold mb_simple_74
            rw [k62]
            by_cases cf : f = -1
            · rw [if_pos cf]
              unfold mb_simple_82
              exact k87 1 (.inl ⟨rfl, cm⟩)
            · rw [if_neg cf]
              unfold mb_simple_86
              exact k87 0 (.inr ⟨rfl, fun y => cf y.2⟩)
          · rw [if_neg cm]
            unfold mb_simple_86
            exact k87 0 (.inr ⟨rfl, fun y => cm y.1⟩)
      have bad : ∀ (m f : Int32) (F3 : PF) (G3 : PG), jMn nf t Gm (Gm 5 i) m f → (sgn (Gm 4) (Gm 5) (F2 42) 22 = true → f = -1) → (sgn (Gm 4) (Gm 5) (F2 42) 22 = false → ∀ e : Nat, e < t → m = nI e → ((sgn (Gm 4) (Gm 5) (F2 42) 24 = true → ¬ Gm 17 e = 2) ∧ (sgn (Gm 4) (Gm 5) (F2 42) 24 = false → ¬ Gm 17 e = 1))) → (F3 43).toInt ≤ 4000 → JP (cb_X4_simple_63 fu (Fc 13) sym F3 G3) ((mf_isSign fu 22 F2 Gm).bind (fun q => mb_simple_20 fu (Fm 42) q.1 q.2.1 q.2.2)) (fun _ F1 G1 r2 F2 G2 => (r2 = 1 ∧ ∃ j : Nat, jAl X p N i j 0 1 [] [] [] Fc Gc Fm Gm F1 G1 F2 G2) ∨ jEnd F1 F2) := by
        intro m f F3 G3 hm hf hme h43
        exact JP.pp (kqj_X4_simple_63 _ _ F3 G3 CFS.rf) (refN m f hm hf hme) (fun r1 F5 G5 r2 F6 G6 z1 z2 => .inr (.inl ⟨z1.2 h43, z2⟩))
      rcases jMn.of SA SE a2 with ⟨z1, z2⟩ | ⟨e, z1, z2, z3⟩ | ⟨j2, g2, z1, z2, z3, z4, z5, z6, z7⟩
      · rw [z1]
        refine JP.L (cp_wantP0 (Fc 13) (F1 11) Fa G1) ?_
        rintro _ _ _ ⟨rfl, rfl⟩
        rw [← z1]
        exact bad _ _ Fa G1 z2 (fun _ => rfl) (fun _ e e1 e2 => absurd e2.symm (nI_n1 (by omega))) (a3 z1)
      · have ea := a4 (by rw [z2]; exact nI_n1 (by omega))
        rw [← ea]
        obtain ⟨n1, n2, n3, n4, n5, n6⟩ := SE.2.2.2.2.2 e z1
        have k0 : ¬ G1 35 (q + e) = -1 := by
          rcases n6 with ⟨y, -⟩ | ⟨y, -⟩ | ⟨κ, y0, y, -⟩
          · rw [y]; decide
          · rw [y]; decide
          · rw [y]; exact nI_n1 (by omega)
        have k4 := n6.no4
        refine JP.L (cp_wantP (j := q + e) (c := q + t) (Fc 13) (F1 11) SE.2.1 (by omega) (by omega) z2 on pl1 k0) ?_
        rintro _ F3 _ ⟨rfl, y1, y2⟩
        dsimp only
        by_cases gd : jFits (G1 35 (q + e)) (F1 11)
        · rw [← y1 gd]
          have np : ¬ F1 11 = 19 := fun z => k4 (gd.1 z)
          unfold cb_X4_simple_63
          rw [if_neg np]
          refine JP.isS (fun hz => absurd (s19.mpr hz) np) (fun hz => ?_)
          dsimp only
          unfold mb_simple_20
          rw [if_pos rfl]
          unfold mb_simple_45
          rw [if_neg n46]
          unfold mb_simple_56
          refine JP.R (mp_meanX (Fm 42) SU f14 f24 (by omega) (by omega) (by rw [ix]; exact z3)) ?_
          rintro m' F4 _ ⟨rfl, kx, rfl, k62⟩
          dsimp only
          have ne : ¬ nI e = (-1 : Int32) := nI_n1 (by omega)
          have en : (nI e).toNatClampNeg = e := nI_c e (by omega)
          have a5 := jAl.mm (X := X) (p := p) (s := []) I1.2.1 (KX.tr (a := [55, 62]) (b := []) KX.rf kx rfl rfl) (fun _ => kx.1 55 rfl)
          have I4 := I1.next a5 (Int.le_refl _)
          unfold mb_simple_61
          rw [if_neg (show ¬ F4 46 ≤ 0 by rw [kx.1 46 rfl]; exact n46')]
          unfold mb_simple_69
          rw [if_neg ne]
          unfold mb_simple_86 mb_simple_87
          have c42 : F4 42 = F2 42 := kx.1 42 rfl
          have go : ∀ (x4 : Int32) (kk : Nat), (kk = 1 ∨ kk = 2) → ((x4 = 1 ∧ sgn (Gm 4) (Gm 5) (F4 42) 24 = true) ∨ (x4 = 0 ∧ sgn (Gm 4) (Gm 5) (F4 42) 24 = false)) → ((x4 = 0 ∧ Gm 17 e = 1) ∨ (x4 = 1 ∧ Gm 17 e = 2 ∧ G1 35 (q + e) = nI (kk + 1) ∧ Gm 22 e = nI (kk - 1))) → JP (cb_X4_simple_94 fu sym F1 G1) (mb_simple_172 fu (nI e) x4 F4 Gm) (fun _ F1 G1 r2 F2 G2 => (r2 = 1 ∧ ∃ j : Nat, jAl X p N i j 0 1 [] [] [] Fc Gc Fm Gm F1 G1 F2 G2) ∨ jEnd F1 F2) := by
            intro x4 kk hkk hx hw
            refine mp_s172 (by omega) (fun x6 x7 h6 h7 => ?_)
            refine JP.mono (js_body (kk := kk) I4 sl hX hx ⟨?_, hkk, fun _ => ⟨e, z1, z2, ?_⟩⟩ (fun z => absurd (hp1.symm.trans z) (by decide)) (fun _ => ⟨e, z1, z2, rfl⟩)) ?_
            · rcases hx with ⟨z, -⟩ | ⟨z, -⟩
              · exact .inr z
              · exact .inl z
            · rcases hw with ⟨w1, w2⟩ | ⟨w1, w2, w3, w4⟩
              · exact .inl ⟨w1, w2, rfl, h7⟩
              · refine .inr ⟨w1, w2, w3, ?_⟩
                rcases hkk with v | v
                · refine .inl ⟨v, ?_⟩
                  rcases h6 with ⟨u1, -⟩ | ⟨-, u2⟩
                  · exact u1
                  · rw [w4, v] at u2
                    exact absurd rfl u2
                · refine .inr ⟨v, ?_⟩
                  rcases h6 with ⟨-, u2⟩ | ⟨u1, -⟩
                  · rw [w4, v] at u2
                    exact absurd u2 (by decide)
                  · exact u1
            · rintro r1 F5 G5 r2 F6 G6 (⟨y, k, h⟩ | h)
              · exact .inl ⟨y, k, (e0.tr (a5.tr h)).ca (by omega) (by omega)⟩
              · exact .inr h
          refine JP.isS (fun hy => ?_) (fun hy => ?_)
          · dsimp only
            have hy' := hy
            rw [c42] at hy'
            obtain ⟨kk, hkk, w1, w2, w3⟩ : ∃ kk : Nat, (kk = 1 ∨ kk = 2) ∧ G1 35 (q + e) = nI (kk + 1) ∧ Gm 17 e = 2 ∧ Gm 22 e = nI (kk - 1) := by
              have gk := gd.2.1 (s21.mpr hy')
              rcases n6 with ⟨y, -⟩ | ⟨y, -⟩ | ⟨κ, y0, y, y3, y4, -⟩
              · rw [y] at gk
                rcases gk with v | v <;> exact absurd v (by decide)
              · rw [y] at gk
                rcases gk with v | v <;> exact absurd v (by decide)
              · exact ⟨κ, y0, y, y3, y4⟩
            unfold mb_simple_94
            rw [if_pos rfl]
            unfold mb_simple_111
            rw [if_neg ne]
            unfold mb_simple_116
            rw [if_neg i10n]
            unfold mb_simple_121
            refine JP.ixR (fun _ => ?_)
            rw [en, if_pos w2]
            unfold mb_simple_131 mb_simple_144 mb_simple_149
            rw [if_pos rfl]
            unfold mb_simple_155
            rw [if_neg i10n]
            exact go 1 kk hkk (.inl ⟨rfl, hy⟩) (.inr ⟨rfl, w2, w1, w3⟩)
          · dsimp only
            have hy' := hy
            rw [c42] at hy'
            have w2 : Gm 17 e = 1 := by
              have gk := gd.2.2 np (fun v => by rw [s21.mp v] at hy'; cases hy')
              rcases n6 with ⟨y, -⟩ | ⟨-, y, -⟩ | ⟨κ, y0, y, -⟩
              · rw [y] at gk
                exact absurd gk (by decide)
              · exact y
              · rw [y] at gk
                rcases y0 with v | v
                · rw [v] at gk
                  exact absurd gk (by decide)
                · rw [v] at gk
                  exact absurd gk (by decide)
            unfold mb_simple_94
            rw [if_pos rfl]
            unfold mb_simple_111
            rw [if_neg ne]
            unfold mb_simple_116
            rw [if_pos rfl]
            unfold mb_simple_134
            refine JP.ixR (fun _ => ?_)
            rw [en, if_pos w2]
            unfold mb_simple_144 mb_simple_149
            rw [if_pos rfl]
            unfold mb_simple_155
            rw [if_neg i10n]
            exact go 0 1 (.inl rfl) (.inr ⟨rfl, hy⟩) (.inl ⟨rfl, w2⟩)
        · refine bad _ _ F3 G1 z3 (fun _ => rfl) (fun hz e' e1 e2 => ?_) (y2 gd)
          have ee : e' = e := (nI_ij e2 (by omega) (by omega)).symm
          have np : ¬ F1 11 = 19 := fun v => by rw [s19.mp v] at hz; cases hz
          rw [ee]
          refine ⟨fun hy w => gd ⟨fun v => absurd v np, fun _ => ?_, fun _ v => absurd (s21.mpr hy) v⟩, fun hy w => gd ⟨fun v => absurd v np, fun v => ?_, fun _ _ => ?_⟩⟩
          · rcases n6 with ⟨-, y, -⟩ | ⟨-, y, -⟩ | ⟨κ, y0, y, -⟩
            · rw [w] at y
              exact absurd y (by decide)
            · rw [w] at y
              exact absurd y (by decide)
            · rw [y]
              rcases y0 with v | v
              · rw [v]; exact .inl (by decide)
              · rw [v]; exact .inr (by decide)
          · rw [s21.mp v] at hy
            cases hy
          · rcases n6 with ⟨-, y, -⟩ | ⟨y, -⟩ | ⟨κ, y0, -, y, -⟩
            · rw [w] at y
              exact absurd y (by decide)
            · exact y
            · rw [w] at y
              exact absurd y (by decide)
      · have ea := a4 (by rw [z3]; exact nI_n1 (by omega))
        rw [← ea]
        refine JP.L (cp_wantP (j := j2) (c := q + t) (Fc 13) (F1 11) SE.2.1 (by omega) (by omega) z3 on pl1 (by rw [z6]; decide)) ?_
        rintro _ F3 _ ⟨rfl, y1, y2⟩
        rw [z6] at y1 y2
        dsimp only
        by_cases pa : F1 11 = 19
        · have gd : jFits 4 (F1 11) := ⟨fun _ => rfl, fun v => by rw [pa] at v; exact absurd v (by decide), fun v => absurd pa v⟩
          rw [← y1 gd]
          unfold cb_X4_simple_63
          rw [if_pos pa]
          refine JP.isS (fun hz => ?_) (fun hz => ?_)
          · dsimp only
            unfold mb_simple_20
            rw [if_neg i10n]
            unfold cb_X4_simple_75 mb_simple_23 cf_X3_call mf_call
            refine JP.both (je_call1 (dm := 300) (dc := 300) (s := []) (fun d _ => je_callT (fun d _ => jPx_all d)) I1 hp1 hX (by rw [ix, pl2]) z1 z2 z3 z5 z6 (by rw [ix]; exact z4) (.inl rfl)) ?_
            rintro r5 F5 G5 r6 F6 G6 (⟨rfl, j, h⟩ | h)
            · dsimp only
              unfold mb_simple_29
              rw [if_neg i10n]
              exact JP.mono (js_drop I1 hX h) comp1
            · dsimp only
              exact JP.fin (kqj_X4_simple_84 F5 G5 CFS.rf) (nqj_simple_29 _ F6 G6 MFS.rf) h (fun _ _ _ _ _ _ w => .inr w)
          · rw [s19.mp pa] at hz
            cases hz
        · have gd : ¬ jFits 4 (F1 11) := fun v => by
            by_cases sq : F1 11 = 21
            · rcases v.2.1 sq with y | y <;> exact absurd y (by decide)
            · exact absurd (v.2.2 pa sq) (by decide)
          refine bad _ _ F3 G1 z4 (fun hz => absurd (s19.mpr hz) pa) (fun _ e e1 e2 => absurd e2.symm (nI_n1 (by omega))) (y2 gd)
  · dsimp only
    exact JP.fin (kqj_X4_simple_24 _ _ F1 G1 CFS.rf) (nqj_simple_4 _ F2 G2 MFS.rf) (.inr o) (fun _ _ _ _ _ _ w => .inr w)
end JW8X
