theorem JP.iteRR {c : Prop} [Decidable c] {a A B : PR} {g : Int32 × PF × PG → PR} {Q : Int32 → PF → PG → Int32 → PF → PG → Prop} (h1 : c → JP a (A.bind g) Q) (h2 : ¬ c → JP a (B.bind g) Q) : JP a ((if c then A else B).bind g) Q := by
  by_cases h : c
  · rw [if_pos h]
    exact h1 h
  · rw [if_neg h]
    exact h2 h
theorem pr_bs (a : PR) : a.bind some = a := by
  cases a <;> rfl
section JW9C
variable {fu : Nat} {X : JCX} {p : Int32} {N K n q nf t i j : Nat} {κ : Int} {cid pl x3 x1 : Int32} {Fa Fb Fc Fm F1 F2 : PF} {Ga Gb Gc Gm G1 G2 : PG}
theorem KX.nog {a : List Nat} {F F1 : PF} {G G1 : PG} (h : KX a [] F G F1 G1) : G1 = G := funext (fun k => h.2 k rfl)
/-- the reference's room for an int, whatever it finds -/
theorem mt_any {V : Int32 → PF → PG → Prop} (H : ∀ (x4 : Int32) (F' : PF), KX [47, 48, 49, 52, 53] [] Fb Gb F' Gb → PP (mb_tellHere_277 fu x1 x3 x4 F' Gb) V) : PP (mb_tellHere_210 fu x1 x3 Fb Gb) V := by
  unfold mb_tellHere_210
  refine PP.bind (mw_twice x3 Fb Gb) ?_
  rintro _ F1 G1 k
  have eg := k.nog
  subst eg
  dsimp only
  unfold mb_tellHere_215 mb_tellHere_225
  have k1 : KX [47, 48, 49, 52, 53] [] Fb G1 (fup F1 52 (F1 52 + 1)) G1 := KX.f rfl (KX.tr KX.rf k rfl rfl)
  have k247 : ∀ F' : PF, KX [47, 48, 49, 52, 53] [] Fb G1 F' G1 → PP (mb_tellHere_247 fu x1 x3 F' G1) V := by
    intro F' k'
    unfold mb_tellHere_247 mb_tellHere_272 mb_tellHere_268 mb_tellHere_273
    exact PP.ite (fun _ => H _ _ (KX.f rfl k')) (fun _ => H _ _ (KX.f rfl k'))
  refine PP.ite (fun _ => k247 _ k1) (fun _ => ?_)
  unfold mb_tellHere_235
  refine PP.ix (fun _ => PP.bind (mw_note 11 _ _ G1) ?_)
  rintro _ F2 G2 k2
  have eg := k2.nog
  subst eg
  exact k247 F2 (KX.tr k1 k2 rfl rfl)
/-- the reference finds that an int is told twice, or has no room -/
theorem mt_bad (h14 : (Fb 14).toInt = t) (ht : t ≤ 900) (h24 : (Fb 24).toInt = nf) (hn : nf ≤ 500) (h46 : ¬ Fb 46 = 0) (hb : jTw nf t x3 Fb Gb ∨ ¬ (Fb 52 + 1) ≤ 200) : PP (mb_tellHere_210 fu x1 x3 Fb Gb) (fun _ F' _ => ¬ F' 47 = 0) := by
  unfold mb_tellHere_210
  refine PP.bind (mp_twice (nf := nf) (t := t) h14 ht h24 hn h46) ?_
  rintro _ F1 _ ⟨rfl, y1, y2⟩
  dsimp only
  by_cases T : jTw nf t x3 Fb Gb
  · have y := y1 T
    exact PP.mono (nqj_tellHere_215 _ _ F1 Gb MFS.rf) (fun _ F' _ z v => y (z.2.1 v))
  · rw [← y2 T]
    have z : ¬ (Fb 52 + 1) ≤ 200 := by
      rcases hb with z | z
      · exact absurd z T
      · exact z
    unfold mb_tellHere_215 mb_tellHere_225
    rw [fup_s, if_neg z]
    unfold mb_tellHere_235
    exact PP.ix (fun _ => mp_nt (A := fun F' G' => mb_tellHere_247 fu x1 x3 F' G') (by rw [fup_n (by decide)]; exact h46) (by decide) (fun F' G' => nqj_tellHere_247 _ _ F' G' MFS.rf))
/-- the reference's room for an int, where it may stand -/
theorem mt_go {a : PR} {Q : Int32 → PF → PG → Int32 → PF → PG → Prop} (VA : jV X p N K n q nf t j Fa Ga Fb Gb) (hg : p = 1 → ¬ jTw nf t x3 Fb Gb ∧ (Fb 52 + 1) ≤ 200) (H : ∀ F' : PF, KX [52, 53] [] Fb Gb F' Gb → (p = 1 → F' 52 = Fb 52 + 1 ∧ F' 53 = Fb 53 + 1) → JP a (mb_tellHere_277 fu x1 x3 (Fb 53) F' Gb) Q) : JP a (mb_tellHere_210 fu x1 x3 Fb Gb) Q := by
  have hp := VA.1.1.2.1
  have e46 := VA.1.1.2.2.1.1
  have k1 : KX [52, 53] [] Fb Gb (fup Fb 52 (Fb 52 + 1)) Gb := KX.f rfl KX.rf
  have f52 : fup Fb 52 (Fb 52 + 1) 52 = Fb 52 + 1 := fup_s
  have f53 : fup Fb 52 (Fb 52 + 1) 53 = Fb 53 := fup_n (by decide)
  unfold mb_tellHere_210
  rcases hp with hp0 | hp1
  · have no : p = 1 → False := fun z => by rw [hp0] at z; exact absurd z (by decide)
    refine JP.R (mp_twice0 (e46.trans hp0)) ?_
    rintro _ _ _ ⟨rfl, rfl⟩
    dsimp only
    unfold mb_tellHere_215 mb_tellHere_225
    have k247 : JP a (mb_tellHere_247 fu x1 x3 (fup Fb 52 (Fb 52 + 1)) Gb) Q := by
      unfold mb_tellHere_247 mb_tellHere_272 mb_tellHere_268 mb_tellHere_273
      rw [f53]
      exact JP.iteR (fun _ => H _ (KX.f rfl k1) (fun z => (no z).elim)) (fun _ => H _ (KX.f rfl k1) (fun z => (no z).elim))
    refine JP.iteR (fun _ => k247) (fun _ => ?_)
    unfold mb_tellHere_235
    refine JP.ixR (fun _ => JP.R (mp_n0 (by rw [fup_n (by decide)]; exact e46.trans hp0) (by decide)) ?_)
    rintro _ _ _ ⟨rfl, rfl⟩
    exact k247
  · obtain ⟨nt, h200⟩ := hg hp1
    obtain ⟨-, SA, SE, SU, SL, FT⟩ := VA.1.1.2.2.2.2.2 hp1
    have t9 := SE.2.2.1
    have f4 := FT.2.1
    refine JP.R (mp_twice (fu := fu) (x1 := x3) (nf := nf) (t := t) SE.1 (by omega) SA.1 (by omega) (by rw [e46, hp1]; decide)) ?_
    rintro _ F1 _ ⟨rfl, -, y⟩
    dsimp only
    rw [← y nt]
    unfold mb_tellHere_215 mb_tellHere_225
    rw [f52, if_pos h200]
    unfold mb_tellHere_247
    rw [f52, if_pos h200]
    unfold mb_tellHere_272 mb_tellHere_273
    rw [f53]
    exact H _ (KX.f rfl k1) (fun _ => ⟨by rw [fup_n (by decide)]; exact f52, fup_s⟩)
/-- int with its value, from behind the name -/
theorem jd_eq (M : jNm X p N K n q nf t i cid pl x3 Fc Gc Fm Gm Fa Ga Fb Gb) (hz : sgn (Gb 4) (Gb 5) (Fb 42) 32 = true) : JP (cb_X4_localTold_127 fu cid pl Fa Ga) (mb_tellHere_210 fu x1 x3 Fb Gb) (fun _ F1 G1 r2 F2 G2 => jOd X p N K n q nf i Fc Gc Fm Gm r2 F1 G1 F2 G2) := by
  have VA := M.va
  have KN := M.kn
  have M0 := M
  obtain ⟨V, a, ⟨e1, e2, e3, e4⟩, g1, g2, g3⟩ := M
  have hp := V.1.1.2.1
  have I := VA.1
  have li := I.2.1.1.ltS I.1.1 hz
  have sg := of_decide_eq_true hz
  rw [I.2.1.1.ix I.1.1, show Gb 4 = Gm 4 from a.1.2.2 4 rfl, show Gb 5 = Gm 5 from a.1.2.2 5 rfl] at sg
  -- where it may stand
  have good : (p = 1 → ¬ jTw nf t x3 Fb Gb ∧ (Fb 52 + 1) ≤ 200) → JP (cb_X4_localTold_127 fu cid pl Fa Ga) (mb_tellHere_210 fu x1 x3 Fb Gb) (fun _ F1 G1 r2 F2 G2 => jOd X p N K n q nf i Fc Gc Fm Gm r2 F1 G1 F2 G2) := by
    intro hg
    refine mt_go VA hg (fun F' kb hb => ?_)
    have SB : jS X p N K n q nf t Fa Ga F' Gb := VA.1.1.keepV KX.rf (KX.tr KX.rf kb rfl rfl) rfl (kb.1 54 rfl)
    have DB : jD N (i + 2) Fa Ga F' Gb := VA.1.2.1.mv KX.rf (KX.tr KX.rf kb rfl rfl)
    have IB : jIn X p N K n q nf t (i + 2) Fa Ga F' Gb := ⟨SB, DB, VA.1.2.2⟩
    have hz' : sgn (Gb 4) (Gb 5) (F' 42) 32 = true := by rw [kb.1 42 rfl]; exact hz
    unfold mb_tellHere_277
    refine JP.isS (fun _ => ?_) (fun y => by rw [hz'] at y; cases y)
    dsimp only
    unfold mb_tellHere_283
    rw [if_neg i10n]
    unfold cb_X4_localTold_127 mb_tellHere_286
    refine JP.L (jo_next SB.1 DB.1 li) ?_
    rintro r F3 G3 (o | o)
    · dsimp only
      have e5 := jAl.on (X := X) (p := p) (s := []) SB DB li (SB.t1 li) o
      have I5 := IB.next e5 (by omega)
      generalize fup F' 42 (F' 42 + 1) = F4 at e5 I5 ⊢
      unfold cb_X4_localTold_134 mb_tellHere_296 cf_X3_expression mf_expression
      refine JP.both (jPx_all 300 300 (i + 2 + 1) [] F3 G3 F4 Gb I5) ?_
      rintro r5 F5 G5 r6 F6 G6 (⟨rfl, k, h⟩ | h)
      · dsimp only
        unfold cb_X4_localTold_141 mb_tellHere_300
        rw [if_neg i10n]
        refine JP.bL (jd_fin M0 kb ((e5.tr h).ca (by omega) (Int.le_refl _)) (by omega) (fun _ => rfl) (fun z => ⟨(hb z).1, (hb z).2, (hg z).2⟩) (fun z => (hg z).1) (fun _ => ⟨sg.1, by rw [sg.2]; decide⟩)) ?_
        rintro r1 F7 G7 r2 F8 G8 y
        dsimp only
        unfold cb_X4_localTold_148 cb_X4_localTold_168
        exact PP.ret y
      · dsimp only
        exact JP.fin (kqj_X4_localTold_141 _ _ F5 G5 CFS.rf) (nqj_tellHere_300 _ _ _ F6 G6 MFS.rf) h (fun _ _ _ _ _ _ w => .inr w)
    · dsimp only
      exact JP.fin (kqj_X4_localTold_134 _ _ F3 G3 CFS.rf) (nqj_tellHere_296 _ _ _ Gb MFS.rf) (.inr o) (fun _ _ _ _ _ _ w => .inr w)
  rcases hp with hp0 | hp1
  · exact good (fun z => absurd (hp0.symm.trans z) (by decide))
  · by_cases c : ¬ jTw nf t x3 Fb Gb ∧ (Fb 52 + 1) ≤ 200
    · exact good (fun _ => c)
    · obtain ⟨r, kn, th⟩ := KN hp1
      obtain ⟨-, ⟨o1, o2, -⟩, -⟩ := VA.2.2.2.2.2 hp1
      obtain ⟨-, SA, SE, SU, SL, FT⟩ := VA.1.1.2.2.2.2.2 hp1
      have t9 := SE.2.2.1
      have f4 := FT.2.1
      have cb : jTw nf t x3 Fb Gb ∨ ¬ (Fb 52 + 1) ≤ 200 := by
        by_cases T : jTw nf t x3 Fb Gb
        · exact .inl T
        · exact .inr (fun y => c ⟨T, y⟩)
      refine JP.pp (V := fun _ F' _ => (F' 43).toInt ≤ 4000) ?_ (mt_bad (nf := nf) (t := t) SE.1 (by omega) SA.1 (by omega) (by rw [VA.1.1.2.2.1.1, hp1]; decide) cb) (fun r1 F5 G5 r2 F6 G6 z1 z2 => .inr (.inl ⟨z1, z2⟩))
      unfold cb_X4_localTold_127
      refine PP.bind (cw_X2_next Fa Ga) ?_
      rintro _ F3 G3 k3
      dsimp only
      unfold cb_X4_localTold_134
      refine PP.bind (cw_X3_expression F3 G3) ?_
      rintro _ F4 G4 k4
      dsimp only
      unfold cb_X4_localTold_141
      have e42 : F4 42 = Fa 42 := (k4.1 42 rfl).trans (k3.1 42 rfl)
      have e50 : F4 50 = Fb 52 := (k4.1 50 rfl).trans ((k3.1 50 rfl).trans o2)
      refine PP.bind (cp_lintN ((kn.kx k3 rfl rfl).kx k4 rfl rfl) ?_) ?_
      · rcases cb with y | y
        · refine .inl ?_
          rw [e42]
          exact ((th.mp y).kx k3 rfl).kx k4 rfl
        · exact .inr (by rw [e50]; exact y)
      · rintro _ F5 G5 y
        dsimp only
        exact PP.mono (kqj_X4_localTold_148 F5 G5 CFS.rf) (fun _ F' _ z => z.2 y)
/-- int alone, from behind the name -/
theorem jd_no (M : jNm X p N K n q nf t i cid pl x3 Fc Gc Fm Gm Fa Ga Fb Gb) (hz : sgn (Gb 4) (Gb 5) (Fb 42) 32 = false) (hs : sgn (Gb 4) (Gb 5) (Fb 42) 29 = true) : JP (cb_X4_localTold_151 fu cid pl Fa Ga) (mb_tellHere_210 fu 1 x3 Fb Gb) (fun _ F1 G1 r2 F2 G2 => jOd X p N K n q nf i Fc Gc Fm Gm r2 F1 G1 F2 G2) := by
  have VA := M.va
  have KN := M.kn
  have M0 := M
  obtain ⟨V, a, ⟨e1, e2, e3, e4⟩, g1, g2, g3⟩ := M
  have hp := V.1.1.2.1
  have I := VA.1
  have sg := of_decide_eq_true hs
  rw [I.2.1.1.ix I.1.1, show Gb 4 = Gm 4 from a.1.2.2 4 rfl, show Gb 5 = Gm 5 from a.1.2.2 5 rfl] at sg
  have good : (p = 1 → ¬ jTw nf t x3 Fb Gb ∧ (Fb 52 + 1) ≤ 200) → JP (cb_X4_localTold_151 fu cid pl Fa Ga) (mb_tellHere_210 fu 1 x3 Fb Gb) (fun _ F1 G1 r2 F2 G2 => jOd X p N K n q nf i Fc Gc Fm Gm r2 F1 G1 F2 G2) := by
    intro hg
    refine mt_go VA hg (fun F' kb hb => ?_)
    have SB : jS X p N K n q nf t Fa Ga F' Gb := VA.1.1.keepV KX.rf (KX.tr KX.rf kb rfl rfl) rfl (kb.1 54 rfl)
    have DB : jD N (i + 2) Fa Ga F' Gb := VA.1.2.1.mv KX.rf (KX.tr KX.rf kb rfl rfl)
    have IB : jIn X p N K n q nf t (i + 2) Fa Ga F' Gb := ⟨SB, DB, VA.1.2.2⟩
    have hz' : sgn (Gb 4) (Gb 5) (F' 42) 32 = false := by rw [kb.1 42 rfl]; exact hz
    unfold mb_tellHere_277
    refine JP.isS (fun y => by rw [hz'] at y; cases y) (fun _ => ?_)
    dsimp only
    unfold mb_tellHere_283
    rw [if_pos rfl]
    unfold mb_tellHere_305
    rw [if_neg i10n]
    unfold cb_X4_localTold_151 mb_tellHere_309
    refine JP.L (cp_wpair 66 0 Ga (jAl.room (m := 2) (κ := 0) SB (jAl.rf (X := X) (p := p) (s := []) DB) VA.1.2.2 (by omega))) ?_
    rintro r5 F5 G5 c1
    dsimp only
    refine JP.R (mp_em 0 0 0 F' Gb) ?_
    rintro r6 F6 G6 ⟨-, -, m2, -⟩
    dsimp only
    have h : jAl X p N (i + 2) (i + 2) 0 2 [] [0] [] Fa Ga F' Gb F5 G5 F6 G6 := jAl.em (ws := [66, 0]) IB.h7.1 IB.h7.2 DB c1 m2 (fun z => .inl ⟨rfl, rfl, (c1.2.2 (IB.h7.2 z)).2.2 0 66 rfl, (c1.2.2 (IB.h7.2 z)).2.2 1 0 rfl, rfl⟩)
    unfold cb_X4_localTold_161 mb_tellHere_316
    refine JP.bL (jd_fin M0 kb h (Int.le_refl _) (fun _ => rfl) (fun z => ⟨(hb z).1, (hb z).2, (hg z).2⟩) (fun z => (hg z).1) (fun _ => ⟨sg.1, by rw [sg.2]; decide⟩)) ?_
    rintro r1 F7 G7 r2 F8 G8 y
    dsimp only
    unfold cb_X4_localTold_168
    exact PP.ret y
  rcases hp with hp0 | hp1
  · exact good (fun z => absurd (hp0.symm.trans z) (by decide))
  · by_cases c : ¬ jTw nf t x3 Fb Gb ∧ (Fb 52 + 1) ≤ 200
    · exact good (fun _ => c)
    · obtain ⟨r, kn, th⟩ := KN hp1
      obtain ⟨-, ⟨o1, o2, -⟩, -⟩ := VA.2.2.2.2.2 hp1
      obtain ⟨-, SA, SE, SU, SL, FT⟩ := VA.1.1.2.2.2.2.2 hp1
      have t9 := SE.2.2.1
      have f4 := FT.2.1
      have cb : jTw nf t x3 Fb Gb ∨ ¬ (Fb 52 + 1) ≤ 200 := by
        by_cases T : jTw nf t x3 Fb Gb
        · exact .inl T
        · exact .inr (fun y => c ⟨T, y⟩)
      refine JP.pp (V := fun _ F' _ => (F' 43).toInt ≤ 4000) ?_ (mt_bad (nf := nf) (t := t) SE.1 (by omega) SA.1 (by omega) (by rw [VA.1.1.2.2.1.1, hp1]; decide) cb) (fun r1 F5 G5 r2 F6 G6 z1 z2 => .inr (.inl ⟨z1, z2⟩))
      unfold cb_X4_localTold_151
      refine PP.bind (cw_X1_addPair 66 0 Fa Ga) ?_
      rintro _ F3 G3 k3
      dsimp only
      unfold cb_X4_localTold_161
      refine PP.bind (cp_lintN (kn.kx k3 rfl rfl) ?_) ?_
      · rcases cb with y | y
        · refine .inl ?_
          rw [k3.1 42 rfl]
          exact (th.mp y).kx k3 rfl
        · exact .inr (by rw [k3.1 50 rfl, o2]; exact y)
      · rintro _ F5 G5 y
        dsimp only
        exact PP.mono (kqj_X4_localTold_168 F5 G5 CFS.rf) (fun _ F' _ z => z.2 y)
/-- the kind and the name -/
theorem jd_head {xc xm : Int32} {k g : Int32 × PF × PG → PR} {Q : Int32 → PF → PG → Int32 → PF → PG → Prop} (V : jV X p N K n q nf t i Fc Gc Fm Gm) (hw : Fc 11 = 4 ∨ Fc 11 = 5) (hQ : ∀ (r1 : Int32) (F1 : PF) (G1 : PG) (r2 : Int32) (F2 : PF) (G2 : PG), jEnd F1 F2 → Q r1 F1 G1 r2 F2 G2) (hk : ∀ (F0 : PF) (r : Int32) (F : PF) (G : PG), CFS F0 F → PP (k (r, F, G)) (fun _ F' _ => CFS F0 F')) (hg : ∀ (F0 : PF) (r : Int32) (F : PF) (G : PG), MFS F0 F → PP (g (r, F, G)) (fun _ F' _ => MFS F0 F'))
    (H : ∀ (b cid pl x3 : Int32) (Fa : PF) (Ga : PG) (Fb : PF) (Gb : PG), jNm X p N K n q nf t i cid pl x3 Fc Gc Fm Gm Fa Ga Fb Gb → ((Fc 11 = 4 ∧ b = 0) ∨ (Fc 11 = 5 ∧ b = 1)) → JP ((cb_X4_localTold_40 fu xc (Fc 11) cid pl Fa Ga).bind k) ((mb_tellHere_30 fu xm b x3 Fb Gb).bind g) Q) : JP ((cf_X4_localTold fu xc Fc Gc).bind k) ((mf_tellHere fu xm Fm Gm).bind g) Q := by
  have I := V.1
  have wd := I.wd (w := 1) (a := 5) (b := 1) (by decide) (by decide) (by decide)
  have wd0 := I.wd (w := 0) (a := 4) (b := 0) (by decide) (by decide) (by decide)
  have li : i < N := by
    rcases hw with z | z
    · exact I.2.1.1.ltW I.1.1 (wd0.mp z)
    · exact I.2.1.1.ltW I.1.1 (wd.mp z)
  have gw : Gm 4 i = 2 ∧ (Gm 5 i = 0 ∨ Gm 5 i = 1) := by
    rcases hw with z | z
    · have y := of_decide_eq_true (wd0.mp z)
      rw [I.2.1.1.ix I.1.1] at y
      exact ⟨y.1, .inl y.2⟩
    · have y := of_decide_eq_true (wd.mp z)
      rw [I.2.1.1.ix I.1.1] at y
      exact ⟨y.1, .inr y.2⟩
  unfold cf_X4_localTold cb_X4_localTold_0 mf_tellHere mb_tellHere_0
  rw [Option.bind_assoc, Option.bind_assoc]
  refine JP.R (mp_isWord 1 Fm Gm) ?_
  rintro b _ _ ⟨rfl, rfl, hb⟩
  dsimp only
  have hb' : (Fc 11 = 4 ∧ b = 0) ∨ (Fc 11 = 5 ∧ b = 1) := by
    rcases hb with ⟨y1, y2⟩ | ⟨y1, y2⟩
    · exact .inr ⟨wd.mpr y2, y1⟩
    · refine .inl ⟨?_, y1⟩
      rcases hw with z | z
      · exact z
      · rw [wd.mp z] at y2
        cases y2
  unfold mb_tellHere_5
  refine JP.L (jo_next I.1.1 I.2.1.1 li) ?_
  rintro r F1 G1 (o | o)
  · dsimp only
    have e0 := jAl.on (X := X) (p := p) (s := []) I.1 I.2.1 li (I.1.t1 li) o
    have I1 := I.next e0 (by omega)
    have f42 : fup Fm 42 (Fm 42 + 1) 42 = nI (i + 1) := by
      have := I1.2.1.1.2.2.1
      exact this
    generalize fup Fm 42 (Fm 42 + 1) = F2 at e0 I1 f42 ⊢
    obtain ⟨pl0, pl1, pl2⟩ := I1.2.1.1.place I1.1.1
    unfold cb_X4_localTold_15 mb_tellHere_16
    rw [Option.bind_assoc, Option.bind_assoc]
    refine JP.both (jo_name I1.1.1 I1.2.1.1) ?_
    rintro r3 F3 G3 r4 F4 G4 (⟨rfl, g4, h11, o2⟩ | o2)
    · dsimp only
      have l1 : i + 1 < N := I1.2.1.1.lt I1.1.1 (by rw [g4]; decide)
      have e1 := jAl.on (X := X) (p := p) (s := []) I1.1 I1.2.1 l1 (I1.1.t1 l1) o2
      have I3 := I1.next e1 (by omega)
      obtain ⟨tk, -⟩ := I1.1.1.2.2.2.1 (i + 1) l1
      have ev : F1 12 = Gm 5 (i + 1) := by
        have e12 : F1 12 = G1 91 (i + 1) := I1.2.1.1.2.2.2.2.2.2.2.2.2.1
        rcases tk.2 with ⟨-, -, z⟩ | ⟨z, -⟩ | ⟨z, -⟩ | ⟨z, -⟩
        · rw [e12, z]
        · rw [g4] at z; exact absurd z (by decide)
        · rw [g4] at z; exact absurd z (by decide)
        · rw [g4] at z; exact absurd z (by decide)
      unfold mb_tellHere_20
      rw [if_pos (show F4 44 ≤ 0 by rw [I3.2.1.1.2.2.2.2.2.2.2.1]; decide), f42]
      exact H b (F1 12) (F1 13) (nI (i + 1)) F3 G3 F4 G4 ⟨V, (e0.tr e1).ca (by omega) (by omega), ⟨ev, pl2, rfl, l1⟩, gw.1, gw.2, g4⟩ hb'
    · dsimp only
      exact JP.fin (PP.bind (kqj_X4_localTold_40 _ _ _ _ F3 G3 CFS.rf) (fun r F G y => hk _ r F G y)) (PP.bind (nqj_tellHere_20 _ _ _ F4 G4 MFS.rf) (fun r F G y => hg _ r F G y)) (.inr o2) hQ
  · dsimp only
    exact JP.fin (PP.bind (kqj_X4_localTold_15 _ _ F1 G1 CFS.rf) (fun r F G y => hk _ r F G y)) (PP.bind (nqj_tellHere_16 _ _ _ Gm MFS.rf) (fun r F G y => hg _ r F G y)) (.inr o) hQ
/-- a START that tells -/
theorem jd_tell0 (V : jV X p N K n q nf t i Fc Gc Fm Gm) (hw : Fc 11 = 4) : JP (cf_X4_localTold fu 1 Fc Gc) (mf_tellHere fu 0 Fm Gm) (fun _ F1 G1 r2 F2 G2 => jOd X p N K n q nf i Fc Gc Fm Gm r2 F1 G1 F2 G2) := by
  have h := jd_head (fu := fu) (xc := 1) (xm := 0) (k := some) (g := some) (Q := fun _ F1 G1 r2 F2 G2 => jOd X p N K n q nf i Fc Gc Fm Gm r2 F1 G1 F2 G2) V (.inl hw) (fun _ _ _ _ _ _ y => .inr y) (fun _ _ _ _ y => PP.ret y) (fun _ _ _ _ y => PP.ret y) ?_
  · rw [pr_bs, pr_bs] at h
    exact h
  · intro b cid pl x3 Fa Ga Fb Gb M hb
    rw [pr_bs, pr_bs]
    have VA := M.va
    have I := VA.1
    have s29 := I.sg (w := 32) (a := 29) (b := 32) (by decide) (by decide) (by decide)
    obtain ⟨pl0, pl1, pl2⟩ := I.2.1.1.place I.1.1
    unfold cb_X4_localTold_40 mb_tellHere_30
    rw [if_neg i10n, if_pos rfl]
    unfold cb_X4_localTold_44
    by_cases c : Fa 11 = 29
    · rw [if_pos c]
      unfold cb_X4_localTold_67
      rw [if_neg (show ¬ Fa 11 = 21 by rw [c]; decide)]
      unfold cb_X4_localTold_79
      rw [if_neg (show ¬ Fc 11 = 5 by rw [hw]; decide)]
      unfold cb_X4_localTold_115
      rw [if_pos c]
      exact jd_eq M (s29.mp c)
    · rw [if_neg c]
      have hz : sgn (Gb 4) (Gb 5) (Fb 42) 32 = false := by
        cases z : sgn (Gb 4) (Gb 5) (Fb 42) 32
        · rfl
        · exact absurd (s29.mpr z) c
      refine JP.pp (V := fun _ F' _ => ¬ F' 14 = 0 ∧ F' 11 = -2) (V1 := fun _ F' _ => ¬ F' 44 = 0) ?_ ?_ (fun r1 F5 G5 r2 F6 G6 z1 z2 => .inr (.inr ⟨z1.1, z1.2, .inl z2⟩))
      · unfold cb_X4_localTold_56
        refine PP.bind (cp_fail (k := 2) (by decide) (by decide) pl0 (by omega)) ?_
        rintro _ F3 G3 ⟨-, -, y1, y2⟩
        dsimp only
        unfold cb_X4_localTold_64 cb_X4_localTold_168
        exact PP.ret ⟨y1, y2⟩
      · refine mt_any (fun x4 F' k => ?_)
        unfold mb_tellHere_277
        refine PP.bind (mp_isSign 32 F' Gb) ?_
        rintro z _ _ ⟨rfl, rfl, y⟩
        dsimp only
        rw [k.1 42 rfl, hz] at y
        rcases y with ⟨-, y⟩ | ⟨rfl, -⟩
        · cases y
        · unfold mb_tellHere_283
          rw [if_pos rfl]
          unfold mb_tellHere_305
          rw [if_pos rfl]
          unfold mb_tellHere_320
          refine PP.bind (mp_fails 2 (by decide) F' Gb) ?_
          rintro _ F4 G4 ⟨-, f⟩
          dsimp only
          unfold mb_tellHere_325
          refine PP.bz (fun _ => PP.ret (fun w => ?_))
          have := f.1
          rw [w] at this
          exact absurd this (by decide)
/-- a STATEMENT that tells -/
theorem jd_tell1 {dm dc : Nat} (V : jV X p N K n q nf t i Fc Gc Fm Gm) (hw : Fc 11 = 4 ∨ Fc 11 = 5) : JP ((cf_X4_localTold fu 0 Fc Gc).bind (fun q => cb_X4_statement_148 fu (cS2 fu dc) q.2.1 q.2.2)) ((mf_tellHere fu 1 Fm Gm).bind (fun q => mb_statement_189 fu (mS2 fu dm) q.1 q.2.1 q.2.2)) (fun _ F1 G1 r2 F2 G2 => jOs X p N K n q nf i 0 Fc Gc Fm Gm r2 F1 G1 F2 G2) := by
  -- behind it
  have fin : ∀ (r1 : Int32) (F1 : PF) (G1 : PG) (r2 : Int32) (F2 : PF) (G2 : PG), jOd X p N K n q nf i Fc Gc Fm Gm r2 F1 G1 F2 G2 → JP (cb_X4_statement_148 fu (cS2 fu dc) F1 G1) (mb_statement_189 fu (mS2 fu dm) r2 F2 G2) (fun _ F1 G1 r2 F2 G2 => jOs X p N K n q nf i 0 Fc Gc Fm Gm r2 F1 G1 F2 G2) := by
    rintro r1 F1 G1 r2 F2 G2 (⟨rfl, Y, t1, j, V1, W, b0, ⟨b1, b2⟩, ⟨b3, b4⟩, b5, b6⟩ | h)
    · unfold cb_X4_statement_148 mb_statement_189
      rw [if_neg i10n]
      unfold mb_statement_192
      refine JP.both (jo_sign V1.1.1.1 V1.1.2.1.1 (w := 29) (by decide) (by decide) (by decide)) ?_
      rintro r3 F3 G3 r4 F4 G4 (⟨rfl, hx, o⟩ | o)
      · dsimp only
        have lk := V1.1.2.1.1.ltS V1.1.1.1 hx
        have e5 := jAl.on (X := Y) (p := p) (s := []) V1.1.1 V1.1.2.1 lk (V1.1.1.t1 lk) o
        unfold cb_X4_statement_157 cb_X4_statement_222 mb_statement_198
        rw [if_neg i10n]
        unfold mb_statement_201 mb_statement_206
        rw [if_pos (show b01 1 = true from rfl)]
        refine JP.ret (.inl ⟨rfl, Y, t1, j + 1, [], [], V1.al e5 (by omega), (W.tr (jW.al e5)).ca (by omega) (by omega), ⟨?_, ?_, by omega⟩, fun _ => ⟨⟨?_, ?_⟩, ?_, ?_⟩, fun z => absurd z (by decide), fun _ _ => ⟨rfl, rfl⟩⟩)
        · rw [e5.1.2.1 15 rfl]; exact b1
        · rw [e5.1.2.1 51 rfl]; exact b2
        · rw [e5.1.2.1 63 rfl]; exact b3
        · rw [e5.1.1.1 30 rfl]; exact b4
        · rw [e5.1.2.1 64 rfl]; exact b5
        · rw [e5.1.1.1 31 rfl]; exact b6
      · dsimp only
        exact JP.fin (kqj_X4_statement_157 _ (kqS2 dc) F3 G3 CFS.rf) (nqj_statement_198 _ (nqS2 dm) _ F4 G4 MFS.rf) (.inr o) (fun _ _ _ _ _ _ w => .inr w)
    · exact JP.fin (kqj_X4_statement_148 _ (kqS2 dc) F1 G1 CFS.rf) (nqj_statement_189 _ (nqS2 dm) _ F2 G2 MFS.rf) h (fun _ _ _ _ _ _ w => .inr w)
  refine jd_head V hw (fun _ _ _ _ _ _ y => .inr y) (fun _ _ F G y => kqj_X4_statement_148 _ (kqS2 dc) F G y) (fun _ r F G y => nqj_statement_189 _ (nqS2 dm) r F G y) ?_
  intro b cid pl x3 Fa Ga Fb Gb M hb
  have VA := M.va
  have I := VA.1
  have s29 := I.sg (w := 32) (a := 29) (b := 32) (by decide) (by decide) (by decide)
  have s21 := I.sg (w := 24) (a := 21) (b := 24) (by decide) (by decide) (by decide)
  have s26 := I.sg (w := 29) (a := 26) (b := 29) (by decide) (by decide) (by decide)
  obtain ⟨pl0, pl1, pl2⟩ := I.2.1.1.place I.1.1
  unfold cb_X4_localTold_40 mb_tellHere_30
  rw [if_pos rfl, if_neg i10n]
  unfold mb_tellHere_34
  have arr : JP ((cb_X4_localTold_84 fu (Fc 11) cid pl Fa Ga).bind (fun q => cb_X4_statement_148 fu (cS2 fu dc) q.2.1 q.2.2)) ((mb_tellHere_47 fu b x3 Fb Gb).bind (fun q => mb_statement_189 fu (mS2 fu dm) q.1 q.2.1 q.2.2)) (fun _ F1 G1 r2 F2 G2 => jOs X p N K n q nf i 0 Fc Gc Fm Gm r2 F1 G1 F2 G2) := by
    refine JP.both (jd_arr M ?_) (fun r1 F1 G1 r2 F2 G2 y => fin r1 F1 G1 r2 F2 G2 y)
    rcases hb with ⟨z1, z2⟩ | ⟨z1, z2⟩
    · exact ⟨1, .inl ⟨rfl, z1, z2⟩⟩
    · exact ⟨2, .inr ⟨rfl, z1, z2⟩⟩
  unfold cb_X4_localTold_67 cb_X4_localTold_79
  rcases hb with ⟨z1, z2⟩ | ⟨z1, z2⟩
  · rw [if_pos z2, if_neg (show ¬ Fc 11 = 5 by rw [z1]; decide)]
    unfold mb_tellHere_38
    rw [Option.bind_assoc]
    refine JP.isS (fun hy => ?_) (fun hy => ?_)
    · dsimp only
      rw [if_pos (s21.mpr hy)]
      unfold mb_tellHere_44
      rw [if_neg i10n]
      exact arr
    · dsimp only
      rw [if_neg (fun w => by rw [s21.mp w] at hy; cases hy)]
      unfold mb_tellHere_44
      rw [if_pos rfl]
      unfold cb_X4_localTold_115
      by_cases c : Fa 11 = 29
      · rw [if_pos c]
        exact JP.both (jd_eq M (s29.mp c)) (fun r1 F1 G1 r2 F2 G2 y => fin r1 F1 G1 r2 F2 G2 y)
      · rw [if_neg c]
        have hz : sgn (Gb 4) (Gb 5) (Fb 42) 32 = false := by
          cases z : sgn (Gb 4) (Gb 5) (Fb 42) 32
          · rfl
          · exact absurd (s29.mpr z) c
        by_cases c2 : Fa 11 = 26
        · exact JP.both (jd_no M hz (s26.mp c2)) (fun r1 F1 G1 r2 F2 G2 y => fin r1 F1 G1 r2 F2 G2 y)
        · have h2 : sgn (Gb 4) (Gb 5) (Fb 42) 29 = false := by
            cases z : sgn (Gb 4) (Gb 5) (Fb 42) 29
            · rfl
            · exact absurd (s26.mpr z) c2
          refine JP.pp (V := fun _ F' _ => ¬ F' 14 = 0 ∧ F' 11 = -2) (V1 := fun _ F' _ => ¬ F' 44 = 0) ?_ ?_ (fun r1 F5 G5 r2 F6 G6 z1 z2 => .inr (.inr ⟨z1.1, z1.2, .inl z2⟩))
          · unfold cb_X4_localTold_151
            rw [Option.bind_assoc]
            refine PP.bind (cw_X1_addPair 66 0 Fa Ga) ?_
            rintro _ F3 G3 k3
            dsimp only
            unfold cb_X4_localTold_161
            rw [Option.bind_assoc]
            refine PP.bind (cw_X4_localInt cid pl F3 G3) ?_
            rintro _ F4 G4 k4
            dsimp only
            unfold cb_X4_localTold_168
            show PP (cb_X4_statement_148 fu (cS2 fu dc) F4 G4) _
            unfold cb_X4_statement_148 cf_X2_expect cb_X2_expect_0
            have e11 : F4 11 = Fa 11 := (k4.1 11 rfl).trans (k3.1 11 rfl)
            have e13 : F4 13 = Fa 13 := (k4.1 13 rfl).trans (k3.1 13 rfl)
            rw [if_neg (show ¬ F4 11 = 26 by rw [e11]; exact c2)]
            unfold cb_X2_expect_21
            rw [Option.bind_assoc]
            refine PP.bind (cp_fail (k := 2) (by decide) (by decide) (by rw [e13]; exact pl0) (by rw [e13]; omega)) ?_
            rintro _ F5 G5 ⟨-, -, y1, y2⟩
            dsimp only
            unfold cb_X2_expect_26
            show PP (cb_X4_statement_157 fu (cS2 fu dc) F5 G5) _
            unfold cb_X4_statement_157 cb_X4_statement_222
            exact PP.ret ⟨y1, y2⟩
          · refine PP.bind (Q1 := fun r F' G' => r = 1 ∧ F' 42 = Fb 42 ∧ F' 44 = Fb 44 ∧ G' 4 = Gb 4 ∧ G' 5 = Gb 5) ?_ ?_
            · refine mt_any (fun x4 F' k => ?_)
              unfold mb_tellHere_277
              refine PP.bind (mp_isSign 32 F' Gb) ?_
              rintro z _ _ ⟨rfl, rfl, y⟩
              dsimp only
              rw [k.1 42 rfl, hz] at y
              rcases y with ⟨-, y⟩ | ⟨rfl, -⟩
              · cases y
              · unfold mb_tellHere_283
                rw [if_pos rfl]
                unfold mb_tellHere_305
                rw [if_neg i10n]
                unfold mb_tellHere_309
                refine PP.bind (mw_step 0 0 0 F' Gb) ?_
                rintro _ F4 G4 k4
                dsimp only
                unfold mb_tellHere_316 mb_tellHere_326
                refine PP.bind (mw_step 2 x4 0 F4 G4) ?_
                rintro _ F5 G5 k5
                dsimp only
                unfold mb_tellHere_334
                refine PP.bind (mw_declare x3 1 0 x4 1 1 F5 G5) ?_
                rintro _ F6 G6 k6
                dsimp only
                unfold mb_tellHere_346
                refine PP.ret ⟨rfl, ?_, ?_, ?_, ?_⟩
                · rw [k6.1 42 rfl, k5.1 42 rfl, k4.1 42 rfl, k.1 42 rfl]
                · rw [k6.1 44 rfl, k5.1 44 rfl, k4.1 44 rfl, k.1 44 rfl]
                · rw [k6.2 4 rfl, k5.2 4 rfl, k4.2 4 rfl]
                · rw [k6.2 5 rfl, k5.2 5 rfl, k4.2 5 rfl]
            · rintro r F' G' ⟨rfl, y1, y2, y3, y4⟩
              dsimp only
              unfold mb_statement_189
              rw [if_neg i10n]
              unfold mb_statement_192
              refine PP.bind (mp_sign 29 F' G') ?_
              rintro r3 F3 G3 (⟨-, -, -, y, -⟩ | ⟨-, f, -⟩)
              · rw [y1, y3, y4, h2] at y
                cases y
              · dsimp only
                have f1 := f.1
                exact PP.mono (nqj_statement_198 _ (nqS2 dm) _ F3 G3 MFS.rf) (fun _ E _ w v => by
                  have := w.1 v
                  rw [this] at f1
                  exact absurd f1 (by decide))
  · rw [if_neg (show ¬ b = 0 by rw [z2]; decide)]
    by_cases c : Fa 11 = 21
    · rw [if_pos c]
      exact arr
    · rw [if_neg c, if_pos z1]
      exact arr
end JW9C
