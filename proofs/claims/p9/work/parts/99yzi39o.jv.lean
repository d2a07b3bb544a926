section JVO
variable {fu : Nat} {X : JCX} {p : Int32} {N K n q nf t i f n0 : Nat} {φ : Nat → Nat} {cid pl v x1 x2 x3 x4 x5 x6 z0 z1 z2 : Int32} {Fc Fm Fa Fb F0 F F2 : PF} {Gc Gm Ga Gb G : PG} {ag : Int32 → Int32 → PF → PG → PR} {g : Int32 × PF × PG → PR} {Q : Int32 → PF → PG → Int32 → PF → PG → Prop}
theorem jGs.m61 (T : jGs X p N K n q nf t i f φ Fc Gc Fm Gm) (k : KX [61] [] Fm Gm F2 Gm) : jGs X p N K n q nf t i f φ Fc Gc F2 Gm := by
  refine T.mv KX.rf (KX.tr KX.rf k rfl rfl) T.x0 ?_ T.2.1.2.2.2 ?_ T.1.2.2 (Nat.le_refl _) (fun _ => jCB.of (k.1 60 rfl) rfl rfl (fun _ _ _ => rfl))
  · rw [k.1 54 rfl]; exact T.2.1.2.2.1
  · have D := T.1.2.1
    unfold jD CU at D ⊢
    rw [k.1 42 rfl, k.1 43 rfl, k.1 44 rfl, k.1 47 rfl, k.1 60 rfl, k.1 70 rfl]
    exact D
theorem kw_220 (hag : ∀ (F0 : PF) (y z : Int32) (F : PF) (G : PG), CFS F0 F → PP (ag y z F G) (fun _ F' _ => CFS F0 F')) (h : CFS F0 F) : PP (cb_X4_walk_220 fu ag x1 x2 x4 x5 x6 F G) (fun _ F' _ => CFS F0 F') := by
  unfold cb_X4_walk_220
  refine PP.ite (fun _ => ?_) (fun _ => ?_)
  · exact PP.bind (kq_X4_globalInt x5 x6 F G) (fun r F1 G1 k => hag F0 x1 (x2 + 1) F1 G1 (CFS.tr h k))
  · exact PP.bind (kq_X2_fail 2 F G) (fun r F1 G1 k => hag F0 x1 (x2 + 1) F1 G1 (CFS.tr h k))
theorem kw_179 (hag : ∀ (F0 : PF) (y z : Int32) (F : PF) (G : PG), CFS F0 F → PP (ag y z F G) (fun _ F' _ => CFS F0 F')) (h : CFS F0 F) : PP (cb_X4_walk_179 fu ag x1 x2 x4 x5 x6 F G) (fun _ F' _ => CFS F0 F') := by
  have w : ∀ c : Int32, PP (cb_X4_walk_214 fu ag x1 x2 c x6 x5 F G) (fun _ F' _ => CFS F0 F') := fun c => PP.bind (kq_X4_globalArray x5 x6 c F G) (fun r F1 G1 k => hag F0 x1 (x2 + 1) F1 G1 (CFS.tr h k))
  unfold cb_X4_walk_179
  refine PP.ite (fun _ => ?_) (fun _ => kw_220 hag h)
  unfold cb_X4_walk_191
  refine PP.ite (fun _ => kw_220 hag h) (fun _ => ?_)
  unfold cb_X4_walk_198
  exact PP.ite (fun _ => w 2) (fun _ => w 3)
theorem kw_147 (hag : ∀ (F0 : PF) (y z : Int32) (F : PF) (G : PG), CFS F0 F → PP (ag y z F G) (fun _ F' _ => CFS F0 F')) (h : CFS F0 F) : PP (cb_X4_walk_147 fu ag x1 x2 x5 z0 z1 z2 F G) (fun _ F' _ => CFS F0 F') := by
  refine PP.bind (kq_X4_startFunction z2 z1 z0 F G) (fun r F1 G1 k => ?_)
  have w : ∀ c : Int32, PP (cb_X4_walk_165 fu ag x1 x2 c F1 G1) (fun _ F' _ => CFS F0 F') := fun c => PP.bind (kq_X4_formals c F1 G1) (fun r2 F2 G2 k2 => PP.bind (kq_X4_block F2 G2) (fun r3 F3 G3 k3 => PP.bind (kq_X4_endF F0 F3 G3 (CFS.tr (CFS.tr (CFS.tr h k) k2) k3)) (fun r4 F4 G4 k4 => hag F0 x1 (x2 + 1) F4 G4 k4)))
  show PP (cb_X4_walk_150 fu ag x1 x2 x5 F1 G1) _
  unfold cb_X4_walk_150
  exact PP.ite (fun _ => w 1) (fun _ => w 0)
theorem kw_98 (hag : ∀ (F0 : PF) (y z : Int32) (F : PF) (G : PG), CFS F0 F → PP (ag y z F G) (fun _ F' _ => CFS F0 F')) (h : CFS F0 F) : PP (cb_X4_walk_98 fu ag x1 x2 x3 x4 x5 x6 F G) (fun _ F' _ => CFS F0 F') := by
  unfold cb_X4_walk_98
  refine PP.ite (fun _ => ?_) (fun _ => ?_)
  · unfold cb_X4_walk_113
    refine PP.ite (fun _ => ?_) (fun _ => kw_179 hag h)
    unfold cb_X4_walk_125
    refine PP.ite (fun _ => kw_179 hag h) (fun _ => ?_)
    unfold cb_X4_walk_131
    exact PP.ite (fun _ => kw_147 hag h) (fun _ => kw_147 hag h)
  · exact PP.bind (kq_X4_constTold x5 x6 F G) (fun r F1 G1 k => hag F0 x1 (x2 + 1) F1 G1 (CFS.tr h k))
theorem kw_70 (hag : ∀ (F0 : PF) (y z : Int32) (F : PF) (G : PG), CFS F0 F → PP (ag y z F G) (fun _ F' _ => CFS F0 F')) (h : CFS F0 F) : PP (cb_X4_walk_70 fu ag x1 x2 x3 z0 F G) (fun _ F' _ => CFS F0 F') := PP.bind (kq_X2_expect 2 (by decide) F G) (fun r F1 G1 k => kw_98 hag (CFS.tr h k))
theorem kw_65 (hag : ∀ (F0 : PF) (y z : Int32) (F : PF) (G : PG), CFS F0 F → PP (ag y z F G) (fun _ F' _ => CFS F0 F')) (h : CFS F0 F) : PP (cb_X4_walk_65 fu ag x1 x2 x3 F G) (fun _ F' _ => CFS F0 F') := PP.bind (kq_X4_kindWord x3 F G) (fun r F1 G1 k => kw_70 hag (CFS.tr h k))
/-- a TOLD behind its name -/
theorem jt_behind {w xv xb : Int32} (hQ : ∀ (r1 : Int32) (F1 : PF) (G1 : PG) (r2 : Int32) (F2 : PF) (G2 : PG), jEnd F1 F2 → Q r1 F1 G1 r2 F2 G2) (hag : ∀ (F0 : PF) (y z : Int32) (F : PF) (G : PG), CFS F0 F → PP (ag y z F G) (fun _ F' _ => CFS F0 F')) (hg : ∀ (F0 : PF) (r : Int32) (F : PF) (G : PG), MFS F0 F → PP (g (r, F, G)) (fun _ F' _ => MFS F0 F')) (hN : ∀ (r1 : Int32) (F1 : PF) (G1 : PG) (r2 : Int32) (F2 : PF) (G2 : PG), p = 1 → f < nf → Gb 25 f = Fa 27 → ¬ Gb 32 f = -1 → (F1 43).toInt ≤ 4000 → Q r1 F1 G1 r2 F2 G2) (M : jNg X p N K n q nf t n0 f φ cid pl (nI n0) Fa Ga Fb Gb)
    (hw : (w = 4 ∧ xv = 0 ∧ xb = 0 ∧ Gb 5 (n0 - 1) = 0) ∨ (w = 5 ∧ xv = 0 ∧ xb = 1 ∧ Gb 5 (n0 - 1) = 1) ∨ (w = 6 ∧ xv = 1 ∧ xb = 0 ∧ Gb 5 (n0 - 1) = 2)) (hfn : p = 1 → ¬ w = 5 → sgn (Gb 4) (Gb 5) (Fb 42) 22 = true → f < nf ∧ φ f = n0) (h0 : p = 0 → (∀ y : Nat, y < f → φ y < n0) ∧ 9 * (f : Int) ≤ (Gb 6 (n0 - 1)).toInt ∧ jMa f Fa Gb)
    (HO : ∀ (Y : JCX) (t1 j : Nat) (F1 : PF) (G1 : PG) (F2 : PF) (G2 : PG), ¬ sgn (Gb 4) (Gb 5) (Fb 42) 22 = true → jGs Y p N K n q nf t1 j f φ F1 G1 F2 G2 → (p = 1 → jWd Y F1 G1 F2 G2) → n0 < j → (F1 10).toInt = (Fa 10).toInt → (F1 27 = Fa 27 ∧ F1 76 = Fa 76 ∧ G2 25 = Gb 25 ∧ G2 32 = Gb 32 ∧ F2 24 = Fb 24 ∧ Y.2.2.2 = X.2.2.2) → JP (cb_X4_walk_245 fu ag x1 x2 F1 G1) (g (1, F2, G2)) Q)
    (HF1 : ∀ (Y : JCX) (t1 j : Nat) (F1 : PF) (G1 : PG) (F2 : PF) (G2 : PG), p = 1 → (¬ w = 5 ∧ sgn (Gb 4) (Gb 5) (Fb 42) 22 = true) → jGs Y 1 N K n q nf t1 j (f + 1) φ F1 G1 F2 G2 → jWd Y F1 G1 F2 G2 → n0 < j → (F1 10).toInt = (Fa 10).toInt → (F1 27 = Fa 27 ∧ F1 76 = Fa 76 ∧ G2 25 = Gb 25 ∧ G2 32 = Gb 32 ∧ F2 24 = Fb 24 ∧ Y.2.2.2 = X.2.2.2) → (Gb 25 f = Fa 27 → Gb 32 f = -1) → JP (cb_X4_walk_245 fu ag x1 x2 F1 G1) (g (1, F2, G2)) Q)
    (HF0 : ∀ (Y : JCX) (q' t1 j : Nat) (φ' : Nat → Nat) (F1 : PF) (G1 : PG) (F2 : PF) (G2 : PG), p = 0 → (¬ w = 5 ∧ sgn (Gb 4) (Gb 5) (Fb 42) 22 = true) → jGs Y 0 N K n q' (f + 1) t1 j (f + 1) φ' F1 G1 F2 G2 → ((∀ y : Nat, y < f → φ' y = φ y) ∧ φ' f = n0) → n0 < j → (F1 10).toInt = (Fa 10).toInt → jMa (f + 1) F1 G2 → F1 27 = Fa 27 → JP (cb_X4_walk_245 fu ag x1 x2 F1 G1) (g (1, F2, G2)) Q) : JP (cb_X4_walk_113 fu ag x1 x2 w cid pl Fa Ga) ((mb_tells_95 fu (nI f) xv xb (nI n0) Fb Gb).bind g) Q := by
  have T := M.1
  have hp := T.1.1.2.1
  have sg := T.1.sg (w := 22) (a := 19) (b := 22) (by decide) (by decide) (by decide)
  have sg2 := T.1.sg (w := 24) (a := 21) (b := 24) (by decide) (by decide) (by decide)
  have ix := T.1.2.1.1.ix T.1.1.1
  have h44 : Fb 44 = 0 := T.1.2.1.1.2.2.2.2.2.2.2.1
  obtain ⟨pl0, pl1, -⟩ := T.1.2.1.1.place T.1.1.1
  obtain ⟨⟨hc, hpl, -, n0N⟩, ⟨m1, m2, m3, m4⟩, m5⟩ := M.2
  -- both fail
  have dd : ∀ b : PR, PP b (fun _ F' _ => ¬ F' 44 = 0) → JP (cb_X4_walk_237 fu ag x1 x2 Fa Ga) (b.bind g) Q := by
    intro b hb
    have c1 : PP (cb_X4_walk_237 fu ag x1 x2 Fa Ga) (fun _ F' _ => ¬ F' 14 = 0 ∧ F' 11 = -2) := by
      unfold cb_X4_walk_237
      refine PP.bind (cp_fail (by decide) (by decide) pl0 (by omega)) ?_
      rintro r F G ⟨-, -, w1, w2⟩
      exact PP.mono (hag F x1 (x2 + 1) F G CFS.rf) (fun _ F' _ v => v.1 ⟨w1, w2⟩)
    have c2 : PP (b.bind g) (fun _ F' _ => ¬ F' 44 = 0) := PP.bind hb (fun r F G h => PP.mono (hg F r F G MFS.rf) (fun _ F' _ v y => h (v.1 y)))
    exact JP.pp c1 c2 (fun _ _ _ _ _ _ w1 w2 => hQ _ _ _ _ _ _ (.inr ⟨w1.1, w1.2, .inl w2⟩))
  -- a TOLD that is no function
  have ot : ¬ Fa 11 = 19 → ∀ (a b : PR), JP a b (fun _ F1 G1 r2 F2 G2 => jOt X p N K n q nf n0 f φ Fa Ga Fb Gb r2 F1 G1 F2 G2) → JP (a.bind (fun q => cb_X4_walk_245 fu ag x1 x2 q.2.1 q.2.2)) (b.bind g) Q := by
    intro c19 a b h
    refine JP.both h ?_
    rintro r1 F1 G1 r2 F2 G2 (⟨rfl, Y, t1, j, T1, wd, nj, ⟨k1, k2⟩, e1, e2⟩ | h)
    · exact HO Y t1 j F1 G1 F2 G2 (fun y => c19 (sg.mpr y)) T1 wd nj e2 ⟨k1.1 27 rfl, k1.1 76 rfl, k2.2 25 rfl, k2.2 32 rfl, k2.1 24 rfl, e1⟩
    · exact JP.fin (hag F1 _ _ F1 G1 CFS.rf) (hg F2 r2 F2 G2 MFS.rf) h hQ
  -- a function
  have fn : ∀ gv : Int32, (Gb 5 (n0 - 1) = 0 ∧ gv = 1 ∧ xv = 0) ∨ (Gb 5 (n0 - 1) = 2 ∧ gv = 0 ∧ xv = 1) → ¬ w = 5 → Fa 11 = 19 → JP (cb_X4_walk_147 fu ag x1 x2 cid gv pl cid Fa Ga) ((mb_tells_108 fu (nI f) xv (nI n0) Fb Gb).bind g) Q := by
    intro gv hgv w5 c19
    have s := sg.mp c19
    obtain ⟨s4, s5⟩ := of_decide_eq_true s
    rw [ix] at s4 s5
    have hg2 : ∀ (F0 : PF) (r : Int32) (F : PF) (G : PG), MFS F0 F → PP (((fun q : Int32 × PF × PG => mb_tells_116 fu q.1 q.2.1 q.2.2) (r, F, G)).bind g) (fun _ F' _ => MFS F0 F') := fun F0 r F G h => PP.bind (nqj_tells_116 r F G h) (fun r F G h => hg F0 r F G h)
    unfold mb_tells_108
    rw [Option.bind_assoc]
    rcases hp with z | z
    · subst z
      obtain ⟨hph, h9, ma⟩ := h0 rfl
      refine jt_fun0 (g := fun q => (mb_tells_116 fu q.1 q.2.1 q.2.2).bind g) hQ (fun F0 F G h => hag F0 x1 (x2 + 1) F G h) hg2 T hc hpl ⟨m1, m2, m3, m4, s4⟩ s5 n0N hph h9 ?_ ma (fun Y q' t1 j' φ' F3 G3 F4 G4 T3 p3 nj e10 ma3 e27 => HF0 Y q' t1 j' φ' F3 G3 F4 G4 rfl ⟨w5, s⟩ T3 p3 nj e10 ma3 e27)
      rcases hgv with ⟨y1, y2, y3⟩ | ⟨y1, y2, y3⟩
      · exact .inl ⟨y1, y2, by rw [y3]; rfl⟩
      · exact .inr ⟨y1, y2, by rw [y3]; rfl⟩
    · subst z
      obtain ⟨hf, hφ⟩ := hfn rfl w5 s
      obtain ⟨-, wd⟩ := m5 rfl
      have po := T.2.2.2.2.1.1 f hf
      rw [hφ] at po
      refine jt_fun1 (g := fun q => (mb_tells_116 fu q.1 q.2.1 q.2.2).bind g) hQ (fun F0 F G h => hag F0 x1 (x2 + 1) F G h) hg2 (fun r1 F1 G1 r2 F2 G2 y1 y2 y3 => hN r1 F1 G1 r2 F2 G2 rfl hf ?_ ?_ y3) T wd hc hpl hf hφ ?_ (fun Y t1 j' F3 G3 F4 G4 T3 e1 nj e10 wd3 e hm => HF1 Y t1 j' F3 G3 F4 G4 rfl ⟨w5, s⟩ T3 wd3 nj e10 ⟨e.1, e.2.1, e.2.2.1, e.2.2.2.1, e.2.2.2.2, e1.2⟩ (fun y => po.2.2.2.1.mpr (hm (by rw [← y, po.2.1.1]; exact hc))))
      · rw [po.2.1.1, ← hc]; exact y1
      · exact fun y => y2 (po.2.2.2.1.mp y)
      · rcases hgv with ⟨y1, y2, y3⟩ | ⟨y1, y2, y3⟩
        · exact .inl ⟨y1, y2⟩
        · exact .inr ⟨y1, y2⟩
  -- the reference behind a word that is int, no '('
  have n22 : ¬ Fa 11 = 19 → ∀ (a : PR), JP a ((mb_tells_117 fu xv xb (nI n0) Fb Gb).bind g) Q → JP a ((mb_tells_95 fu (nI f) xv xb (nI n0) Fb Gb).bind g) Q := by
    intro c a h
    unfold mb_tells_95
    by_cases b0 : xb = 0
    · rw [if_pos b0]
      unfold mb_tells_99
      refine JP.isSS (fun y => absurd (sg.mpr y) c) (fun _ => ?_)
      show JP a ((mb_tells_105 fu (nI f) xv xb (nI n0) 0 Fb Gb).bind g) Q
      unfold mb_tells_105
      rw [if_pos rfl]
      exact h
    · rw [if_neg b0]
      exact h
  unfold cb_X4_walk_113
  by_cases c19 : Fa 11 = 19
  · rw [if_pos c19]
    unfold cb_X4_walk_125
    have n21 : ¬ Fa 11 = 21 := by rw [c19]; decide
    have f95 : xb = 0 → JP (cb_X4_walk_131 fu ag x1 x2 w cid pl Fa Ga) ((mb_tells_108 fu (nI f) xv (nI n0) Fb Gb).bind g) Q → JP (cb_X4_walk_131 fu ag x1 x2 w cid pl Fa Ga) ((mb_tells_95 fu (nI f) xv xb (nI n0) Fb Gb).bind g) Q := by
      intro b0 h
      unfold mb_tells_95
      rw [if_pos b0]
      unfold mb_tells_99
      refine JP.isSS (fun _ => ?_) (fun y => by rw [sg.mp c19] at y; cases y)
      show JP _ ((mb_tells_105 fu (nI f) xv xb (nI n0) 1 Fb Gb).bind g) Q
      unfold mb_tells_105
      rw [if_neg i10n]
      exact h
    rcases hw with ⟨w1, w2, w3, w4⟩ | ⟨w1, w2, w3, w4⟩ | ⟨w1, w2, w3, w4⟩
    · have w5 : ¬ w = 5 := by rw [w1]; decide
      rw [if_neg w5]
      refine f95 w3 ?_
      unfold cb_X4_walk_131 cb_X4_walk_142
      rw [if_pos w1]
      exact fn 1 (.inl ⟨w4, rfl, w2⟩) w5 c19
    · rw [if_pos w1]
      unfold cb_X4_walk_179
      rw [if_neg n21]
      unfold cb_X4_walk_220
      rw [if_neg (by rw [w1]; decide)]
      refine dd _ ?_
      unfold mb_tells_95
      rw [if_neg (by rw [w3]; decide)]
      unfold mb_tells_117
      rw [if_pos w2]
      unfold mb_tells_127
      rw [if_neg (by rw [w3]; decide)]
      unfold mb_tells_164
      rw [if_neg (by rw [w3]; decide)]
      exact mt_arrB h44 (fun y => n21 (sg2.mpr y))
    · have w5 : ¬ w = 5 := by rw [w1]; decide
      rw [if_neg w5]
      refine f95 w3 ?_
      unfold cb_X4_walk_131 cb_X4_walk_146
      rw [if_neg (by rw [w1]; decide)]
      exact fn 0 (.inr ⟨w4, rfl, w2⟩) w5 c19
  · rw [if_neg c19]
    refine n22 c19 _ ?_
    unfold cb_X4_walk_179 mb_tells_117
    rcases hw with ⟨w1, w2, w3, w4⟩ | ⟨w1, w2, w3, w4⟩ | ⟨w1, w2, w3, w4⟩
    · rw [if_pos w2]
      unfold mb_tells_127
      rw [if_pos w3]
      by_cases c21 : Fa 11 = 21
      · rw [if_pos c21]
        have s := sg2.mp c21
        have no : ∀ u : Int32, ¬ u = 24 → ¬ sgn (Gb 4) (Gb 5) (Fb 42) u = true := fun u hu y => hu ((of_decide_eq_true y).2.symm.trans (of_decide_eq_true s).2)
        unfold cb_X4_walk_191
        rw [if_neg (by rw [w1]; decide)]
        unfold cb_X4_walk_198
        rw [if_pos w1]
        unfold cb_X4_walk_209 cb_X4_walk_214 mb_tells_131
        refine JP.isSS (fun y => absurd y (no 29 (by decide))) (fun _ => ?_)
        show JP _ ((mb_tells_137 fu xb (nI n0) 0 Fb Gb).bind g) Q
        unfold mb_tells_137
        rw [if_pos rfl]
        unfold mb_tells_164
        rw [if_pos w3]
        unfold mb_tells_168
        refine JP.isSS (fun y => absurd y (no 32 (by decide))) (fun _ => ?_)
        show JP _ ((mb_tells_174 fu xb (nI n0) 0 Fb Gb).bind g) Q
        unfold mb_tells_174
        rw [if_pos rfl, w3]
        exact ot c19 _ _ (jt_arr M ⟨1, .inl ⟨rfl, rfl, rfl⟩⟩ c21)
      · rw [if_neg c21]
        unfold cb_X4_walk_220
        rw [if_pos w1, w3]
        exact ot c19 _ _ (jt_int M c21)
    · rw [if_pos w2]
      unfold mb_tells_127
      rw [if_neg (show ¬ xb = 0 by rw [w3]; decide)]
      unfold mb_tells_164
      rw [if_neg (show ¬ xb = 0 by rw [w3]; decide)]
      by_cases c21 : Fa 11 = 21
      · rw [if_pos c21]
        unfold cb_X4_walk_191
        rw [if_neg (by rw [w1]; decide)]
        unfold cb_X4_walk_198
        rw [if_neg (by rw [w1]; decide), w3]
        exact ot c19 _ _ (jt_arr M ⟨2, .inr ⟨rfl, rfl, rfl⟩⟩ c21)
      · rw [if_neg c21]
        unfold cb_X4_walk_220
        rw [if_neg (by rw [w1]; decide)]
        exact dd _ (mt_arrB h44 (fun y => c21 (sg2.mpr y)))
    · rw [if_neg (show ¬ xv = 0 by rw [w2]; decide)]
      have d2 : PP (mb_tells_121 fu Fb Gb) (fun _ F' _ => ¬ F' 44 = 0) := by
        unfold mb_tells_121
        refine PP.bind (mp_fails 2 (by decide) Fb Gb) ?_
        rintro r F G ⟨-, w⟩
        exact PP.mono (nqj_tells_126 r F G MFS.rf) (fun _ F' _ v y => by
          have := w.1
          rw [v.1 y] at this
          exact absurd this (by decide))
      have e220 : cb_X4_walk_220 fu ag x1 x2 w cid pl Fa Ga = cb_X4_walk_237 fu ag x1 x2 Fa Ga := by
        unfold cb_X4_walk_220
        rw [if_neg (by rw [w1]; decide)]
      by_cases c21 : Fa 11 = 21
      · rw [if_pos c21]
        unfold cb_X4_walk_191
        rw [if_pos w1, e220]
        exact dd _ d2
      · rw [if_neg c21, e220]
        exact dd _ d2
end JVO
