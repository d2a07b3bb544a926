/-- how a piece of a statement ends -/
def VZ (κ δ : Int) (F : PF) (G : PG) (r : Int32) (F1 : PF) (G1 : PG) : Prop := (r = 1 ∧ WR F G κ 0 δ F1 G1) ∨ (r = 0 ∧ WF0 F G F1 G1)
theorem wz_condition {fu : Nat} (hfu : 8589934592 ≤ fu) (F : PF) (G : PG) (h0 : YG F G) : WP (mf_condition fu F G) (fun r F1 G1 => VZ (-5) (-2) F G r F1 G1) := by
  have q0 := WR.rf h0
  unfold mf_condition mb_condition_0
  refine WP.bind (ws_openSign 22 (q0.t h0).2.2) ?_
  rintro r F1 G1 (⟨rfl, rfl, rfl, s, u, -⟩ | ⟨rfl, u, -⟩)
  · dsimp only
    unfold mb_condition_6
    rw [if_neg (by decide)]
    have q1 := q0.op h0 (k_ne (sgn_k s).1 (by decide)) u
    generalize fup (fup F 43 (F 43 + 1)) 42 (F 42 + 1) = F1 at q1
    unfold mb_condition_9
    refine WP.bind (q1.expr hfu h0 (by decide) (by decide) 4 0 0 (by decide) ⟨fun z => absurd z (by decide), fun z => absurd z (by decide)⟩) ?_
    rintro r F2 G2 ⟨-, -, (⟨rfl, q2⟩ | ⟨rfl, q2⟩)⟩
    · dsimp only
      unfold mb_condition_13
      rw [if_neg (by decide)]
      unfold mb_condition_16
      refine WP.bind (ws_closeSign 23 (q2.t h0).2.2) ?_
      rintro r F3 G3 (⟨rfl, rfl, rfl, s, -⟩ | ⟨rfl, u, -⟩)
      · dsimp only
        unfold mb_condition_22 mb_condition_25 mb_condition_30
        rw [if_neg (by decide)]
        exact WP.bz (Or.inr rfl) (WP.ret (Or.inl ⟨rfl, (WR.cl (j := 0) q2 h0 (by decide) (k_ne (sgn_k s).1 (by decide))).le (by decide) (by decide)⟩))
      · dsimp only
        unfold mb_condition_22 mb_condition_29 mb_condition_30
        rw [if_pos rfl]
        exact WP.bz (Or.inl rfl) (WP.ret (Or.inr ⟨rfl, q2.flt h0 (by decide) u⟩))
    · dsimp only
      unfold mb_condition_13 mb_condition_29 mb_condition_30
      rw [if_pos rfl]
      exact WP.bz (Or.inl rfl) (WP.ret (Or.inr ⟨rfl, q2⟩))
  · dsimp only
    unfold mb_condition_6 mb_condition_29 mb_condition_30
    rw [if_pos rfl]
    exact WP.bz (Or.inl rfl) (WP.ret (Or.inr ⟨rfl, q0.flt h0 (by decide) u⟩))
section SIMPW
variable {fu : Nat} {F0 : PF} {G0 : PG}
theorem wm_584 (h0 : YG F0 G0) (x4 x6 x7 x8 : Int32) (F : PF) (G : PG) (q : WR F0 G0 (-1) 0 0 F G) : WP (mb_simple_584 fu x4 x6 x7 x8 F G) (fun r F1 G1 => VZ 0 0 F0 G0 r F1 G1) := by
  have st : ∀ (w a : Int32), WP (mf_step fu w a 0 F G) (fun _ F1 G1 => VZ 0 0 F0 G0 1 F1 G1) := by
    intro w a
    refine WP.mono (q.step h0 (by decide) w a 0) ?_
    rintro r F1 G1 ⟨-, -, -, -, q1⟩
    exact Or.inl ⟨rfl, q1.le (by decide) (by decide)⟩
  unfold mb_simple_584
  refine WP.ite (fun _ => ?_) (fun _ => ?_)
  · have s621 : ∀ z : Int32, WP (mb_simple_621 fu x8 z F G) (fun r F1 G1 => VZ 0 0 F0 G0 r F1 G1) := by
      intro z
      unfold mb_simple_621
      refine WP.bind (st z x8) (fun r F1 G1 q1 => ?_)
      dsimp only
      unfold mb_simple_627 mb_simple_628
      exact WP.ret q1
    unfold mb_simple_610 mb_simple_620 mb_simple_616
    exact WP.ite (fun _ => s621 _) (fun _ => s621 _)
  · have s602 : ∀ z : Int32, WP (mb_simple_602 fu z 8 F G) (fun r F1 G1 => VZ 0 0 F0 G0 r F1 G1) := by
      intro z
      unfold mb_simple_602
      refine WP.bind (st 8 z) (fun r F1 G1 q1 => ?_)
      dsimp only
      unfold mb_simple_606 mb_simple_628
      exact WP.ret q1
    unfold mb_simple_589 mb_simple_601 mb_simple_597
    exact WP.ite (fun _ => s602 _) (fun _ => s602 _)
theorem wm_438 (h0 : YG F0 G0) (x4 x6 x7 x8 x9 : Int32) (F : PF) (G : PG) (q : WR F0 G0 (-2) 0 0 F G) : WP (mb_simple_438 fu x4 x6 x7 x8 x9 F G) (fun r F1 G1 => VZ 0 0 F0 G0 r F1 G1) := by
  unfold mb_simple_438
  refine WP.ite (fun c => wm_584 h0 x4 x6 x7 x8 F G (q.le (by decide) (by decide))) (fun c => ?_)
  have go : ∀ z0 : Int32, WP (mb_simple_579 fu x4 x6 x7 x8 z0 10 F G) (fun r F1 G1 => VZ 0 0 F0 G0 r F1 G1) := by
    intro z0
    unfold mb_simple_579
    refine WP.bind (q.step h0 (by decide) 10 z0 0) ?_
    rintro r F1 G1 ⟨-, -, -, -, q1⟩
    dsimp only
    unfold mb_simple_583
    exact wm_584 h0 x4 x6 x7 x8 F1 G1 (q1.le (by decide) (by decide))
  unfold mb_simple_445
  refine WP.ite (fun _ => go _) (fun _ => ?_)
  unfold mb_simple_455
  refine WP.ite (fun _ => go _) (fun _ => ?_)
  unfold mb_simple_466
  refine WP.ite (fun _ => go _) (fun _ => ?_)
  unfold mb_simple_473
  refine WP.ite (fun _ => go _) (fun _ => ?_)
  unfold mb_simple_484
  refine WP.ite (fun _ => go _) (fun _ => ?_)
  unfold mb_simple_496
  refine WP.ite (fun _ => go _) (fun _ => ?_)
  unfold mb_simple_508
  refine WP.ite (fun _ => go _) (fun _ => ?_)
  unfold mb_simple_520
  refine WP.ite (fun _ => go _) (fun _ => ?_)
  unfold mb_simple_532
  refine WP.ite (fun _ => go _) (fun _ => ?_)
  unfold mb_simple_544
  refine WP.ite (fun _ => go _) (fun _ => ?_)
  unfold mb_simple_556
  refine WP.ite (fun _ => go _) (fun _ => ?_)
  unfold mb_simple_567
  exact WP.ite (fun _ => go _) (fun _ => go _)
theorem wm_404 (hfu : 8589934592 ≤ fu) (h0 : YG F0 G0) (x4 x6 x7 x8 x9 : Int32) (F : PF) (G : PG) (q : WR F0 G0 (-3) 0 0 F G) : WP (mb_simple_404 fu x4 x6 x7 x8 x9 F G) (fun r F1 G1 => VZ 0 0 F0 G0 r F1 G1) := by
  have one : WP (mb_simple_418 fu x4 x6 x7 x8 x9 F G) (fun r F1 G1 => VZ 0 0 F0 G0 r F1 G1) := by
    unfold mb_simple_418
    refine WP.bind (q.step h0 (by decide) 0 1 0) ?_
    rintro r F1 G1 ⟨-, -, -, -, q1⟩
    dsimp only
    unfold mb_simple_425
    exact wm_438 h0 x4 x6 x7 x8 x9 F1 G1 (q1.le (by decide) (by decide))
  unfold mb_simple_404
  refine WP.ite (fun _ => one) (fun _ => ?_)
  unfold mb_simple_411
  refine WP.ite (fun _ => one) (fun _ => ?_)
  unfold mb_simple_429
  refine WP.bind (q.expr hfu h0 (by decide) (by decide) 4 0 0 (by decide) ⟨fun z => absurd z (by decide), fun z => absurd z (by decide)⟩) ?_
  rintro r F1 G1 ⟨-, -, (⟨rfl, q1⟩ | ⟨rfl, q1⟩)⟩
  · dsimp only
    unfold mb_simple_433
    rw [if_neg (by decide)]
    exact wm_438 h0 x4 x6 x7 x8 x9 F1 G1 (q1.le (by decide) (by decide))
  · dsimp only
    unfold mb_simple_433 mb_simple_436
    rw [if_pos rfl]
    exact WP.ret (Or.inr ⟨rfl, q1⟩)
theorem wm_353 (hfu : 8589934592 ≤ fu) (h0 : YG F0 G0) (x4 x6 x7 x8 x9 : Int32) (F : PF) (G : PG) (κ : Int) (hκ : (x4 = 0 → κ ≤ -4) ∧ κ ≤ -4 ∧ (¬ x4 = 0 → κ ≤ -5)) (q : WR F0 G0 κ 0 0 F G) : WP (mb_simple_353 fu x4 x6 x7 x8 x9 F G) (fun r F1 G1 => VZ 0 0 F0 G0 r F1 G1) := by
  unfold mb_simple_353
  refine WP.ite (fun c => wm_404 hfu h0 x4 x6 x7 x8 x9 F G (q.le (by omega) (by decide))) (fun c => ?_)
  unfold mb_simple_360
  refine WP.ite (fun c4 => ?_) (fun c4 => ?_)
  · have ld : ∀ w : Int32, WP (mb_simple_397 fu x4 x6 x7 x8 x9 w F G) (fun r F1 G1 => VZ 0 0 F0 G0 r F1 G1) := by
      intro w
      unfold mb_simple_397
      refine WP.bind (q.step h0 (by omega) w x8 0) ?_
      rintro r F1 G1 ⟨-, -, -, -, q1⟩
      dsimp only
      unfold mb_simple_403
      exact wm_404 hfu h0 x4 x6 x7 x8 x9 F1 G1 (q1.le (by omega) (by decide))
    unfold mb_simple_386 mb_simple_396 mb_simple_392
    exact WP.ite (fun _ => ld _) (fun _ => ld _)
  · have k5 := hκ.2.2 c4
    unfold mb_simple_365
    refine WP.bind (q.step h0 (by omega) 9 0 0) ?_
    rintro r F1 G1 ⟨-, -, -, -, q1⟩
    dsimp only
    unfold mb_simple_373
    refine WP.bind (q1.step h0 (by omega) 7 0 0) ?_
    rintro r F2 G2 ⟨-, -, -, -, q2⟩
    dsimp only
    unfold mb_simple_382
    exact wm_404 hfu h0 x4 x6 x7 x8 x9 F2 G2 (q2.le (by omega) (by decide))
theorem wm_246 (hfu : 8589934592 ≤ fu) (h0 : YG F0 G0) (x4 x6 x7 x8 : Int32) (F : PF) (G : PG) (q : WR F0 G0 (if x4 = 0 then -2 else -3) 0 0 F G) : WP (mb_simple_246 fu x4 x6 x7 x8 F G) (fun r F1 G1 => VZ 0 0 F0 G0 r F1 G1) := by
  have v := (q.t h0).2.2
  have yes : ∀ x9 : Int32, ¬ G 4 (F 42).toNatClampNeg = 0 → WP (mb_simple_330 fu x4 x6 x7 x8 x9 1 F G) (fun r F1 G1 => VZ 0 0 F0 G0 r F1 G1) := by
    intro x9 hk
    unfold mb_simple_330
    rw [if_neg (by decide)]
    unfold mb_simple_343
    have q1 := (q.adv h0 hk).le (Int.le_refl _) (by decide : (0 : Int) - 1 ≤ 0)
    refine wm_353 hfu h0 x4 x6 x7 x8 x9 _ _ _ ⟨fun c => ?_, ?_, fun c => ?_⟩ q1
    · rw [if_pos c]; decide
    · split <;> decide
    · rw [if_neg c]; decide
  have no : ∀ x9 : Int32, WP (mb_simple_330 fu x4 x6 x7 x8 x9 0 F G) (fun r F1 G1 => VZ 0 0 F0 G0 r F1 G1) := by
    intro x9
    unfold mb_simple_330
    rw [if_pos rfl]
    unfold mb_simple_337
    refine WP.bind (ws_fails 2 (by decide) v) ?_
    rintro r F1 G1 ⟨rfl, u⟩
    dsimp only
    unfold mb_simple_342
    exact WP.bz (Or.inl rfl) (WP.ret (Or.inr ⟨rfl, q.flt h0 (by decide) u⟩))
  have all : ∀ x9 : Int32, (¬ x9 = -1 → ¬ G 4 (F 42).toNatClampNeg = 0) → WP (mb_simple_272 fu x4 x6 x7 x8 x9 F G) (fun r F1 G1 => VZ 0 0 F0 G0 r F1 G1) := by
    intro x9 hk
    unfold mb_simple_272
    refine WP.ite (fun c => yes _ (hk (by rw [c]; decide))) (fun _ => ?_)
    unfold mb_simple_281
    refine WP.ite (fun c => yes _ (hk (by rw [c]; decide))) (fun _ => ?_)
    unfold mb_simple_288
    refine WP.ite (fun c => yes _ (hk (by rw [c]; decide))) (fun _ => ?_)
    unfold mb_simple_295
    refine WP.ite (fun c => yes _ (hk (by rw [c]; decide))) (fun _ => ?_)
    unfold mb_simple_300
    refine WP.ite (fun c => yes _ (hk (by rw [c]; decide))) (fun _ => ?_)
    unfold mb_simple_306
    refine WP.ite (fun c => yes _ (hk (by rw [c]; decide))) (fun _ => ?_)
    unfold mb_simple_312
    refine WP.ite (fun _ => no _) (fun c => ?_)
    unfold mb_simple_318
    refine WP.ite (fun _ => no _) (fun _ => yes _ (hk (fun z => c (by rw [z]; decide))))
  unfold mb_simple_246
  refine WP.ix v (WP.ite (fun c => ?_) (fun _ => ?_))
  · unfold mb_simple_259
    exact WP.ix v (all _ (fun _ => k_ne c (by decide)))
  · unfold mb_simple_271
    exact all _ (fun z => absurd rfl z)
theorem wm_172 (hfu : 8589934592 ≤ fu) (h0 : YG F0 G0) (x2 x4 : Int32) (F : PF) (G : PG) (hm : x2 = -1 ∨ (0 ≤ x2.toInt ∧ x2.toInt < 900)) (q : WR F0 G0 (-2) 0 0 F G) : WP (mb_simple_172 fu x2 x4 F G) (fun r F1 G1 => VZ 0 0 F0 G0 r F1 G1) := by
  have s229 : ∀ x6 x7 x8 : Int32, WP (mb_simple_229 fu x2 x4 x6 x7 x8 F G) (fun r F1 G1 => VZ 0 0 F0 G0 r F1 G1) := by
    intro x6 x7 x8
    unfold mb_simple_229
    refine WP.ite (fun c => wm_246 hfu h0 x4 x6 x7 x8 F G (by rw [if_pos c]; exact q)) (fun c => ?_)
    unfold mb_simple_236
    refine WP.bind (q.expr hfu h0 (by decide) (by decide) 3 x2 0 (by decide) ⟨fun z => absurd z (by decide), fun _ => hm⟩) ?_
    rintro r F1 G1 ⟨-, -, (⟨rfl, q1⟩ | ⟨rfl, q1⟩)⟩
    · dsimp only
      unfold mb_simple_241
      rw [if_neg (by decide)]
      exact wm_246 hfu h0 x4 x6 x7 x8 F1 G1 (by rw [if_neg c]; exact q1)
    · dsimp only
      unfold mb_simple_241 mb_simple_244
      rw [if_pos rfl]
      exact WP.ret (Or.inr ⟨rfl, q1⟩)
  have s212 : ∀ x6 x7 : Int32, WP (mb_simple_212 fu x2 x4 x6 x7 F G) (fun r F1 G1 => VZ 0 0 F0 G0 r F1 G1) := by
    intro x6 x7
    unfold mb_simple_212 mb_simple_219 mb_simple_223
    refine WP.ite (fun _ => s229 _ _ _) (fun c => ?_)
    rcases hm with z | z
    · exact absurd z c
    · exact WP.ix (vp_in_iff.mpr ⟨z.1, by omega⟩) (s229 _ _ _)
  have s191 : ∀ x6 : Int32, WP (mb_simple_191 fu x2 x4 x6 F G) (fun r F1 G1 => VZ 0 0 F0 G0 r F1 G1) := by
    intro x6
    unfold mb_simple_191 mb_simple_198 mb_simple_211 mb_simple_207
    refine WP.ite (fun _ => s212 _ _) (fun c => ?_)
    rcases hm with z | z
    · exact absurd z c
    · exact WP.ix (vp_in_iff.mpr ⟨z.1, by omega⟩) (WP.ite (fun _ => s212 _ _) (fun _ => s212 _ _))
  unfold mb_simple_172 mb_simple_177 mb_simple_190 mb_simple_186
  refine WP.ite (fun _ => s191 _) (fun c => ?_)
  rcases hm with z | z
  · exact absurd z c
  · exact WP.ix (vp_in_iff.mpr ⟨z.1, by omega⟩) (WP.ite (fun _ => s191 _) (fun _ => s191 _))
theorem WR.note {F : PF} {G : PG} {κ j δ : Int} (q : WR F0 G0 κ j δ F G) (k p : Int32) (hk : 0 < k.toInt) : WP (mf_note fu k p F G) (fun _ F1 G1 => G = G1 ∧ F1 42 = F 42 ∧ WR F0 G0 κ j δ F1 G1) := by
  refine WP.mono (ws_note k p hk) ?_
  rintro r F1 G1 ⟨K, rfl⟩
  exact ⟨rfl, K.1 42 rfl, q.kx K rfl⟩
theorem wm_111 (hfu : 8589934592 ≤ fu) (h0 : YG F0 G0) (x1 x2 x3 x4 : Int32) (F : PF) (G : PG) (v1 : vp_in x1 4002) (hm : x2 = -1 ∨ (0 ≤ x2.toInt ∧ x2.toInt < 900)) (q : WR F0 G0 (-2) 0 0 F G) : WP (mb_simple_111 fu x1 x2 x3 x4 F G) (fun r F1 G1 => VZ 0 0 F0 G0 r F1 G1) := by
  have s149 : ∀ z : Int32, WP (mb_simple_149 fu x1 x2 x3 x4 z F G) (fun r F1 G1 => VZ 0 0 F0 G0 r F1 G1) := by
    intro z
    have nt : WP (mb_simple_160 fu x1 x2 x4 F G) (fun r F1 G1 => VZ 0 0 F0 G0 r F1 G1) := by
      unfold mb_simple_160
      refine WP.ix v1 (WP.bind (q.note 6 _ (by decide)) ?_)
      rintro r F1 G1 ⟨rfl, -, q1⟩
      dsimp only
      exact wm_172 hfu h0 x2 x4 F1 G hm q1
    unfold mb_simple_149 mb_simple_155
    exact WP.ite (fun _ => WP.ite (fun _ => nt) (fun _ => wm_172 hfu h0 x2 x4 F G hm q)) (fun _ => wm_172 hfu h0 x2 x4 F G hm q)
  unfold mb_simple_111 mb_simple_116 mb_simple_134 mb_simple_121 mb_simple_148 mb_simple_131 mb_simple_144
  refine WP.ite (fun _ => s149 _) (fun c => ?_)
  rcases hm with z | z
  · exact absurd z c
  · have vm : vp_in x2 900 := vp_in_iff.mpr ⟨z.1, by omega⟩
    exact WP.ite (fun _ => WP.ix vm (WP.ite (fun _ => s149 _) (fun _ => s149 _))) (fun _ => WP.ix vm (WP.ite (fun _ => s149 _) (fun _ => s149 _)))
theorem wm_87 (hfu : 8589934592 ≤ fu) (h0 : YG F0 G0) (x1 x2 x3 : Int32) (F : PF) (G : PG) (v1 : vp_in x1 4002) (hm : x2 = -1 ∨ (0 ≤ x2.toInt ∧ x2.toInt < 900)) (q : WR F0 G0 (-2) 0 0 F G) : WP (mb_simple_87 fu x1 x2 x3 F G) (fun r F1 G1 => VZ 0 0 F0 G0 r F1 G1) := by
  unfold mb_simple_87
  refine WP.bind (ws_isSign 24 (q.t h0).2.2) ?_
  rintro x4 _ _ ⟨rfl, rfl, -⟩
  dsimp only
  unfold mb_simple_94
  refine WP.ite (fun _ => wm_111 hfu h0 x1 x2 x3 x4 F G v1 hm q) (fun _ => ?_)
  unfold mb_simple_100
  refine WP.ix v1 (WP.bind (q.note 4 _ (by decide)) ?_)
  rintro r F1 G1 ⟨rfl, -, q1⟩
  dsimp only
  exact wm_111 hfu h0 x1 x2 x3 x4 F1 G v1 hm q1
end SIMPW
theorem ws_name {fu : Nat} {F : PF} {G : PG} (v : vp_in (F 42) 4002) : WP (mf_name fu F G) (fun r F' G' => (r = F 42 ∧ F' = fup F 42 (F 42 + 1) ∧ G = G' ∧ G 4 (F 42).toNatClampNeg = 1 ∧ ¬ 0 < (F 44).toInt) ∨ (r = 0 ∧ FLT F F' G G')) := by
  refine WP.mono ((wa_name v).of (mp_name F G)) ?_
  rintro r F1 G1 (⟨h1, h2, h3, h4, h5, -⟩ | ⟨h1, h2, -⟩)
  · exact Or.inl ⟨h1.trans (i_as _), h2, h3, h4, h5⟩
  · exact Or.inr ⟨h1, h2⟩
theorem wz_simple {fu : Nat} (hfu : 8589934592 ≤ fu) (F : PF) (G : PG) (h0 : YG F G) : WP (mf_simple fu F G) (fun r F1 G1 => VZ 0 0 F G r F1 G1) := by
  have q0 := WR.rf h0
  have v0 := (q0.t h0).2.2
  have yd := (q0.yp h0 (by decide) (by decide)).2.2.2.2.2.2.2
  unfold mf_simple mb_simple_0
  refine WP.bind (ws_name v0) ?_
  rintro r F1 G1 (⟨rfl, rfl, rfl, k1, -⟩ | ⟨rfl, u⟩)
  · dsimp only
    have q1 := (q0.adv h0 (k_ne k1 (by decide))).le (by decide : (0 : Int) - 2 ≤ -2) (by decide : (0 : Int) - 1 ≤ 0)
    generalize fup F 42 (F 42 + 1) = F1 at q1
    unfold mb_simple_4
    rw [if_pos (show F1 44 ≤ 0 by rw [q1.2.1.2.1]; decide)]
    unfold mb_simple_14
    refine WP.bind (ws_isSign 22 (q1.t h0).2.2) ?_
    rintro z _ _ ⟨rfl, rfl, -⟩
    dsimp only
    unfold mb_simple_20
    refine WP.ite (fun _ => ?_) (fun _ => ?_)
    · unfold mb_simple_45
      refine WP.ite (fun c46 => ?_) (fun _ => ?_)
      · unfold mb_simple_52 mb_simple_61
        rw [if_pos (show F1 46 ≤ 0 by rw [c46]; decide)]
        unfold mb_simple_86
        exact wm_87 hfu h0 _ _ _ F1 G v0 (Or.inl rfl) q1
      · have y1 := (q1.yp h0 (by decide) (by decide)).2.2.2.2.2.2.2
        unfold mb_simple_56
        refine WP.bind (ws_meaning hfu (F 42) v0 y1.1 y1.2.1) ?_
        rintro m F2 G2 ⟨rfl, K, hm, -⟩
        dsimp only
        have q2 := q1.kx K rfl
        have hm := hm.v y1.1.2
        have nx : ∀ x3 : Int32, WP (mb_simple_87 fu (F 42) m x3 F2 G) (fun r F1 G1 => VZ 0 0 F G r F1 G1) := fun x3 => wm_87 hfu h0 _ _ x3 F2 G v0 hm q2
        unfold mb_simple_61 mb_simple_69 mb_simple_74 mb_simple_86 mb_simple_82
        exact WP.ite (fun _ => nx _) (fun _ => WP.ite (fun _ => WP.ite (fun _ => nx _) (fun _ => nx _)) (fun _ => nx _))
    · unfold mb_simple_23
      refine WP.bind (q1.expr hfu h0 (by decide) (by decide) 1 (F 42) 0 (by decide) ⟨fun _ => v0, fun z => absurd z (by decide)⟩) ?_
      rintro r F2 G2 ⟨-, -, (⟨rfl, q2⟩ | ⟨rfl, q2⟩)⟩
      · dsimp only
        unfold mb_simple_29
        rw [if_neg (by decide)]
        unfold mb_simple_34
        refine WP.bind (q2.step h0 (by decide) 18 0 0) ?_
        rintro r F3 G3 ⟨-, -, -, -, q3⟩
        dsimp only
        unfold mb_simple_42
        exact WP.ret (Or.inl ⟨rfl, q3.le (by decide) (by decide)⟩)
      · dsimp only
        unfold mb_simple_29 mb_simple_32
        rw [if_pos rfl]
        exact WP.ret (Or.inr ⟨rfl, q2⟩)
  · dsimp only
    unfold mb_simple_4
    refine WP.ite (fun c => ?_) (fun _ => ?_)
    · have := u.1
      have := i_le.mp c
      have : (0 : Int32).toInt = 0 := rfl
      omega
    · unfold mb_simple_12
      exact WP.ret (Or.inr ⟨rfl, q0.flt h0 (by decide) u⟩)
