section TELLW
variable {fu : Nat} {F0 : PF} {G0 : PG}
theorem WR.decl {F : PF} {G : PG} {κ j δ : Int} (q : WR F0 G0 κ j δ F G) (h0 : YG F0 G0) (hδ : δ ≤ 0) (x1 x2 x3 x4 x5 x6 : Int32) (v : vp_in x1 4002) : WP (mf_declare fu x1 x2 x3 x4 x5 x6 F G) (fun _ F1 G1 => WR F0 G0 κ j (δ + 5) F1 G1) := by
  have ht := q.t h0
  have hD := q.2.2.2.2.2.2
  have w := wa_declare (fu := fu) (G := G) x1 x2 x3 x4 x5 x6 v (F := F) (Or.inr ⟨hD.1, by omega⟩)
  refine WP.mono (w.of (mp_declare x1 x2 x3 x4 x5 x6 F G)) ?_
  rintro r F1 G1 ⟨K1, hd⟩
  obtain ⟨K, hg, h42, h43, h51, hΦ, hD⟩ := q
  have e : tT F1 G1 = tT F G := by unfold tT; rw [K1.1 42 rfl, K1.2 6 rfl]
  refine ⟨KX.tr K K1 rfl rfl, hg.kx K1 rfl rfl rfl rfl rfl rfl, by rw [K1.1 42 rfl]; exact h42, by rw [K1.1 43 rfl]; exact h43, (K1.1 51 rfl).trans h51, by rw [K1.1 60 rfl, e, K1.1 42 rfl]; exact hΦ, ?_⟩
  rw [e]
  rcases hd with ⟨-, rfl, -⟩ | ⟨-, hd⟩
  · exact ⟨hD.1, by omega⟩
  · have i1 : (F 14 + 1).toInt = (F 14).toInt + 1 := i_addn _ rfl (by omega) (by omega)
    rw [hd.2.1]
    exact ⟨by omega, by omega⟩
theorem WR.twice {F : PF} {G : PG} {κ j δ : Int} (hfu : 8589934592 ≤ fu) (q : WR F0 G0 κ j δ F G) (h0 : YG F0 G0) (hκ : κ ≤ 0) (hδ : δ ≤ 1) (x : Int32) (v : vp_in x 4002) : WP (mf_twice fu x F G) (fun _ F1 G1 => WR F0 G0 κ j δ F1 G1) := by
  have yd := (q.yp h0 hκ hδ).2.2.2.2.2.2.2
  exact WP.mono (ws_twice hfu x v yd.1 yd.2.1) (fun _ _ _ K => q.kx K rfl)
theorem WR.val {F F1 : PF} {G G1 : PG} {κ j δ : Int} (q : WR F0 G0 κ j δ F G) (v : VQ F G F1 G1) (h44 : F1 44 = 0) (t1 : 0 ≤ (F1 42).toInt ∧ (F1 42).toInt ≤ (F 7).toInt) (t2 : (F 42).toInt ≤ (F1 42).toInt) (t3 : tT F G + 1 ≤ tT F1 G1) : WR F0 G0 κ j δ F1 G1 := by
  obtain ⟨K, ⟨b1, b2, b3, b4, b5, b6, b7, b8⟩, h42, h43, h51, hΦ, hD⟩ := q
  obtain ⟨v1, v2, v3, v4, v5, v6, v7⟩ := v
  have w : F1 44 = 0 ∧ F1 43 = F 43 ∧ F1 70 = F 70 := by
    rcases v6 with z | z
    · exact z
    · rw [h44] at z
      exact absurd z (by decide)
  rw [K.1 7 rfl] at t1
  refine ⟨KX.tr K v1 rfl rfl, ?_, t1, by rw [w.2.1]; exact h43, (v1.1 51 rfl).trans h51, by rw [v2]; omega, by rw [v1.1 14 rfl]; omega⟩
  unfold GP
  rw [v2, w.1, w.2.2, v3, w.2.1, v1.1 51 rfl]
  exact ⟨b1, rfl, b3, b4, b5, b6, b7, b8⟩
theorem wl_326 (h0 : YG F0 G0) (x3 x4 : Int32) (F : PF) (G : PG) (v3 : vp_in x3 4002) (q : WR F0 G0 (-1) 0 (-4) F G) : WP (mb_tellHere_326 fu x3 x4 F G) (fun r F1 G1 => VZ 0 1 F0 G0 r F1 G1) := by
  unfold mb_tellHere_326
  refine WP.bind (q.step h0 (by decide) 2 x4 0) ?_
  rintro r F1 G1 ⟨-, -, -, -, q1⟩
  dsimp only
  unfold mb_tellHere_334
  refine WP.bind (q1.decl h0 (by decide) x3 1 0 x4 1 1 v3) (fun r F2 G2 q2 => ?_)
  dsimp only
  unfold mb_tellHere_346
  exact WP.ret (Or.inl ⟨rfl, q2.le (by decide) (by decide)⟩)
theorem wl_210 (hfu : 8589934592 ≤ fu) (h0 : YG F0 G0) (x1 x3 : Int32) (F : PF) (G : PG) (v3 : vp_in x3 4002) (q : WR F0 G0 (-4) 0 (-4) F G) : WP (mb_tellHere_210 fu x1 x3 F G) (fun r F1 G1 => VZ 0 1 F0 G0 r F1 G1) := by
  unfold mb_tellHere_210
  refine WP.bind (q.twice hfu h0 (by decide) (by decide) x3 v3) (fun r F1 G1 q1 => ?_)
  dsimp only
  unfold mb_tellHere_215
  have s277 : ∀ (x4 : Int32) (F2 : PF) (G2 : PG), WR F0 G0 (-4) 0 (-4) F2 G2 → WP (mb_tellHere_277 fu x1 x3 x4 F2 G2) (fun r F1 G1 => VZ 0 1 F0 G0 r F1 G1) := by
    intro x4 F2 G2 q2
    unfold mb_tellHere_277
    refine WP.bind (ws_isSign 32 (q2.t h0).2.2) ?_
    rintro z _ _ ⟨rfl, rfl, (⟨rfl, s⟩ | ⟨rfl, -⟩)⟩
    · dsimp only
      unfold mb_tellHere_283
      rw [if_neg (by decide)]
      unfold mb_tellHere_286 mb_tellHere_296
      have q3 := q2.adv h0 (k_ne (sgn_k s).1 (by decide))
      refine WP.bind (q3.expr hfu h0 (by decide) (by decide) 4 0 0 (by decide) ⟨fun z => absurd z (by decide), fun z => absurd z (by decide)⟩) ?_
      rintro r F4 G4 ⟨-, -, (⟨rfl, q4⟩ | ⟨rfl, q4⟩)⟩
      · dsimp only
        unfold mb_tellHere_300
        rw [if_neg (by decide)]
        exact wl_326 h0 x3 x4 F4 G4 v3 (q4.le (by decide) (by decide))
      · dsimp only
        unfold mb_tellHere_300 mb_tellHere_303
        rw [if_pos rfl]
        exact WP.ret (Or.inr ⟨rfl, q4⟩)
    · dsimp only
      unfold mb_tellHere_283
      rw [if_pos rfl]
      unfold mb_tellHere_305
      refine WP.ite (fun _ => ?_) (fun _ => ?_)
      · unfold mb_tellHere_320
        refine WP.bind (ws_fails 2 (by decide) (q2.t h0).2.2) ?_
        rintro r F3 G3 ⟨rfl, u⟩
        dsimp only
        unfold mb_tellHere_325
        exact WP.bz (Or.inl rfl) (WP.ret (Or.inr ⟨rfl, q2.flt h0 (by decide) u⟩))
      · unfold mb_tellHere_309
        refine WP.bind (q2.step h0 (by decide) 0 0 0) ?_
        rintro r F3 G3 ⟨-, -, -, -, q3⟩
        dsimp only
        unfold mb_tellHere_316
        exact wl_326 h0 x3 x4 F3 G3 v3 (q3.le (by decide) (by decide))
  have s247 : ∀ (F2 : PF) (G2 : PG), WR F0 G0 (-4) 0 (-4) F2 G2 → WP (mb_tellHere_247 fu x1 x3 F2 G2) (fun r F1 G1 => VZ 0 1 F0 G0 r F1 G1) := by
    intro F2 G2 q2
    have K3 : ∀ v : Int32, KX [53] [] F2 G2 (fup F2 53 v) G2 := fun v => KX.f rfl KX.rf
    unfold mb_tellHere_247 mb_tellHere_272 mb_tellHere_268 mb_tellHere_273
    exact WP.ite (fun _ => s277 _ _ _ (q2.kx (K3 _) rfl)) (fun _ => s277 _ _ _ (q2.kx (K3 _) rfl))
  have K2 : KX [52] [] F1 G1 (fup F1 52 (F1 52 + 1)) G1 := KX.f rfl KX.rf
  have q2 := q1.kx K2 rfl
  unfold mb_tellHere_225
  refine WP.ite (fun _ => s247 _ _ q2) (fun _ => ?_)
  unfold mb_tellHere_235
  refine WP.ix v3 (WP.bind (q2.note 11 _ (by decide)) ?_)
  rintro r F3 G3 ⟨rfl, -, q3⟩
  dsimp only
  exact s247 _ _ q3
theorem wl_47 (hfu : 8589934592 ≤ fu) (h0 : YG F0 G0) (x2 x3 : Int32) (F : PF) (G : PG) (v3 : vp_in x3 4002) (q : WR F0 G0 (-4) 0 (-4) F G) : WP (mb_tellHere_47 fu x2 x3 F G) (fun r F1 G1 => VZ 0 1 F0 G0 r F1 G1) := by
  unfold mb_tellHere_47
  refine WP.bind (q.twice hfu h0 (by decide) (by decide) x3 v3) (fun r F1 G1 q1 => ?_)
  dsimp only
  unfold mb_tellHere_52
  refine WP.bind (ws_openSign 24 (q1.t h0).2.2) ?_
  rintro r F2 G2 (⟨rfl, rfl, rfl, s, u, -⟩ | ⟨rfl, u, -⟩)
  · dsimp only
    unfold mb_tellHere_58
    rw [if_neg (by decide)]
    have q2 := q1.op h0 (k_ne (sgn_k s).1 (by decide)) u
    generalize fup (fup F1 43 (F1 43 + 1)) 42 (F1 42 + 1) = F2 at q2
    unfold mb_tellHere_63
    have y2 := q2.yp h0 (by decide) (by decide)
    have f70 : (F2 70).toInt = 0 := by rw [q2.2.1.2.2.1]; rfl
    refine WP.bind (wz_sizeHere hfu F2 G1 y2 (by have := y2.2.2.2.1.1; omega) (Or.inl q2.2.1.2.2.2.1)) ?_
    rintro x4 F3 G3 ⟨v, hx, ht⟩
    dsimp only
    have st : ∀ (z0 : Int32) (F5 : PF) (G5 : PG), WR F0 G0 (-8) 0 (-6) F5 G5 → WP (mb_tellHere_158 fu x2 x3 x4 z0 F5 G5) (fun r F1 G1 => VZ 0 1 F0 G0 r F1 G1) := by
      intro z0 F5 G5 q5
      unfold mb_tellHere_158
      refine WP.bind (q5.step h0 (by decide) 22 _ z0) ?_
      rintro r F6 G6 ⟨-, -, -, -, q6⟩
      dsimp only
      have dc : ∀ (a b c e : Int32), WP (mb_tellHere_193 fu z0 a b c e x3 F6 G6) (fun r F1 G1 => VZ 0 1 F0 G0 r F1 G1) := by
        intro a b c e
        unfold mb_tellHere_193
        refine WP.bind (q6.decl h0 (by decide) x3 e c b a 1 v3) (fun r F7 G7 q7 => ?_)
        dsimp only
        unfold mb_tellHere_197 mb_tellHere_208
        have K8 : KX [53] [] F7 G7 (fup F7 53 (F7 53 + z0)) G7 := KX.f rfl KX.rf
        exact WP.ret (Or.inl ⟨rfl, (q7.kx K8 rfl).le (by decide) (by decide)⟩)
      unfold mb_tellHere_172 mb_tellHere_187 mb_tellHere_191
      exact WP.ite (fun _ => dc _ _ _ _) (fun _ => dc _ _ _ _)
    have s136 : ∀ (F5 : PF) (G5 : PG), WR F0 G0 (-8) 0 (-6) F5 G5 → WP (mb_tellHere_136 fu x2 x3 x4 F5 G5) (fun r F1 G1 => VZ 0 1 F0 G0 r F1 G1) := by
      intro F5 G5 q5
      unfold mb_tellHere_136 mb_tellHere_142 mb_tellHere_152 mb_tellHere_156
      exact WP.ite (fun _ => st _ _ _ q5) (fun _ => WP.ite (fun _ => st _ _ _ q5) (fun _ => st _ _ _ q5))
    have s110 : ∀ (z0 z1 : Int32) (F5 : PF) (G5 : PG), WR F0 G0 (-8) 0 (-6) F5 G5 → WP (mb_tellHere_110 fu x2 x3 x4 z0 z1 F5 G5) (fun r F1 G1 => VZ 0 1 F0 G0 r F1 G1) := by
      intro z0 z1 F5 G5 q5
      have K6 : KX [52] [] F5 G5 (fup F5 52 (z1 + z0)) G5 := KX.f rfl KX.rf
      have q6 := q5.kx K6 rfl
      unfold mb_tellHere_110 mb_tellHere_114
      refine WP.ite (fun _ => s136 _ _ q6) (fun _ => ?_)
      unfold mb_tellHere_124
      refine WP.ix v3 (WP.bind (q6.note 11 _ (by decide)) ?_)
      rintro r F7 G7 ⟨rfl, -, q7⟩
      dsimp only
      exact s136 _ _ q7
    unfold mb_tellHere_67
    rcases ht with ht | ⟨t0, t1, t2, t3⟩
    · -- a fault in the size
      have bad : WP (mf_closeSign fu 25 F3 G3) (fun r F4 G4 => r = 0 ∧ FLT F3 F4 G3 G4) := by
        unfold mf_closeSign mb_closeSign_0
        have sg : WP (mf_sign fu 25 F3 G3) (fun r F4 G4 => r = 0 ∧ F3 = F4 ∧ G3 = G4) := by
          unfold mf_sign mb_sign_0
          rw [if_pos (i_lt.mpr (show (0 : Int32).toInt < (F3 44).toInt from ht))]
          unfold mb_sign_15
          have fl : WP (mf_fails fu 2 F3 G3) (fun r F4 G4 => r = 0 ∧ F3 = F4 ∧ G3 = G4) := by
            unfold mf_fails mb_fails_0
            refine WP.ite (fun c => ?_) (fun _ => ?_)
            · have := i_le.mp c
              have : (0 : Int32).toInt = 0 := rfl
              omega
            · unfold mb_fails_7
              exact WP.ret ⟨rfl, rfl, rfl⟩
          refine WP.bind fl ?_
          rintro r F4 G4 ⟨rfl, rfl, rfl⟩
          dsimp only
          unfold mb_sign_20
          exact WP.bz (Or.inl rfl) (WP.ret ⟨rfl, rfl, rfl⟩)
        refine WP.bind sg ?_
        rintro r F4 G4 ⟨rfl, rfl, rfl⟩
        dsimp only
        unfold mb_closeSign_5 mb_closeSign_8
        rw [if_pos rfl]
        exact WP.ret ⟨rfl, ht, rfl, KX.rf⟩
      refine WP.bind bad ?_
      rintro r F4 G4 ⟨rfl, u⟩
      dsimp only
      unfold mb_tellHere_75 mb_tellHere_78
      rw [if_pos rfl]
      have tt := q2.t h0
      have hD := q2.2.2.2.2.2.2
      obtain ⟨u1, rfl, K4⟩ := u
      exact WP.ret (Or.inr ⟨rfl, KX.tr (KX.tr q2.1 v.1 rfl rfl) K4 rfl rfl, u1, by rw [K4.1 14 rfl, v.1.1 14 rfl]; omega⟩)
    · have q3 := q2.val v t0 t1 t2 t3
      refine WP.bind (ws_closeSign 25 (q3.t h0).2.2) ?_
      rintro r F4 G4 (⟨rfl, rfl, rfl, s, -⟩ | ⟨rfl, u, -⟩)
      · dsimp only
        unfold mb_tellHere_75
        rw [if_neg (by decide)]
        have q4 := (WR.cl (j := 0) q3 h0 (by decide) (k_ne (sgn_k s).1 (by decide))).le (κ1 := -8) (δ1 := -6) (by decide) (by decide)
        unfold mb_tellHere_80 mb_tellHere_91 mb_tellHere_95 mb_tellHere_108 mb_tellHere_99
        exact WP.ite (fun _ => s110 _ _ _ _ q4) (fun _ => WP.ite (fun _ => s110 _ _ _ _ q4) (fun _ => s110 _ _ _ _ q4))
      · dsimp only
        unfold mb_tellHere_75 mb_tellHere_78
        rw [if_pos rfl]
        exact WP.ret (Or.inr ⟨rfl, q3.flt h0 (by decide) u⟩)
  · dsimp only
    unfold mb_tellHere_58 mb_tellHere_61
    rw [if_pos rfl]
    exact WP.ret (Or.inr ⟨rfl, q1.flt h0 (by decide) u⟩)
end TELLW
theorem wz_tellHere {fu : Nat} (hfu : 8589934592 ≤ fu) (x1 : Int32) (F : PF) (G : PG) (h0 : YG F G) (hk : G 4 (F 42).toNatClampNeg = 2) (hv : (G 5 (F 42).toNatClampNeg).toInt ≤ 2) : WP (mf_tellHere fu x1 F G) (fun r F1 G1 => VZ 0 1 F G r F1 G1) := by
  have q0 := WR.rf h0
  unfold mf_tellHere mb_tellHere_0
  refine WP.bind (ws_isWord 1 (q0.t h0).2.2) ?_
  rintro x2 _ _ ⟨rfl, rfl, -⟩
  dsimp only
  unfold mb_tellHere_5 mb_tellHere_16
  have q1 := q0.adv3 h0 hk hv
  generalize fup F 42 (F 42 + 1) = F1 at q1
  refine WP.bind (ws_name (q1.t h0).2.2) ?_
  rintro r F2 G2 (⟨rfl, rfl, rfl, k1, -⟩ | ⟨rfl, u⟩)
  · dsimp only
    have v3 := (q1.t h0).2.2
    have q2 := (q1.adv h0 (k_ne k1 (by decide))).le (κ1 := -4) (δ1 := -4) (by decide) (by decide)
    generalize fup F1 42 (F1 42 + 1) = F2 at q2
    unfold mb_tellHere_20
    rw [if_pos (show F2 44 ≤ 0 by rw [q2.2.1.2.1]; decide)]
    unfold mb_tellHere_30
    refine WP.ite (fun _ => wl_210 hfu h0 x1 _ F2 G v3 q2) (fun _ => ?_)
    unfold mb_tellHere_34
    refine WP.ite (fun _ => ?_) (fun _ => wl_47 hfu h0 x2 _ F2 G v3 q2)
    unfold mb_tellHere_38
    refine WP.bind (ws_isSign 24 (q2.t h0).2.2) ?_
    rintro z _ _ ⟨rfl, rfl, -⟩
    dsimp only
    unfold mb_tellHere_44
    exact WP.ite (fun _ => wl_210 hfu h0 x1 _ F2 G v3 q2) (fun _ => wl_47 hfu h0 x2 _ F2 G v3 q2)
  · dsimp only
    unfold mb_tellHere_20
    refine WP.ite (fun c => ?_) (fun _ => ?_)
    · have := u.1
      have := i_le.mp c
      have : (0 : Int32).toInt = 0 := rfl
      omega
    · unfold mb_tellHere_28
      exact WP.ret (Or.inr ⟨rfl, q1.flt h0 (by decide) u⟩)
theorem wz_semi {fu : Nat} {F0 F : PF} {G0 G : PG} {κ : Int} (q : WR F0 G0 κ 0 1 F G) (h0 : YG F0 G0) : WP (mf_sign fu 29 F G) (fun r F1 G1 => VZ (κ - 2) 0 F0 G0 r F1 G1) := by
  refine WP.mono (ws_sign 29 (q.t h0).2.2) ?_
  rintro r F1 G1 (⟨rfl, rfl, rfl, s, -⟩ | ⟨rfl, u, -⟩)
  · exact Or.inl ⟨rfl, (q.adv h0 (k_ne (sgn_k s).1 (by decide))).le (Int.le_refl _) (by decide)⟩
  · exact Or.inr ⟨rfl, q.flt h0 (by decide) u⟩
theorem VZ.b {κ δ : Int} {F F1 : PF} {G G1 : PG} {r : Int32} (h : VZ κ δ F G r F1 G1) : r = 0 ∨ r = 1 := by
  rcases h with ⟨q, -⟩ | ⟨q, -⟩
  · exact Or.inr q
  · exact Or.inl q
theorem VZ.le {κ κ1 δ δ1 : Int} {F F1 : PF} {G G1 : PG} {r : Int32} (h : VZ κ δ F G r F1 G1) (hk : κ ≤ κ1) (hd : δ ≤ δ1) : VZ κ1 δ1 F G r F1 G1 := by
  rcases h with ⟨q, q1⟩ | q
  · exact Or.inl ⟨q, q1.le hk hd⟩
  · exact Or.inr q
theorem wz_leaves {fu : Nat} (F : PF) (G : PG) (h0 : YG F G) (hk : ¬ G 4 (F 42).toNatClampNeg = 0) : WP (mf_leaves fu F G) (fun r F1 G1 => VZ (-1) 0 F G r F1 G1) := by
  have q0 := WR.rf h0
  have v0 := (q0.t h0).2.2
  unfold mf_leaves mb_leaves_0
  refine WP.bind (ws_isWord 9 v0) ?_
  rintro x1 _ _ ⟨rfl, rfl, -⟩
  dsimp only
  have fin : ∀ (F1 : PF) (G1 : PG), WR F G (-1) 0 0 F1 G1 → WP (mb_leaves_93 fu F1 G1) (fun r F1 G1 => VZ (-1) 0 F G r F1 G1) := by
    intro F1 G1 q
    unfold mb_leaves_93
    refine WP.bind (wz_semi (q.le (Int.le_refl _) (by decide : (0 : Int) ≤ 1)) h0) (fun r F2 G2 q2 => ?_)
    dsimp only
    unfold mb_leaves_99
    exact WP.bz q2.b (WP.ret (q2.le (by decide) (by decide)))
  have go : ∀ (F1 : PF), WR F G 0 0 0 F1 G → F1 42 = F 42 → WP (mb_leaves_29 fu x1 F1 G) (fun r F1 G1 => VZ (-1) 0 F G r F1 G1) := by
    intro F1 q e42
    unfold mb_leaves_29
    have q1 := q.adv h0 (by rw [e42]; exact hk)
    generalize fup F1 42 (F1 42 + 1) = F2 at q1
    unfold mb_leaves_39
    refine WP.bind (q1.step h0 (by decide) 12 0 0) ?_
    rintro _ F3 G3 ⟨rfl, n3, -, -, q3⟩
    dsimp only
    have q3 := q3.le (κ1 := -1) (δ1 := 0) (by decide) (by decide)
    unfold mb_leaves_47
    refine WP.ite (fun _ => fin F3 G3 q3) (fun _ => ?_)
    have s75 : ∀ z : Int32, WP (mb_leaves_75 fu x1 (F2 60) z (F2 60) F3 G3) (fun r F1 G1 => VZ (-1) 0 F G r F1 G1) := by
      intro z
      unfold mb_leaves_75
      refine WP.ix n3 ?_
      have K4 : KX [] [57] F3 G3 F3 (gup G3 57 (F2 60).toNatClampNeg z) := KX.g rfl KX.rf
      have q4 := q3.kx K4 rfl
      unfold mb_leaves_76 mb_leaves_88 mb_leaves_80 mb_leaves_85
      refine WP.ite (fun _ => ?_) (fun _ => ?_)
      · have K5 : KX [64] [] F3 (gup G3 57 (F2 60).toNatClampNeg z) (fup F3 64 (F2 60)) (gup G3 57 (F2 60).toNatClampNeg z) := KX.f rfl KX.rf
        exact fin _ _ (q4.kx K5 rfl)
      · have K5 : KX [63] [] F3 (gup G3 57 (F2 60).toNatClampNeg z) (fup F3 63 (F2 60)) (gup G3 57 (F2 60).toNatClampNeg z) := KX.f rfl KX.rf
        exact fin _ _ (q4.kx K5 rfl)
    unfold mb_leaves_55 mb_leaves_71 mb_leaves_64
    exact WP.ite (fun _ => s75 _) (fun _ => s75 _)
  unfold mb_leaves_6
  refine WP.ite (fun _ => ?_) (fun _ => go F q0 rfl)
  unfold mb_leaves_14
  refine WP.ix v0 (WP.bind (q0.note 9 _ (by decide)) ?_)
  rintro r F1 G1 ⟨rfl, e42, q1⟩
  dsimp only
  exact go F1 q1 e42
theorem wz_returns {fu : Nat} (hfu : 8589934592 ≤ fu) (F : PF) (G : PG) (h0 : YG F G) (hk : ¬ G 4 (F 42).toNatClampNeg = 0) : WP (mf_returns fu F G) (fun r F1 G1 => VZ (-1) 0 F G r F1 G1) := by
  have q0 := WR.rf h0
  have v50 := h0.2.2.2.2.2.2.2
  have fin : ∀ (F1 : PF) (G1 : PG), WR F G (-1) 0 0 F1 G1 → WP (mb_returns_98 fu F1 G1) (fun r F1 G1 => VZ (-1) 0 F G r F1 G1) := by
    intro F1 G1 q
    unfold mb_returns_98
    refine WP.bind (q.step h0 (by decide) 17 0 0) ?_
    rintro r F2 G2 ⟨-, -, -, -, q2⟩
    dsimp only
    unfold mb_returns_106
    refine WP.bind (wz_semi (q2.le (Int.le_refl _) (by decide : (0 : Int) ≤ 1)) h0) (fun r F3 G3 q3 => ?_)
    dsimp only
    unfold mb_returns_113
    exact WP.bz q3.b (WP.ret (q3.le (by decide) (by decide)))
  have nul : ∀ (F1 : PF) (G1 : PG), WR F G (-2) 0 0 F1 G1 → WP (mb_returns_46 fu F1 G1) (fun r F1 G1 => VZ (-1) 0 F G r F1 G1) := by
    intro F1 G1 q
    unfold mb_returns_46
    refine WP.bind (q.step h0 (by decide) 0 0 0) ?_
    rintro r F2 G2 ⟨-, -, -, -, q2⟩
    dsimp only
    unfold mb_returns_53
    exact fin F2 G2 (q2.le (by decide) (by decide))
  have exp : ∀ (F1 : PF) (G1 : PG), WR F G (-2) 0 0 F1 G1 → WP (mb_returns_89 fu F1 G1) (fun r F1 G1 => VZ (-1) 0 F G r F1 G1) := by
    intro F1 G1 q
    unfold mb_returns_89
    refine WP.bind (q.expr hfu h0 (by decide) (by decide) 4 0 0 (by decide) ⟨fun z => absurd z (by decide), fun z => absurd z (by decide)⟩) ?_
    rintro r F2 G2 ⟨-, -, (⟨rfl, q2⟩ | ⟨rfl, q2⟩)⟩
    · dsimp only
      unfold mb_returns_93
      rw [if_neg (by decide)]
      exact fin F2 G2 (q2.le (by decide) (by decide))
    · dsimp only
      unfold mb_returns_93 mb_returns_96
      rw [if_pos rfl]
      exact WP.ret (Or.inr ⟨rfl, q2⟩)
  unfold mf_returns mb_returns_0
  have q1 := (q0.adv h0 hk).le (κ1 := -2) (δ1 := 0) (by decide) (by decide)
  have e50 : (fup F 42 (F 42 + 1)) 50 = F 50 := rfl
  generalize fup F 42 (F 42 + 1) = F1 at q1 e50
  have v1 := (q1.t h0).2.2
  have w50 : vp_in (F1 50) 500 := by rw [e50]; exact v50
  unfold mb_returns_10
  refine WP.bind (ws_isSign 29 v1) ?_
  rintro z _ _ ⟨rfl, rfl, -⟩
  dsimp only
  unfold mb_returns_16
  refine WP.ite (fun _ => ?_) (fun _ => ?_)
  · unfold mb_returns_57
    refine WP.ix w50 (WP.ite (fun _ => exp F1 G q1) (fun _ => ?_))
    unfold mb_returns_69
    refine WP.ix v1 (WP.bind ((wa_rank 7).of (mw_rank 7 F1 G)) ?_)
    intro r F2 G2 K2
    dsimp only
    have q2 := q1.kx K2 rfl
    unfold mb_returns_86
    refine WP.bind (ws_noteAs 8 _ r (by decide)) ?_
    rintro r F3 G3 ⟨K3, rfl⟩
    dsimp only
    exact exp F3 G2 (q2.kx K3 rfl)
  · unfold mb_returns_19
    refine WP.ix w50 (WP.ite (fun _ => ?_) (fun _ => nul F1 G q1))
    unfold mb_returns_31
    refine WP.ix v1 (WP.bind (q1.note 8 _ (by decide)) ?_)
    rintro r F2 G2 ⟨rfl, -, q2⟩
    dsimp only
    exact nul F2 G q2
