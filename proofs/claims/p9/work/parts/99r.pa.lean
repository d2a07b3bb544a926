section G1Y
variable {fu : Nat} {rc : RC} {d : Nat}
theorem zt_inConstant (hfu : 8589934592 ≤ fu) (hr : ZI rc d) (x : Int32) (F : PF) (G : PG) (h0 : YP F G) (hp : pS 5 x 0 F G) (hd : 7 * (40 - (F 43).toInt) + dS 5 ≤ d + 1) : WP (mh_inConstant fu rc x F G) (fun r F1 G1 => ZQ 5 F G r F1 G1) := by
  have e5 : dS 5 = 2 := rfl
  have e1 : dS 1 = 1 := rfl
  have e3 : dS 3 = 1 := rfl
  have p2 := hp.2.1
  have vx := hp.2.2.1 (Or.inr (Or.inl rfl))
  have t1 := (hp.2.2.2.1 rfl).1
  have q0 := YR.rf h0
  have yd := h0.2.2.2.2.2.2.2
  have f7 : (F 7).toInt ≤ 4000 := by have := h0.1.2.1; have := h0.1.2.2.2.1; omega
  have last : ∀ (κ : Int) (m x4 x5 : Int32) (F1 : PF) (G1 : PG), κ ≤ 0 → (¬ x5 = 0 → 0 ≤ m.toInt ∧ m.toInt < 900) → YR F G κ 0 F1 G1 → WP (mb_inConstant_221 fu rc m x4 x5 F1 G1) (fun r F1 G1 => ZQ 5 F G r F1 G1) := by
    intro κ m x4 x5 F1 G1 hk hm q1
    have ld : ∀ a : Int32, WP (mb_inConstant_243 fu rc a 0 F1 G1) (fun r F1 G1 => ZQ 5 F G r F1 G1) := by
      intro a
      unfold mb_inConstant_243
      refine WP.bind (q1.step h0 (by omega) 0 a 0) ?_
      rintro _ F2 G2 ⟨rfl, -, -, q2⟩
      dsimp only
      unfold mb_inConstant_247 mb_inConstant_248
      exact WP.ret (Or.inl ⟨rfl, q2.le (by show _ ≤ (1 : Int); omega)⟩)
    unfold mb_inConstant_221
    refine WP.ite (fun _ => ?_) (fun _ => ?_)
    · unfold mb_inConstant_226 mb_inConstant_242 mb_inConstant_233
      refine WP.ite (fun _ => ld _) (fun c => ?_)
      have := hm c
      exact WP.ix (vp_in_iff.mpr ⟨this.1, by omega⟩) (ld _)
    · unfold mb_inConstant_248
      exact WP.ret (Or.inl ⟨rfl, q1.le (by show _ ≤ (1 : Int); omega)⟩)
  have elem : ∀ (κ : Int) (m x4 x5 : Int32) (F1 : PF) (G1 : PG), κ ≤ 0 → (¬ x5 = 0 → 0 ≤ m.toInt ∧ m.toInt < 900) → YR F G κ 0 F1 G1 → WP (mb_inConstant_182 fu rc m x4 x5 F1 G1) (fun r F1 G1 => ZQ 5 F G r F1 G1) := by
    intro κ m x4 x5 F1 G1 hk hm q1
    unfold mb_inConstant_182
    refine WP.bind (ws_isSign 24 (q1.w h0 (by omega)).2.1) ?_
    rintro z _ _ ⟨rfl, rfl, -⟩
    dsimp only
    unfold mb_inConstant_188
    refine WP.ite (fun _ => last κ m x4 x5 F1 G1 hk hm q1) (fun _ => ?_)
    unfold mb_inConstant_191
    refine WP.ite (fun _ => last κ m x4 x5 F1 G1 hk hm q1) (fun _ => ?_)
    unfold mb_inConstant_196
    have b42 := q1.2.2.1
    have mo := q1.2.2.2.2.2.2.2
    have ed : (F1 42 - 1).toInt = (F1 42).toInt - 1 := i_dec b42.1
    refine WP.ix (vp_in_iff.mpr ⟨by omega, by omega⟩) (WP.ite (fun _ => ?_) (fun _ => last κ m x4 x5 F1 G1 hk hm q1))
    unfold mb_inConstant_211
    have a := q1.2.2.2.1
    have b := q1.2.2.2.2.2.1
    refine WP.bind (hr 3 (-1) 0 F1 G1 (by decide) (q1.yp h0 hk) ⟨fun q => absurd q (by decide), by rw [b]; omega, fun q => absurd q (by decide), fun q => absurd q (by decide), fun q => absurd q (by decide), fun _ => Or.inl rfl⟩ (by omega)) ?_
    rintro r F2 G2 (⟨rfl, q2⟩ | ⟨rfl, q2⟩)
    · dsimp only
      unfold mb_inConstant_216
      rw [if_neg (by decide)]
      have k3 : κS 3 = -1 := rfl
      rw [k3] at q2
      exact last (κ + -1) m x4 x5 F2 G2 (by omega) hm (q1.tr q2)
    · dsimp only
      unfold mb_inConstant_216 mb_inConstant_219
      rw [if_pos rfl]
      exact WP.ret (Or.inr ⟨rfl, YF.tr q1 q2⟩)
  have main : ∀ (m x4 x5 : Int32) (F1 : PF) (G1 : PG), (¬ x5 = 0 → 0 ≤ m.toInt ∧ m.toInt < 900) → YR F G 0 0 F1 G1 → WP (mb_inConstant_137 fu rc x m x4 x5 F1 G1) (fun r F1 G1 => ZQ 5 F G r F1 G1) := by
    intro m x4 x5 F1 G1 hm q1
    have go : ∀ (F1 : PF), YR F G 0 0 F1 G1 → WP (mb_inConstant_162 fu rc x m x4 x5 F1 G1) (fun r F1 G1 => ZQ 5 F G r F1 G1) := by
      intro F1 q1
      unfold mb_inConstant_162
      refine WP.bind (ws_isSign 22 (q1.w h0 (by decide)).2.1) ?_
      rintro z _ _ ⟨rfl, rfl, -⟩
      dsimp only
      unfold mb_inConstant_168
      refine WP.ite (fun _ => elem 0 m x4 x5 F1 G1 (by decide) hm q1) (fun _ => ?_)
      unfold mb_inConstant_171
      have a := q1.2.2.2.1
      have b := q1.2.2.2.2.2.1
      refine WP.bind (hr 1 x 0 F1 G1 (by decide) (q1.yp h0 (by decide)) ⟨fun q => absurd q (by decide), by rw [b]; omega, fun _ => vx, fun q => absurd q (by decide), fun q => absurd q (by decide), fun q => absurd q (by decide)⟩ (by omega)) ?_
      rintro r F2 G2 (⟨rfl, q2⟩ | ⟨rfl, q2⟩)
      · dsimp only
        unfold mb_inConstant_177
        rw [if_neg (by decide)]
        exact elem (0 + κS 1) m x4 x5 F2 G2 (by decide) hm (q1.tr q2)
      · dsimp only
        unfold mb_inConstant_177 mb_inConstant_180
        rw [if_pos rfl]
        exact WP.ret (Or.inr ⟨rfl, YF.tr q1 q2⟩)
    have none_ : WP (mb_inConstant_157 fu rc x m x4 x5 F1 G1) (fun r F1 G1 => ZQ 5 F G r F1 G1) := by
      unfold mb_inConstant_157
      have K2 : KX [55] [] F1 G1 (fup F1 55 1) G1 := KX.f rfl KX.rf
      exact go _ (q1.kx K2 rfl rfl rfl rfl rfl rfl rfl rfl)
    unfold mb_inConstant_137
    refine WP.ite (fun _ => none_) (fun c => ?_)
    unfold mb_inConstant_142
    refine WP.ite (fun _ => ?_) (fun _ => none_)
    unfold mb_inConstant_147
    have := hm c
    exact WP.ix (vp_in_iff.mpr ⟨this.1, by omega⟩) (WP.ite (fun _ => none_) (fun _ => go F1 q1))
  have nt : ∀ (k : Int32) (F1 : PF) (G1 : PG), 0 < k.toInt → YR F G 0 0 F1 G1 → WP (mf_note fu k (G1 6 x.toNatClampNeg) F1 G1) (fun _ F2 G2 => YR F G 0 0 F2 G2) := by
    intro k F1 G1 hk q1
    refine WP.mono (ws_note k _ hk) ?_
    rintro r F2 G2 ⟨K, rfl⟩
    exact q1.kx K rfl rfl rfl rfl rfl rfl rfl rfl
  have m104 : ∀ (m x3 x4 x5 : Int32) (F1 : PF) (G1 : PG), (¬ x5 = 0 → 0 ≤ m.toInt ∧ m.toInt < 900) → YR F G 0 0 F1 G1 → WP (mb_inConstant_104 fu rc x m x3 x4 x5 F1 G1) (fun r F1 G1 => ZQ 5 F G r F1 G1) := by
    intro m x3 x4 x5 F1 G1 hm q1
    have n125 : WP (mb_inConstant_125 fu rc x m x4 x5 F1 G1) (fun r F1 G1 => ZQ 5 F G r F1 G1) := by
      unfold mb_inConstant_125
      refine WP.ix vx (WP.bind (nt 10 F1 G1 (by decide) q1) (fun r F2 G2 q2 => ?_))
      dsimp only
      exact main m x4 x5 F2 G2 hm q2
    unfold mb_inConstant_104 mb_inConstant_111 mb_inConstant_115 mb_inConstant_120
    exact WP.ite (fun _ => main m x4 x5 F1 G1 hm q1) (fun _ => WP.ite (fun _ => WP.ite (fun _ => n125) (fun _ => WP.ite (fun _ => main m x4 x5 F1 G1 hm q1) (fun _ => n125))) (fun _ => main m x4 x5 F1 G1 hm q1))
  have m80 : ∀ (m x3 x4 x5 : Int32) (F1 : PF) (G1 : PG), (¬ x5 = 0 → 0 ≤ m.toInt ∧ m.toInt < 900) → YR F G 0 0 F1 G1 → WP (mb_inConstant_80 fu rc x m x3 x4 x5 F1 G1) (fun r F1 G1 => ZQ 5 F G r F1 G1) := by
    intro m x3 x4 x5 F1 G1 hm q1
    unfold mb_inConstant_80
    refine WP.ite (fun _ => m104 m x3 x4 x5 F1 G1 hm q1) (fun _ => ?_)
    unfold mb_inConstant_89
    refine WP.ite (fun _ => m104 m x3 x4 x5 F1 G1 hm q1) (fun _ => ?_)
    unfold mb_inConstant_93
    refine WP.ix vx (WP.bind (nt 4 F1 G1 (by decide) q1) (fun r F2 G2 q2 => ?_))
    dsimp only
    exact m104 m x3 x4 x5 F2 G2 hm q2
  have m35 : ∀ (m x3 : Int32) (F1 : PF) (G1 : PG), (m = -1 ∨ (0 ≤ m.toInt ∧ m.toInt < 900)) → YR F G 0 0 F1 G1 → WP (mb_inConstant_35 fu rc x m x3 F1 G1) (fun r F1 G1 => ZQ 5 F G r F1 G1) := by
    intro m x3 F1 G1 hm q1
    have m59 : ∀ x4 : Int32, WP (mb_inConstant_59 fu rc x m x3 x4 F1 G1) (fun r F1 G1 => ZQ 5 F G r F1 G1) := by
      intro x4
      unfold mb_inConstant_59 mb_inConstant_79 mb_inConstant_66 mb_inConstant_75 mb_inConstant_79
      refine WP.ite (fun _ => m80 m x3 x4 0 F1 G1 (fun q => absurd rfl q) q1) (fun c => ?_)
      rcases hm with q | q
      · exact absurd q c
      · exact WP.ix (vp_in_iff.mpr ⟨q.1, by omega⟩) (WP.ite (fun _ => m80 m x3 x4 1 F1 G1 (fun _ => q) q1) (fun _ => m80 m x3 x4 0 F1 G1 (fun q => absurd rfl q) q1))
    have v1 := (q1.w h0 (by decide)).2.1
    unfold mb_inConstant_35
    refine WP.bind (ws_isSign 24 v1) ?_
    rintro z _ _ ⟨rfl, rfl, -⟩
    dsimp only
    unfold mb_inConstant_42
    refine WP.ite (fun _ => ?_) (fun _ => ?_)
    · unfold mb_inConstant_45
      refine WP.bind (ws_isSign 22 v1) ?_
      rintro z _ _ ⟨rfl, rfl, -⟩
      dsimp only
      unfold mb_inConstant_51 mb_inConstant_58 mb_inConstant_54
      exact WP.ite (fun _ => m59 _) (fun _ => m59 _)
    · unfold mb_inConstant_54
      exact m59 _
  have pre : ∀ (m : Int32) (F1 : PF) (G1 : PG), (m = -1 ∨ (0 ≤ m.toInt ∧ m.toInt < 900)) → YR F G 0 0 F1 G1 → WP (mb_inConstant_16 fu rc x m F1 G1) (fun r F1 G1 => ZQ 5 F G r F1 G1) := by
    intro m F1 G1 hm q1
    unfold mb_inConstant_16 mb_inConstant_22 mb_inConstant_30 mb_inConstant_34
    exact WP.ite (fun _ => WP.ite (fun _ => m35 _ _ _ _ hm q1) (fun _ => m35 _ _ _ _ hm q1)) (fun _ => m35 _ _ _ _ hm q1)
  unfold mh_inConstant mb_inConstant_0
  refine WP.ite (fun _ => ?_) (fun _ => ?_)
  · unfold mb_inConstant_7
    exact pre (-1) F G (Or.inl rfl) q0
  · unfold mb_inConstant_11
    refine WP.bind (ws_meaning hfu x vx yd.1 yd.2.1) ?_
    rintro m F1 G1 ⟨rfl, K, hm, -⟩
    dsimp only
    exact pre m F1 G (hm.v yd.1.2) (q0.kx K rfl rfl rfl rfl rfl rfl rfl rfl)
theorem zt_call (hfu : 8589934592 ≤ fu) (hr : ZI rc d) (x y : Int32) (F : PF) (G : PG) (h0 : YP F G) (hp : pS 1 x y F G) (hd : 7 * (40 - (F 43).toInt) + dS 1 ≤ d + 1) : WP (mh_call fu rc x y F G) (fun r F1 G1 => ZQ 1 F G r F1 G1) := by
  have e1 : dS 1 = 1 := rfl
  have e0 : dS 0 = 7 := rfl
  have p2 := hp.2.1
  have vx := hp.2.2.1 (Or.inl rfl)
  have q0 := YR.rf h0
  have yd := h0.2.2.2.2.2.2.2
  have f7 : (F 7).toInt ≤ 4000 := by have := h0.1.2.1; have := h0.1.2.2.2.1; omega
  -- which function is meant
  have FO : ∀ f : Int32, Prop := fun f => f = -1 ∨ (0 ≤ f.toInt ∧ f.toInt < (F 24).toInt ∧ ¬ F 46 = 0)
  have close : ∀ (f : Int32) (F1 : PF) (G1 : PG), YR F G (-2) 1 F1 G1 → WP (mb_call_256 fu rc x f F1 G1) (fun r F1 G1 => ZQ 1 F G r F1 G1) := by
    intro f F1 G1 q1
    unfold mb_call_256
    refine WP.bind (ws_closeSign 23 (q1.w h0 (by decide)).2.1) ?_
    rintro r F3 G3 (⟨rfl, rfl, rfl, s, -⟩ | ⟨rfl, u, -⟩)
    · dsimp only
      unfold mb_call_262
      rw [if_neg (by decide)]
      have q2 := YR.cl (j := 0) q1 h0 (by decide) (k_ne (sgn_k s).1 (by decide))
      unfold mb_call_267
      refine WP.bind (q2.step h0 (by decide) 15 0 0) ?_
      rintro _ F4 G4 ⟨rfl, -, -, q4⟩
      dsimp only
      unfold mb_call_275
      refine WP.ix vx (WP.bind (q4.step h0 (by decide) 16 f _) ?_)
      rintro _ F5 G5 ⟨rfl, -, -, q5⟩
      dsimp only
      unfold mb_call_290
      exact WP.ret (Or.inl ⟨rfl, q5.le (by decide)⟩)
    · dsimp only
      unfold mb_call_262 mb_call_265
      rw [if_pos rfl]
      exact WP.ret (Or.inr ⟨rfl, q1.flt h0 (by decide) u⟩)
  have after : ∀ (f k : Int32) (F1 : PF) (G1 : PG), (f = -1 ∨ (0 ≤ f.toInt ∧ f.toInt < (F 24).toInt ∧ ¬ F 46 = 0)) → YR F G (-2) 1 F1 G1 → WP (mb_call_207 fu rc x f k F1 G1) (fun r F1 G1 => ZQ 1 F G r F1 G1) := by
    intro f k F1 G1 hf q1
    unfold mb_call_207
    refine WP.ite (fun _ => ?_) (fun _ => close f F1 G1 q1)
    unfold mb_call_214
    refine WP.ite (fun _ => close f F1 G1 q1) (fun c => ?_)
    rcases hf with q | q
    · exact absurd q c
    · have := yd.2.1
      unfold mb_call_220
      refine WP.ix (vp_in_iff.mpr ⟨q.1, by omega⟩) (WP.ite (fun _ => close f F1 G1 q1) (fun _ => ?_))
      have v1 := (q1.w h0 (by decide)).2.1
      unfold mb_call_232
      refine WP.bind (ws_isSign 23 v1) ?_
      rintro z _ _ ⟨rfl, rfl, -⟩
      dsimp only
      unfold mb_call_238
      refine WP.ite (fun _ => close f F1 G1 q1) (fun _ => ?_)
      unfold mb_call_241
      refine WP.ix v1 (WP.bind (ws_note 7 _ (by decide)) ?_)
      rintro r F2 G2 ⟨K, rfl⟩
      dsimp only
      exact close f F2 G1 (q1.kx K rfl rfl rfl rfl rfl rfl rfl rfl)
  have loop : ∀ (m : Nat) (f k on : Int32) (F1 : PF) (G1 : PG), (f = -1 ∨ (0 ≤ f.toInt ∧ f.toInt < (F 24).toInt ∧ ¬ F 46 = 0)) → YR F G (-2) 1 F1 G1 → 0 ≤ k.toInt → k.toInt ≤ (F1 42).toInt - (F 42).toInt + 1 → (¬ on = 0 → k.toInt ≤ (F1 42).toInt - (F 42).toInt) → ((F 7).toInt - (F1 42).toInt).toNat + (if on = 0 then 0 else 1) < m → WP (ml_call_156 fu rc m x f k on F1 G1) (fun r F1 G1 => ZQ 1 F G r F1 G1) := by
    intro m
    induction m with
    | zero => intro f k on F1 G1 _ _ _ _ _ q; exact absurd q (Nat.not_lt_zero _)
    | succ m ih =>
      intro f k on F1 G1 hf q1 k0 k1 k2 km
      show WP (mb_call_156 fu rc (ml_call_156 fu rc m) x f k on F1 G1) _
      unfold mb_call_156
      refine WP.ite (fun _ => after f k F1 G1 hf q1) (fun c => ?_)
      rw [if_neg c] at km
      have k2 := k2 c
      unfold mb_call_161
      have a := q1.2.2.2.1
      have b := q1.2.2.2.2.2.1
      have b42 := q1.2.2.1
      have f42 := h0.2.2.1.1
      refine WP.bind (hr 0 f k F1 G1 (by decide) (q1.yp h0 (by decide)) ⟨fun _ => by rw [b]; omega, by rw [b]; omega, fun q => absurd q (by decide), fun q => absurd q (by decide), fun _ _ => ⟨by rw [q1.1.1 24 rfl, q1.1.1 46 rfl]; exact hf, k0, by omega⟩, fun q => absurd q (by decide)⟩ (by omega)) ?_
      rintro r F2 G2 (⟨rfl, q2⟩ | ⟨rfl, q2⟩)
      · dsimp only
        unfold mb_call_169
        rw [if_neg (by decide)]
        have q3 := q1.tr q2
        have mo := q2.2.2.2.2.2.2.2
        have b3 := q3.2.2.1
        have ek : (k + 1).toInt = k.toInt + 1 := i_addn k rfl (by omega) (by omega)
        have v3 := (q3.w h0 (by decide)).2.1
        unfold mb_call_174
        refine WP.bind (ws_isSign 28 v3) ?_
        rintro z _ _ ⟨rfl, rfl, (⟨rfl, s⟩ | ⟨rfl, -⟩)⟩
        · dsimp only
          unfold mb_call_183
          rw [if_neg (by decide)]
          unfold mb_call_195 mb_call_200 mb_call_204
          have kn := k_ne (sgn_k s).1 (by decide)
          have q4 := q3.adv h0 kn
          have T3 := (q3.w h0 (by decide)).2.2
          have e7 := q3.1.1 7 rfl
          obtain ⟨a1, a2, -⟩ := T3.adv b3.1 (by rw [e7]; exact b3.2) kn
          rw [e7] at a2
          refine ih f (k + 1) 1 _ _ hf (q4.le (by decide)) (by omega) ?_ (fun _ => ?_) ?_
          · show (k + 1).toInt ≤ (F2 42 + 1).toInt - (F 42).toInt + 1
            omega
          · show (k + 1).toInt ≤ (F2 42 + 1).toInt - (F 42).toInt
            omega
          · rw [if_neg (by decide)]
            show ((F 7).toInt - (F2 42 + 1).toInt).toNat + 1 < m
            omega
        · dsimp only
          unfold mb_call_183
          rw [if_pos rfl]
          unfold mb_call_199 mb_call_200 mb_call_204
          have e0' : F2 42 + 0 = F2 42 := by
            refine i_eq.mpr ?_
            exact (i_addn (F2 42) (n := 0) (m := 0) rfl (by omega) (by omega)).trans (by omega)
          have K2 : KX [42] [] F2 G2 (fup F2 42 (F2 42 + 0)) G2 := KX.f rfl KX.rf
          have q4 : YR F G (-2 + κS 0) 1 (fup F2 42 (F2 42 + 0)) G2 := by
            rw [e0']
            obtain ⟨z1, z2, z3, z4, z5, z6, z7⟩ := q3
            exact ⟨KX.f rfl z1, z2, z3, z4, z5, z6, z7⟩
          refine ih f (k + 1) 0 _ _ hf (q4.le (by decide)) (by omega) ?_ (fun q => absurd rfl q) ?_
          · show (k + 1).toInt ≤ (F2 42 + 0).toInt - (F 42).toInt + 1
            rw [e0']
            omega
          · rw [if_pos rfl]
            show ((F 7).toInt - (F2 42 + 0).toInt).toNat + 0 < m
            rw [e0']
            omega
      · dsimp only
        unfold mb_call_169 mb_call_172
        rw [if_pos rfl]
        exact WP.ret (Or.inr ⟨rfl, YF.tr q1 q2⟩)
  have opn : ∀ (f : Int32) (F1 : PF) (G1 : PG), (f = -1 ∨ (0 ≤ f.toInt ∧ f.toInt < (F 24).toInt ∧ ¬ F 46 = 0)) → YR F G 0 0 F1 G1 → WP (mb_call_126 fu rc x f F1 G1) (fun r F1 G1 => ZQ 1 F G r F1 G1) := by
    intro f F1 G1 hf q1
    unfold mb_call_126
    refine WP.bind (ws_openSign 22 (q1.w h0 (by decide)).2.1) ?_
    rintro r F2 G2 (⟨rfl, rfl, rfl, s, u, -⟩ | ⟨rfl, u, -⟩)
    · dsimp only
      unfold mb_call_132
      rw [if_neg (by decide)]
      have q2 := q1.op h0 (k_ne (sgn_k s).1 (by decide)) u
      generalize fup (fup F1 43 (F1 43 + 1)) 42 (F1 42 + 1) = F2 at q2
      have b42 := q2.2.2.1
      have mo := q2.2.2.2.2.2.2.2
      have f42 := h0.2.2.1.1
      have z0 : (0 : Int32).toInt = 0 := rfl
      have st : ∀ on : Int32, WP (mb_call_154 fu rc x f 0 on F2 G1) (fun r F1 G1 => ZQ 1 F G r F1 G1) := by
        intro on
        unfold mb_call_154
        refine loop fu f 0 on F2 G1 hf q2 (by omega) (by omega) (fun _ => by omega) ?_
        split <;> omega
      unfold mb_call_137
      refine WP.bind (ws_isSign 23 (q2.w h0 (by decide)).2.1) ?_
      rintro z _ _ ⟨rfl, rfl, -⟩
      dsimp only
      unfold mb_call_146 mb_call_149 mb_call_153
      exact WP.ite (fun _ => st _) (fun _ => st _)
    · dsimp only
      unfold mb_call_132 mb_call_135
      rw [if_pos rfl]
      exact WP.ret (Or.inr ⟨rfl, q1.flt h0 (by decide) u⟩)
  have nt : ∀ (k : Int32) (F1 : PF) (G1 : PG), 0 < k.toInt → YR F G 0 0 F1 G1 → WP (mf_note fu k (G1 6 x.toNatClampNeg) F1 G1) (fun _ F2 G2 => YR F G 0 0 F2 G2) := by
    intro k F1 G1 hk q1
    refine WP.mono (ws_note k _ hk) ?_
    rintro r F2 G2 ⟨K, rfl⟩
    exact q1.kx K rfl rfl rfl rfl rfl rfl rfl rfl
  have m87 : ∀ (f : Int32) (F1 : PF) (G1 : PG), (f = -1 ∨ (0 ≤ f.toInt ∧ f.toInt < (F 24).toInt ∧ ¬ F 46 = 0)) → YR F G 0 0 F1 G1 → WP (mb_call_87 fu rc x y f F1 G1) (fun r F1 G1 => ZQ 1 F G r F1 G1) := by
    intro f F1 G1 hf q1
    unfold mb_call_87
    refine WP.ite (fun _ => ?_) (fun _ => opn f F1 G1 hf q1)
    unfold mb_call_94
    refine WP.ite (fun _ => opn f F1 G1 hf q1) (fun c => ?_)
    unfold mb_call_100
    refine WP.ite (fun _ => opn f F1 G1 hf q1) (fun _ => ?_)
    have hf' := hf
    rcases hf with q | q
    · exact absurd q c
    · have := yd.2.1
      unfold mb_call_104
      refine WP.ix (vp_in_iff.mpr ⟨q.1, by omega⟩) (WP.ite (fun _ => opn f F1 G1 hf' q1) (fun _ => ?_))
      unfold mb_call_114
      refine WP.ix vx (WP.bind (nt 8 F1 G1 (by decide) q1) (fun r F2 G2 q2 => ?_))
      dsimp only
      exact opn f F2 G2 hf' q2
  have m63 : ∀ (m f : Int32) (F1 : PF) (G1 : PG), (f = -1 ∨ (0 ≤ f.toInt ∧ f.toInt < (F 24).toInt ∧ ¬ F 46 = 0)) → YR F G 0 0 F1 G1 → WP (mb_call_63 fu rc x y m f F1 G1) (fun r F1 G1 => ZQ 1 F G r F1 G1) := by
    intro m f F1 G1 hf q1
    unfold mb_call_63
    refine WP.ite (fun _ => ?_) (fun _ => m87 f F1 G1 hf q1)
    unfold mb_call_70
    refine WP.ite (fun _ => m87 f F1 G1 hf q1) (fun _ => ?_)
    unfold mb_call_75
    refine WP.ix vx (WP.bind (nt 6 F1 G1 (by decide) q1) (fun r F2 G2 q2 => ?_))
    dsimp only
    exact m87 f F2 G2 hf q2
  have m32 : ∀ (m f : Int32) (F1 : PF) (G1 : PG), (f = -1 ∨ (0 ≤ f.toInt ∧ f.toInt < (F 24).toInt ∧ ¬ F 46 = 0)) → YR F G 0 0 F1 G1 → WP (mb_call_32 fu rc x y m f F1 G1) (fun r F1 G1 => ZQ 1 F G r F1 G1) := by
    intro m f F1 G1 hf q1
    have n52 : WP (mb_call_52 fu rc x y m f F1 G1) (fun r F1 G1 => ZQ 1 F G r F1 G1) := by
      unfold mb_call_52
      refine WP.ix vx (WP.bind (nt 4 F1 G1 (by decide) q1) (fun r F2 G2 q2 => ?_))
      dsimp only
      exact m63 m f F2 G2 hf q2
    unfold mb_call_32 mb_call_41 mb_call_46
    exact WP.ite (fun _ => WP.ite (fun _ => WP.ite (fun _ => n52) (fun _ => m63 m f F1 G1 hf q1)) (fun _ => m63 m f F1 G1 hf q1)) (fun _ => m63 m f F1 G1 hf q1)
  unfold mh_call mb_call_0
  refine WP.ite (fun c => ?_) (fun c => ?_)
  · unfold mb_call_7 mb_call_16
    rw [if_pos c]
    unfold mb_call_24
    exact m32 (-1) (-1) F G (Or.inl rfl) q0
  · unfold mb_call_11
    refine WP.bind (ws_meaning hfu x vx yd.1 yd.2.1) ?_
    rintro m F1 G1 ⟨rfl, K, -, hf⟩
    dsimp only
    have q1 := q0.kx K rfl rfl rfl rfl rfl rfl rfl rfl
    unfold mb_call_16 mb_call_24 mb_call_28
    refine WP.ite (fun _ => m32 m (-1) F1 G (Or.inl rfl) q1) (fun _ => m32 m (F1 62) F1 G ?_ q1)
    rcases hf with q | q
    · exact Or.inl q
    · exact Or.inr ⟨q.1, q.2, c⟩
end G1Y
