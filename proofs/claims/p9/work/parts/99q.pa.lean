section G1X
variable {fu : Nat} {rc : RC} {d : Nat}
theorem zt_element (hr : ZI rc d) (x : Int32) (F : PF) (G : PG) (h0 : YP F G) (hp : pS 3 x 0 F G) (hd : 7 * (40 - (F 43).toInt) + dS 3 ≤ d + 1) : WP (mh_element fu rc x F G) (fun r F1 G1 => ZQ 3 F G r F1 G1) := by
  have e3 : dS 3 = 1 := rfl
  have e4 : dS 4 = 6 := rfl
  have p2 := hp.2.1
  have px := hp.2.2.2.2.2 rfl
  have v0 := h0.v
  have q0 := YR.rf h0
  have main : ∀ x2 x3 x4 x5 : Int32, WP (mb_element_62 fu rc x2 x3 x4 x5 F G) (fun r F1 G1 => ZQ 3 F G r F1 G1) := by
    intro x2 x3 x4 x5
    unfold mb_element_62
    refine WP.bind (ws_openSign 24 v0) ?_
    rintro r F1 G1 (⟨rfl, rfl, rfl, s, u, -⟩ | ⟨rfl, u, -⟩)
    · dsimp only
      unfold mb_element_70
      rw [if_neg (by decide)]
      have q1 := q0.op h0 (k_ne (sgn_k s).1 (by decide)) u
      generalize fup (fup F 43 (F 43 + 1)) 42 (F 42 + 1) = F1 at q1
      unfold mb_element_73
      have a := q1.2.2.2.1
      have b := q1.2.2.2.2.2.1
      refine WP.bind (hr 4 0 0 F1 G (by decide) (q1.yp h0 (by decide)) ⟨fun _ => by rw [b]; omega, by rw [b]; omega, fun q => absurd q (by decide), fun q => absurd q (by decide), fun q => absurd q (by decide), fun q => absurd q (by decide)⟩ (by omega)) ?_
      rintro r F2 G2 (⟨rfl, q2⟩ | ⟨rfl, q2⟩)
      · dsimp only
        unfold mb_element_77
        rw [if_neg (by decide)]
        have q3 := q1.tr q2
        unfold mb_element_80
        refine WP.bind (ws_closeSign 25 (q3.w h0 (by decide)).2.1) ?_
        rintro r F3 G3 (⟨rfl, rfl, rfl, s, -⟩ | ⟨rfl, u, -⟩)
        · dsimp only
          unfold mb_element_86
          rw [if_neg (by decide)]
          have q4 := YR.cl (j := 0) q3 h0 (by decide) (k_ne (sgn_k s).1 (by decide))
          unfold mb_element_91
          refine WP.bind (q4.step h0 (by decide) 6 x3 x4) ?_
          rintro _ F5 G5 ⟨rfl, n5, -, q5⟩
          dsimp only
          have fin : ∀ z0 z1 : Int32, WP (mb_element_121 fu rc z0 z1 (F2 60) F5 G5) (fun r F1 G1 => ZQ 3 F G r F1 G1) := by
            intro z0 z1
            unfold mb_element_121 mb_element_123
            exact WP.ix n5 (WP.ret (Or.inl ⟨rfl, (q5.patch (k := 59) (Or.inr rfl)).le (by decide)⟩))
          unfold mb_element_100 mb_element_120 mb_element_116
          exact WP.ite (fun _ => fin _ _) (fun _ => fin _ _)
        · dsimp only
          unfold mb_element_86 mb_element_89
          rw [if_pos rfl]
          exact WP.ret (Or.inr ⟨rfl, q3.flt h0 (by decide) u⟩)
      · dsimp only
        unfold mb_element_77 mb_element_89
        rw [if_pos rfl]
        exact WP.ret (Or.inr ⟨rfl, YF.tr q1 q2⟩)
    · dsimp only
      unfold mb_element_70 mb_element_89
      rw [if_pos rfl]
      exact WP.ret (Or.inr ⟨rfl, q0.flt h0 (by decide) u⟩)
  unfold mh_element mb_element_0
  refine WP.ix v0 (WP.ite (fun c => ?_) (fun c => ?_))
  · unfold mb_element_15 mb_element_25
    rw [if_pos c]
    unfold mb_element_31 mb_element_41
    rw [if_pos c]
    unfold mb_element_61
    exact main _ _ _ _
  · rcases px with q | q
    · exact absurd q c
    · have vx : vp_in x 900 := vp_in_iff.mpr ⟨q.1, by omega⟩
      unfold mb_element_19
      refine WP.ix vx ?_
      unfold mb_element_25
      rw [if_neg c]
      unfold mb_element_35
      refine WP.ix vx ?_
      unfold mb_element_41
      rw [if_neg c]
      unfold mb_element_48 mb_element_61 mb_element_57
      exact WP.ix vx (WP.ite (fun _ => main _ _ _ _) (fun _ => main _ _ _ _))
theorem mnR.v {F : PF} {m : Int32} (h : mnR F m) (hd : (F 14).toInt ≤ 900) : m = -1 ∨ (0 ≤ m.toInt ∧ m.toInt < 900) := by
  rcases h with q | q
  · exact Or.inl q
  · exact Or.inr ⟨q.1, by omega⟩
theorem zt_named (hfu : 8589934592 ≤ fu) (hr : ZI rc d) (x : Int32) (F : PF) (G : PG) (h0 : YP F G) (hp : pS 6 x 0 F G) (hd : 7 * (40 - (F 43).toInt) + dS 6 ≤ d + 1) : WP (mh_named fu rc x F G) (fun r F1 G1 => ZQ 6 F G r F1 G1) := by
  have e6 : dS 6 = 2 := rfl
  have e1 : dS 1 = 1 := rfl
  have e3 : dS 3 = 1 := rfl
  have p2 := hp.2.1
  have vx := hp.2.2.1 (Or.inr (Or.inr rfl))
  have v0 := h0.v
  have q0 := YR.rf h0
  have yd := h0.2.2.2.2.2.2.2
  -- with its meaning known
  have body : ∀ (m x4 : Int32) (F1 : PF) (G1 : PG), (m = -1 ∨ (0 ≤ m.toInt ∧ m.toInt < 900)) → YR F G 0 0 F1 G1 → WP (mb_named_115 fu rc m x4 F1 G1) (fun r F1 G1 => ZQ 6 F G r F1 G1) := by
    intro m x4 F1 G1 hm q1
    have ld : ∀ (w a : Int32), WP (mb_named_207 fu rc a w F1 G1) (fun r F1 G1 => ZQ 6 F G r F1 G1) := by
      intro w a
      unfold mb_named_207
      refine WP.bind (q1.step h0 (by decide) w a 0) ?_
      rintro _ F2 G2 ⟨rfl, -, -, q2⟩
      dsimp only
      unfold mb_named_211 mb_named_212
      exact WP.ret (Or.inl ⟨rfl, q2⟩)
    have l192 : ∀ w : Int32, WP (mb_named_192 fu rc m w F1 G1) (fun r F1 G1 => ZQ 6 F G r F1 G1) := by
      intro w
      unfold mb_named_192 mb_named_197 mb_named_201
      refine WP.ite (fun _ => ld _ _) (fun c => ?_)
      rcases hm with q | q
      · exact absurd q c
      · exact WP.ix (vp_in_iff.mpr ⟨q.1, by omega⟩) (ld _ _)
    unfold mb_named_115
    refine WP.ite (fun _ => ?_) (fun _ => ?_)
    · have l172 : WP (mb_named_172 fu rc m F1 G1) (fun r F1 G1 => ZQ 6 F G r F1 G1) := by
        unfold mb_named_172 mb_named_178 mb_named_191 mb_named_187
        refine WP.ite (fun _ => l192 _) (fun c => ?_)
        rcases hm with q | q
        · exact absurd q c
        · exact WP.ix (vp_in_iff.mpr ⟨q.1, by omega⟩) (WP.ite (fun _ => l192 _) (fun _ => l192 _))
      unfold mb_named_142
      refine WP.ite (fun _ => l172) (fun c => ?_)
      rcases hm with q | q
      · exact absurd q c
      · have vm : vp_in m 900 := vp_in_iff.mpr ⟨q.1, by omega⟩
        unfold mb_named_147
        refine WP.ix vm (WP.ite (fun _ => ?_) (fun _ => l172))
        unfold mb_named_156
        refine WP.ix vm (WP.bind (q1.step h0 (by decide) 0 _ 0) ?_)
        rintro _ F2 G2 ⟨rfl, -, -, q2⟩
        dsimp only
        unfold mb_named_168 mb_named_212
        exact WP.ret (Or.inl ⟨rfl, q2⟩)
    · unfold mb_named_120
      have a := q1.2.2.2.1
      have b := q1.2.2.2.2.2.1
      refine WP.bind (hr 3 m 0 F1 G1 (by decide) (q1.yp h0 (by decide)) ⟨fun q => absurd q (by decide), by rw [b]; omega, fun q => absurd q (by decide), fun q => absurd q (by decide), fun q => absurd q (by decide), fun _ => hm⟩ (by omega)) ?_
      rintro r F2 G2 (⟨rfl, q2⟩ | ⟨rfl, q2⟩)
      · dsimp only
        unfold mb_named_125
        rw [if_neg (by decide)]
        unfold mb_named_130
        refine WP.bind ((q1.tr q2).step h0 (by decide) 7 0 0) ?_
        rintro _ F3 G3 ⟨rfl, -, -, q3⟩
        dsimp only
        unfold mb_named_138 mb_named_212
        exact WP.ret (Or.inl ⟨rfl, q3.le (by decide)⟩)
      · dsimp only
        unfold mb_named_125 mb_named_128
        rw [if_pos rfl]
        exact WP.ret (Or.inr ⟨rfl, YF.tr q1 q2⟩)
  have nt : ∀ (k m x4 : Int32) (F1 : PF) (G1 : PG), 0 < k.toInt → (m = -1 ∨ (0 ≤ m.toInt ∧ m.toInt < 900)) → YR F G 0 0 F1 G1 → WP (mf_note fu k (G1 6 x.toNatClampNeg) F1 G1) (fun _ F2 G2 => YR F G 0 0 F2 G2) := by
    intro k m x4 F1 G1 hk hm q1
    refine WP.mono (ws_note k _ hk) ?_
    rintro r F2 G2 ⟨K, rfl⟩
    exact q1.kx K rfl rfl rfl rfl rfl rfl rfl rfl
  have mid : ∀ (m x3 : Int32) (F1 : PF) (G1 : PG), (m = -1 ∨ (0 ≤ m.toInt ∧ m.toInt < 900)) → YR F G 0 0 F1 G1 → WP (mb_named_51 fu rc x m x3 F1 G1) (fun r F1 G1 => ZQ 6 F G r F1 G1) := by
    intro m x3 F1 G1 hm q1
    have n103 : ∀ x4 : Int32, WP (mb_named_103 fu rc x m x4 F1 G1) (fun r F1 G1 => ZQ 6 F G r F1 G1) := by
      intro x4
      unfold mb_named_103
      refine WP.ix vx (WP.bind (nt 6 m x4 F1 G1 (by decide) hm q1) (fun r F2 G2 q2 => ?_))
      dsimp only
      exact body m x4 F2 G2 hm q2
    unfold mb_named_51
    refine WP.bind (ws_isSign 24 (q1.w h0 (by decide)).2.1) ?_
    rintro x4 _ _ ⟨rfl, rfl, -⟩
    dsimp only
    unfold mb_named_58
    refine WP.ite (fun _ => ?_) (fun _ => ?_)
    · unfold mb_named_78
      refine WP.ite (fun _ => n103 x4) (fun c => ?_)
      rcases hm with q | q
      · exact absurd q c
      · have n100 : ∀ z0 : Int32, WP (mb_named_100 fu rc x m x4 z0 x4 F1 G1) (fun r F1 G1 => ZQ 6 F G r F1 G1) := by
          intro z0
          unfold mb_named_100
          exact WP.ite (fun _ => body m x4 F1 G1 (Or.inr q) q1) (fun _ => n103 x4)
        unfold mb_named_83 mb_named_95 mb_named_99
        exact WP.ix (vp_in_iff.mpr ⟨q.1, by omega⟩) (WP.ite (fun _ => n100 _) (fun _ => n100 _))
    · unfold mb_named_64
      refine WP.ix vx (WP.bind (nt 4 m x4 F1 G1 (by decide) hm q1) (fun r F2 G2 q2 => ?_))
      dsimp only
      unfold mb_named_75
      exact body m x4 F2 G2 hm q2
  have pre : ∀ (m : Int32) (F1 : PF) (G1 : PG), (m = -1 ∨ (0 ≤ m.toInt ∧ m.toInt < 900)) → YR F G 0 0 F1 G1 → WP (mb_named_32 fu rc x m F1 G1) (fun r F1 G1 => ZQ 6 F G r F1 G1) := by
    intro m F1 G1 hm q1
    unfold mb_named_32 mb_named_38 mb_named_46 mb_named_50
    exact WP.ite (fun _ => WP.ite (fun _ => mid _ _ _ _ hm q1) (fun _ => mid _ _ _ _ hm q1)) (fun _ => mid _ _ _ _ hm q1)
  unfold mh_named mb_named_0
  refine WP.bind (ws_isSign 22 v0) ?_
  rintro z _ _ ⟨rfl, rfl, -⟩
  dsimp only
  unfold mb_named_6
  refine WP.ite (fun _ => ?_) (fun _ => ?_)
  · unfold mb_named_16
    refine WP.ite (fun _ => ?_) (fun _ => ?_)
    · unfold mb_named_23
      exact pre (-1) F G (Or.inl rfl) q0
    · unfold mb_named_27
      refine WP.bind (ws_meaning hfu x vx yd.1 yd.2.1) ?_
      rintro m F1 G1 ⟨rfl, K, hm, -⟩
      dsimp only
      exact pre m F1 G (hm.v yd.1.2) (q0.kx K rfl rfl rfl rfl rfl rfl rfl rfl)
  · unfold mb_named_9
    refine WP.bind (hr 1 x 1 F G (by decide) h0 ⟨fun q => absurd q (by decide), p2, fun _ => vx, fun q => absurd q (by decide), fun q => absurd q (by decide), fun q => absurd q (by decide)⟩ (by omega)) ?_
    rintro r F2 G2 (⟨rfl, q2⟩ | ⟨rfl, q2⟩)
    · dsimp only
      unfold mb_named_15
      exact WP.bz (Or.inr rfl) (WP.ret (Or.inl ⟨rfl, q2.le (by decide)⟩))
    · dsimp only
      unfold mb_named_15
      exact WP.bz (Or.inl rfl) (WP.ret (Or.inr ⟨rfl, q2⟩))
end G1X
