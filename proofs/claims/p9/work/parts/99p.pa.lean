section G1W
variable {fu : Nat} {rc : RC} {d : Nat}
theorem zt_expression (hr : ZI rc d) (F : PF) (G : PG) (h0 : YP F G) (hp : pS 4 0 0 F G) (hd : 7 * (40 - (F 43).toInt) + dS 4 ≤ d + 1) : WP (mh_expression fu rc F G) (fun r F1 G1 => ZQ 4 F G r F1 G1) := by
  have e4 : dS 4 = 6 := rfl
  have e2 : dS 2 = 5 := rfl
  have p1 := hp.1 (Or.inr (Or.inr rfl))
  have g := h0.2.2.2.1
  unfold mh_expression mb_expression_0
  refine WP.bind (hr 2 0 0 F G (by decide) h0 ⟨fun _ => p1, by omega, fun q => absurd q (by decide), fun q => absurd q (by decide), fun q => absurd q (by decide), fun q => absurd q (by decide)⟩ (by omega)) ?_
  rintro r F1 G1 (⟨rfl, q1⟩ | ⟨rfl, q1⟩)
  · dsimp only
    have q1 : YR F G (-1) 0 F1 G1 := q1
    unfold mb_expression_4
    rw [if_neg (by decide)]
    unfold mb_expression_9
    have v1 := (q1.w h0 (by decide)).2.1
    refine WP.bind (ws_isSign 30 v1) ?_
    rintro z _ _ ⟨rfl, rfl, (⟨rfl, s⟩ | ⟨rfl, s⟩)⟩
    · dsimp only
      unfold mb_expression_15
      rw [if_neg (by decide)]
      unfold mb_expression_20
      have kn := k_ne (sgn_k s).1 (by decide)
      refine WP.bind (ws_opens v1) ?_
      rintro r F2 G2 (⟨rfl, rfl, rfl, u⟩ | ⟨rfl, u, -⟩)
      · dsimp only
        unfold mb_expression_24
        rw [if_neg (by decide)]
        have q2 := q1.op h0 kn u
        generalize fup (fup F1 43 (F1 43 + 1)) 42 (F1 42 + 1) = F2 at q2
        unfold mb_expression_29
        refine WP.bind (q2.step h0 (by decide) 13 0 0) ?_
        rintro _ F3 G3 ⟨rfl, n3, -, q3⟩
        dsimp only
        unfold mb_expression_37
        have sub : ∀ (κ : Int) (F3 : PF) (G3 : PG), YR F G κ 1 F3 G3 → κ ≤ 0 → WP (rc 4 0 0 F3 G3) (fun r F1 G1 => ZQ 4 F3 G3 r F1 G1) := by
          intro κ F3 G3 q3 hk
          have a := q3.2.2.2.1
          have b := q3.2.2.2.2.2.1
          refine hr 4 0 0 F3 G3 (by decide) (q3.yp h0 hk) ⟨fun _ => by rw [b]; omega, by rw [b]; omega, fun q => absurd q (by decide), fun q => absurd q (by decide), fun q => absurd q (by decide), fun q => absurd q (by decide)⟩ (by omega)
        refine WP.bind (sub _ F3 G3 q3 (by decide)) ?_
        rintro r F4 G4 (⟨rfl, q4⟩ | ⟨rfl, q4⟩)
        · dsimp only
          unfold mb_expression_42
          rw [if_neg (by decide)]
          have q5 := q3.tr q4
          unfold mb_expression_45
          refine WP.bind (ws_sign 31 (q5.w h0 (by decide)).2.1) ?_
          rintro r F5 G5 (⟨rfl, rfl, rfl, s5, -⟩ | ⟨rfl, u, -⟩)
          · dsimp only
            unfold mb_expression_51
            rw [if_neg (by decide)]
            have q6 := q5.adv h0 (k_ne (sgn_k s5).1 (by decide))
            generalize fup F4 42 (F4 42 + 1) = F5 at q6
            unfold mb_expression_56
            refine WP.bind (q6.step h0 (by decide) 12 0 0) ?_
            rintro _ F7 G7 ⟨rfl, n7, -, q7⟩
            dsimp only
            unfold mb_expression_64
            refine WP.ix n3 ?_
            have q8 := q7.patch (k := 57) (p := (F2 60).toNatClampNeg) (v := F7 60) (Or.inl rfl)
            unfold mb_expression_75
            refine WP.bind (sub _ F7 _ q8 (by decide)) ?_
            rintro r F9 G9 (⟨rfl, q9⟩ | ⟨rfl, q9⟩)
            · dsimp only
              unfold mb_expression_79
              rw [if_neg (by decide)]
              have q10 := q8.tr q9
              unfold mb_expression_84
              refine WP.ix n7 ?_
              unfold mb_expression_94 mb_expression_104
              refine WP.ret (Or.inl ⟨rfl, ?_⟩)
              exact (YR.dn (j := 0) (q10.patch (Or.inl rfl)) h0 (by decide)).le (by decide)
            · dsimp only
              unfold mb_expression_79 mb_expression_82
              rw [if_pos rfl]
              exact WP.ret (Or.inr ⟨rfl, YF.tr q8 q9⟩)
          · dsimp only
            unfold mb_expression_51 mb_expression_54
            rw [if_pos rfl]
            exact WP.ret (Or.inr ⟨rfl, q5.flt h0 (by decide) u⟩)
        · dsimp only
          unfold mb_expression_42 mb_expression_54
          rw [if_pos rfl]
          exact WP.ret (Or.inr ⟨rfl, YF.tr q3 q4⟩)
      · dsimp only
        unfold mb_expression_24 mb_expression_27
        rw [if_pos rfl]
        exact WP.ret (Or.inr ⟨rfl, q1.flt h0 (by decide) u⟩)
    · dsimp only
      unfold mb_expression_15 mb_expression_18
      rw [if_pos rfl]
      exact WP.ret (Or.inl ⟨rfl, q1⟩)
  · dsimp only
    unfold mb_expression_4 mb_expression_7
    rw [if_pos rfl]
    exact WP.ret (Or.inr ⟨rfl, q1⟩)
theorem zt_operand (hfu : 8589934592 ≤ fu) (hr : ZI rc d) (F : PF) (G : PG) (h0 : YP F G) (hp : pS 7 0 0 F G) (hd : 7 * (40 - (F 43).toInt) + dS 7 ≤ d + 1) : WP (mh_operand fu rc F G) (fun r F1 G1 => ZQ 7 F G r F1 G1) := by
  have e7 : dS 7 = 4 := rfl
  have e8 : dS 8 = 3 := rfl
  have p2 := hp.2.1
  have t70 : (F 7).toInt ≤ 4000 := by have := h0.1.2.1; have := h0.1.2.2.2.1; omega
  -- signs behind: each makes a step
  have back : ∀ (m : Nat) (k : Int32) (F1 : PF) (G1 : PG), (F 42).toInt - 1 ≤ k.toInt → k.toInt ≤ 4001 → (k.toInt + 1 - (F 42).toInt).toNat < m → YR F G (-1 - (k.toInt + 1 - (F 42).toInt)) 0 F1 G1 → WP (ml_operand_63 fu rc m (F 42) k F1 G1) (fun r F1 G1 => ZQ 7 F G r F1 G1) := by
    intro m
    induction m with
    | zero => intro k F1 G1 _ _ q; exact absurd q (Nat.not_lt_zero _)
    | succ m ih =>
      intro k F1 G1 k0 k1 km q
      show WP (mb_operand_63 fu rc (ml_operand_63 fu rc m) (F 42) k F1 G1) _
      have f0 := h0.2.2.1.1
      unfold mb_operand_63
      refine WP.ite (fun c => ?_) (fun c => ?_)
      · have c := i_lt.mp c
        unfold mb_operand_88
        exact WP.ret (Or.inl ⟨rfl, q.le (by show _ ≤ (-1 : Int); omega)⟩)
      · have c := mt i_lt.mpr c
        unfold mb_operand_68
        refine WP.ix (vp_in_iff.mpr ⟨by omega, by omega⟩) ?_
        refine WP.bind (q.step h0 (by omega) 11 _ 0) ?_
        rintro _ F2 G2 ⟨rfl, -, -, q2⟩
        dsimp only
        unfold mb_operand_81
        have ek : (k + (-1)).toInt = k.toInt - 1 := i_decn (by omega)
        generalize k + (-1) = k' at ek
        exact ih k' F2 G2 (by omega) (by omega) (by omega) (q2.le (by omega))
  -- signs before
  have fore : ∀ (m : Nat) (F1 : PF), YR F G (-2 * ((F1 42).toInt - (F 42).toInt)) 0 F1 G → (F 42).toInt ≤ (F1 42).toInt → ((F 7).toInt - (F1 42).toInt).toNat < m → WP (ml_operand_5 fu rc m (F 42) F1 G) (fun r F1 G1 => ZQ 7 F G r F1 G1) := by
    intro m
    induction m with
    | zero => intro F1 _ _ q; exact absurd q (Nat.not_lt_zero _)
    | succ m ih =>
      intro F1 q le km
      show WP (mb_operand_5 fu rc (ml_operand_5 fu rc m) (F 42) F1 G) _
      have v1 := (q.w h0 (by omega)).2.1
      have b42 := q.2.2.1
      have nx : ∀ s : Int32, sgn (G 4) (G 5) (F1 42) s = true → WP (mb_operand_32 fu rc (ml_operand_5 fu rc m) (F 42) F1 G) (fun r F1 G1 => ZQ 7 F G r F1 G1) := by
        intro s hs
        have q2 := q.adv h0 (k_ne (sgn_k hs).1 (by decide))
        have T1 := (q.w h0 (by omega)).2.2
        have e7' := q.1.1 7 rfl
        obtain ⟨a1, a2, -⟩ := T1.adv b42.1 (by rw [e7']; exact b42.2) (k_ne (sgn_k hs).1 (by decide))
        rw [e7'] at a2
        unfold mb_operand_32 mb_operand_42
        refine ih _ (q2.le ?_) ?_ ?_
        · show _ ≤ -2 * ((F1 42 + 1).toInt - (F 42).toInt)
          omega
        · show (F 42).toInt ≤ (F1 42 + 1).toInt
          omega
        · show ((F 7).toInt - (F1 42 + 1).toInt).toNat < m
          omega
      unfold mb_operand_5
      refine WP.bind (ws_isSign 39 v1) ?_
      rintro z _ _ ⟨rfl, rfl, (⟨rfl, s⟩ | ⟨rfl, -⟩)⟩
      · dsimp only
        unfold mb_operand_11
        rw [if_neg (by decide)]
        exact nx 39 s
      · dsimp only
        unfold mb_operand_11
        rw [if_pos rfl]
        unfold mb_operand_14
        refine WP.bind (ws_isSign 43 v1) ?_
        rintro z _ _ ⟨rfl, rfl, (⟨rfl, s⟩ | ⟨rfl, -⟩)⟩
        · dsimp only
          unfold mb_operand_20
          rw [if_neg (by decide)]
          exact nx 43 s
        · dsimp only
          unfold mb_operand_20
          rw [if_pos rfl]
          unfold mb_operand_23
          refine WP.bind (ws_isSign 44 v1) ?_
          rintro z _ _ ⟨rfl, rfl, (⟨rfl, s⟩ | ⟨rfl, -⟩)⟩
          · dsimp only
            unfold mb_operand_29
            rw [if_neg (by decide)]
            exact nx 44 s
          · dsimp only
            unfold mb_operand_29
            rw [if_pos rfl]
            unfold mb_operand_45
            have a := q.2.2.2.1
            have b := q.2.2.2.2.2.1
            refine WP.bind (hr 8 0 0 F1 G (by decide) (q.yp h0 (by omega)) ⟨fun q => absurd q (by decide), by rw [b]; omega, fun q => absurd q (by decide), fun q => absurd q (by decide), fun q => absurd q (by decide), fun q => absurd q (by decide)⟩ (by omega)) ?_
            rintro r F2 G2 (⟨rfl, q2⟩ | ⟨rfl, q2⟩)
            · dsimp only
              unfold mb_operand_54
              rw [if_neg (by decide)]
              unfold mb_operand_59
              have q3 := q.tr q2
              have k8 : κS 8 = -1 := rfl
              rw [k8] at q3
              have ed : (F1 42 - 1).toInt = (F1 42).toInt - 1 := i_dec b42.1
              exact back fu (F1 42 - 1) F2 G2 (by omega) (by omega) (by have := h0.2.2.1.1; omega) (q3.le (by omega))
            · dsimp only
              unfold mb_operand_54 mb_operand_57
              rw [if_pos rfl]
              exact WP.ret (Or.inr ⟨rfl, YF.tr q q2⟩)
  unfold mh_operand mb_operand_0
  have := h0.2.2.1
  exact fore fu F ((YR.rf h0).le (by omega)) (Int.le_refl _) (by omega)
theorem zt_plain (hr : ZI rc d) (F : PF) (G : PG) (h0 : YP F G) (hp : pS 8 0 0 F G) (hd : 7 * (40 - (F 43).toInt) + dS 8 ≤ d + 1) : WP (mh_plain fu rc F G) (fun r F1 G1 => ZQ 8 F G r F1 G1) := by
  have e8 : dS 8 = 3 := rfl
  have e4 : dS 4 = 6 := rfl
  have e6 : dS 6 = 2 := rfl
  have e5 : dS 5 = 2 := rfl
  have p2 := hp.2.1
  have v0 := h0.v
  have q0 := YR.rf h0
  have f0 := h0.2.2.1
  have get : ∀ (F1 : PF) (G1 : PG), YR F G (-2) 0 F1 G1 → WP (mb_plain_125 fu rc F1 G1) (fun r F1 G1 => ZQ 8 F G r F1 G1) := by
    intro F1 G1 q1
    unfold mb_plain_125
    refine WP.bind (ws_openSign 22 (q1.w h0 (by decide)).2.1) ?_
    rintro r F2 G2 (⟨rfl, rfl, rfl, s, u, -⟩ | ⟨rfl, u, -⟩)
    · dsimp only
      unfold mb_plain_131
      rw [if_neg (by decide)]
      have q2 := q1.op h0 (k_ne (sgn_k s).1 (by decide)) u
      generalize fup (fup F1 43 (F1 43 + 1)) 42 (F1 42 + 1) = F2 at q2
      unfold mb_plain_134
      refine WP.bind (ws_closeSign 23 (q2.w h0 (by decide)).2.1) ?_
      rintro r F3 G3 (⟨rfl, rfl, rfl, s, -⟩ | ⟨rfl, u, -⟩)
      · dsimp only
        unfold mb_plain_140
        rw [if_neg (by decide)]
        have q3 := YR.cl (j := 0) q2 h0 (by decide) (k_ne (sgn_k s).1 (by decide))
        unfold mb_plain_145
        refine WP.bind (q3.step h0 (by decide) 21 0 0) ?_
        rintro _ F4 G4 ⟨rfl, -, -, q4⟩
        dsimp only
        unfold mb_plain_153
        exact WP.ret (Or.inl ⟨rfl, q4.le (by decide)⟩)
      · dsimp only
        unfold mb_plain_140 mb_plain_143
        rw [if_pos rfl]
        exact WP.ret (Or.inr ⟨rfl, q2.flt h0 (by decide) u⟩)
    · dsimp only
      unfold mb_plain_131 mb_plain_143
      rw [if_pos rfl]
      exact WP.ret (Or.inr ⟨rfl, q1.flt h0 (by decide) u⟩)
  unfold mh_plain mb_plain_0
  refine WP.ix v0 (WP.ite (fun c3 => ?_) (fun c3 => ?_))
  · unfold mb_plain_13
    refine WP.ix v0 (WP.bind (q0.step h0 (by decide) 0 _ 0) ?_)
    rintro _ F1 G1 ⟨rfl, -, K1, q1⟩
    dsimp only
    unfold mb_plain_28 mb_plain_39
    refine WP.ret (Or.inl ⟨rfl, (q1.adv h0 ?_).le (by decide)⟩)
    rw [K1.2 4 rfl, K1.1 42 rfl]
    exact k_ne c3 (by decide)
  · unfold mb_plain_41
    refine WP.bind (ws_isSign 22 v0) ?_
    rintro z _ _ ⟨rfl, rfl, (⟨rfl, s⟩ | ⟨rfl, -⟩)⟩
    · dsimp only
      unfold mb_plain_47
      rw [if_neg (by decide)]
      unfold mb_plain_50
      refine WP.bind (ws_opens v0) ?_
      rintro r F1 G1 (⟨rfl, rfl, rfl, u⟩ | ⟨rfl, u, -⟩)
      · dsimp only
        unfold mb_plain_54
        rw [if_neg (by decide)]
        have q1 := q0.op h0 (k_ne (sgn_k s).1 (by decide)) u
        generalize fup (fup F 43 (F 43 + 1)) 42 (F 42 + 1) = F1 at q1
        unfold mb_plain_57
        have a := q1.2.2.2.1
        have b := q1.2.2.2.2.2.1
        refine WP.bind (hr 4 0 0 F1 G (by decide) (q1.yp h0 (by decide)) ⟨fun _ => by rw [b]; omega, by rw [b]; omega, fun q => absurd q (by decide), fun q => absurd q (by decide), fun q => absurd q (by decide), fun q => absurd q (by decide)⟩ (by omega)) ?_
        rintro r F2 G2 (⟨rfl, q2⟩ | ⟨rfl, q2⟩)
        · dsimp only
          unfold mb_plain_61
          rw [if_neg (by decide)]
          have q3 := q1.tr q2
          unfold mb_plain_64
          refine WP.bind (ws_closeSign 23 (q3.w h0 (by decide)).2.1) ?_
          rintro r F3 G3 (⟨rfl, rfl, rfl, s, -⟩ | ⟨rfl, u, -⟩)
          · dsimp only
            unfold mb_plain_70 mb_plain_73 mb_plain_78
            rw [if_neg (by decide)]
            refine WP.bz (Or.inr rfl) (WP.ret (Or.inl ⟨rfl, ?_⟩))
            exact (YR.cl (j := 0) q3 h0 (by decide) (k_ne (sgn_k s).1 (by decide))).le (by decide)
          · dsimp only
            unfold mb_plain_70 mb_plain_77 mb_plain_78
            rw [if_pos rfl]
            exact WP.bz (Or.inl rfl) (WP.ret (Or.inr ⟨rfl, q3.flt h0 (by decide) u⟩))
        · dsimp only
          unfold mb_plain_61 mb_plain_77 mb_plain_78
          rw [if_pos rfl]
          exact WP.bz (Or.inl rfl) (WP.ret (Or.inr ⟨rfl, YF.tr q1 q2⟩))
      · dsimp only
        unfold mb_plain_54 mb_plain_77 mb_plain_78
        rw [if_pos rfl]
        exact WP.bz (Or.inl rfl) (WP.ret (Or.inr ⟨rfl, q0.flt h0 (by decide) u⟩))
    · dsimp only
      unfold mb_plain_47
      rw [if_pos rfl]
      unfold mb_plain_79
      refine WP.bind (ws_isWord 13 v0) ?_
      rintro z _ _ ⟨rfl, rfl, (⟨rfl, s⟩ | ⟨rfl, -⟩)⟩
      · dsimp only
        unfold mb_plain_85
        rw [if_neg (by decide)]
        have kn := k_ne (wdn_k s).1 (by decide)
        unfold mb_plain_88
        refine WP.ite (fun _ => ?_) (fun _ => ?_)
        · unfold mb_plain_115
          exact get _ _ (q0.adv h0 kn)
        · unfold mb_plain_95
          refine WP.ix v0 (WP.bind (ws_note 10 _ (by decide)) ?_)
          rintro r F1 G1 ⟨K1, rfl⟩
          dsimp only
          unfold mb_plain_110 mb_plain_115
          have q1 := q0.kx K1 rfl rfl rfl rfl rfl rfl rfl rfl
          have K2 : KX [55] [] F1 G (fup F1 55 1) G := KX.f rfl KX.rf
          have q2 := q1.kx K2 rfl rfl rfl rfl rfl rfl rfl rfl
          refine get _ _ (q2.adv h0 ?_)
          show ¬ G 4 (F1 42).toNatClampNeg = 0
          rw [K1.1 42 rfl]
          exact kn
      · dsimp only
        unfold mb_plain_85
        rw [if_pos rfl]
        unfold mb_plain_156
        refine WP.ix v0 (WP.ite (fun c1 => ?_) (fun _ => ?_))
        · unfold mb_plain_175
          have q1 := q0.adv h0 (k_ne c1 (by decide))
          have ea : (F 42 + 1).toInt = (F 42).toInt + 1 := (h0.1.adv f0.1 f0.2 (k_ne c1 (by decide))).1
          have em : (fup F 42 (F 42 + 1)) 42 - 1 = F 42 := i_as _
          have e1 : 1 ≤ ((fup F 42 (F 42 + 1)) 42).toInt := by show 1 ≤ (F 42 + 1).toInt; omega
          generalize fup F 42 (F 42 + 1) = F1 at q1 em e1
          have a := q1.2.2.2.1
          have b := q1.2.2.2.2.2.1
          have ps : ∀ i, i = 5 ∨ i = 6 → pS i (F 42) 0 F1 G := fun i hi => ⟨fun q => by omega, by rw [b]; omega, fun _ => v0, fun _ => ⟨e1, by rw [em]; exact c1⟩, fun q => by omega, fun q => by omega⟩
          unfold mb_plain_190
          refine WP.ite (fun _ => ?_) (fun _ => ?_)
          · unfold mb_plain_205
            refine WP.bind (hr 6 (F 42) 0 F1 G (by decide) (q1.yp h0 (by decide)) (ps 6 (Or.inr rfl)) (by omega)) ?_
            rintro r F2 G2 (⟨rfl, q2⟩ | ⟨rfl, q2⟩)
            · dsimp only
              unfold mb_plain_210
              exact WP.bz (Or.inr rfl) (WP.ret (Or.inl ⟨rfl, (q1.tr q2).le (by decide)⟩))
            · dsimp only
              unfold mb_plain_210
              exact WP.bz (Or.inl rfl) (WP.ret (Or.inr ⟨rfl, YF.tr q1 q2⟩))
          · unfold mb_plain_197
            refine WP.bind (hr 5 (F 42) 0 F1 G (by decide) (q1.yp h0 (by decide)) (ps 5 (Or.inl rfl)) (by omega)) ?_
            rintro r F2 G2 (⟨rfl, q2⟩ | ⟨rfl, q2⟩)
            · dsimp only
              unfold mb_plain_202 mb_plain_210
              exact WP.bz (Or.inr rfl) (WP.ret (Or.inl ⟨rfl, (q1.tr q2).le (by decide)⟩))
            · dsimp only
              unfold mb_plain_202 mb_plain_210
              exact WP.bz (Or.inl rfl) (WP.ret (Or.inr ⟨rfl, YF.tr q1 q2⟩))
        · unfold mb_plain_169
          refine WP.bind (ws_fails 2 (by decide) v0) ?_
          rintro r F1 G1 ⟨rfl, u⟩
          dsimp only
          unfold mb_plain_174
          exact WP.bz (Or.inl rfl) (WP.ret (Or.inr ⟨rfl, q0.flt h0 (by decide) u⟩))
end G1W
