theorem cs_X6_takesTurn {fu : Nat} (hfu : 8589934592 ≤ fu) (F : PF) (G : PG) (hI : CI F G) : WP (cf_X6_takesTurn fu F G) (fun r' F' G' => CI F' G' ∧ KB F G F' G' ∧ KT F F' ∧ KO F F' ∧ KK F F' ∧ (r' = 0 ∨ r' = 1)) := by
  unfold cf_X6_takesTurn
  unfold cb_X6_takesTurn_0
  refine WP.ite (fun c_1 => ?_) (fun c_1 => ?_)
  · skip
    have l_2 : (0 : Int32).toInt = 0 := rfl
    have q_3 := i_rng (F 62)
    have e_4 := i_lt.mp (show (0 : Int32) < (F 62) from c_1)
    unfold cb_X6_takesTurn_9
    first | have e_5 : ((F 62) - (1 : Int32)).toInt = (F 62).toInt - (1) := i_subn (F 62) rfl (by omega) (by omega) | have e_6 := i_rng ((F 62) - (1 : Int32))
    have j_7 : CI (fup F 62 ((F 62) - (1 : Int32))) G := CI.fr rfl hI
    unfold cb_X6_takesTurn_19
    have q_8 := i_rng (F 64)
    first | have e_9 : ((F 64) + (1 : Int32)).toInt = (F 64).toInt + (1) := i_addn (F 64) rfl (by omega) (by omega) | have e_10 := i_rng ((F 64) + (1 : Int32))
    have j_11 : CI (fup (fup F 62 ((F 62) - (1 : Int32))) 64 ((F 64) + (1 : Int32))) G := CI.fr rfl j_7
    unfold cb_X6_takesTurn_29
    refine WP.ret ?_
    exact ⟨j_11, (KB.f (by decide) (KB.f (by decide) (KB.rf : KB F G F G))), (KT.f (by decide) (KT.f (by decide) (rfl : KT F F))), (KO.f (by decide) (KO.f (by decide) (rfl : KO F F))), (KK.f (by decide) (KK.f (by decide) (rfl : KK F F))), (by decide)⟩
  · skip
    have l_12 : (0 : Int32).toInt = 0 := rfl
    have q_13 := i_rng (F 62)
    have e_14 := mt i_lt.mpr (show ¬ ((0 : Int32) < (F 62)) from c_1)
    unfold cb_X6_takesTurn_7
    refine WP.ret ?_
    exact ⟨hI, (KB.rf : KB F G F G), (rfl : KT F F), (rfl : KO F F), (rfl : KK F F), (by decide)⟩
theorem cs_X6_stops {fu : Nat} (hfu : 8589934592 ≤ fu) (x1 : Int32) (x2 : Int32) (F : PF) (G : PG) (hI : CI F G) : WP (cf_X6_stops fu x1 x2 F G) (fun r' F' G' => CI F' G' ∧ KB F G F' G' ∧ KT F F' ∧ KO F F' ∧ KK F F' ∧ True) := by
  unfold cf_X6_stops
  unfold cb_X6_stops_0
  have q_1 := i_rng x2
  have j_2 : CI (fup F 57 x2) G := CI.fr rfl hI
  unfold cb_X6_stops_5
  have q_3 := i_rng x1
  refine WP.bind (cs_X6_over hfu x1 (fup F 57 x2) G j_2) ?_
  rintro r4 F4 G4 ⟨hI4, hB4, hT4, hO4, hK4, hp4⟩
  dsimp only
  have q_5 := hI.r 10 rfl
  have q_6 := hI4.r 10 rfl
  have e_7 : (F4 10).toInt = (F 10).toInt := hO4
  unfold cb_X6_stops_10
  refine WP.ret ?_
  exact ⟨hI4, (KB.tr (KB.f (by decide) (KB.rf : KB F G F G)) hB4), (KT.tr (KT.f (by decide) (rfl : KT F F)) hT4), (KO.tr (KO.f (by decide) (rfl : KO F F)) hO4), (KK.tr (KK.f (by decide) (rfl : KK F F)) hK4), trivial⟩
theorem cs_X6_call {fu : Nat} (hfu : 8589934592 ≤ fu) (x1 : Int32) (F : PF) (G : PG) (hI : CI F G) : WP (cf_X6_call fu x1 F G) (fun r' F' G' => CI F' G' ∧ KB F G F' G' ∧ KT F F' ∧ KO F F' ∧ KK F F' ∧ True) := by
  unfold cf_X6_call
  unfold cb_X6_call_0
  refine WP.bind (cs_X6_next hfu F G hI) ?_
  rintro r1 F1 G1 ⟨hI1, hB1, hT1, hO1, hK1, hp1⟩
  dsimp only
  have q_2 := hI.r 10 rfl
  have q_3 := hI1.r 10 rfl
  have e_4 : (F1 10).toInt = (F 10).toInt := hO1
  unfold cb_X6_call_4
  refine WP.bind (cs_X6_next hfu F1 G1 hI1) ?_
  rintro r5 F5 G5 ⟨hI5, hB5, hT5, hO5, hK5, hp5⟩
  dsimp only
  have q_6 := hI5.r 10 rfl
  have e_7 : (F5 10).toInt = (F1 10).toInt := hO5
  unfold cb_X6_call_9
  refine WP.bind (cs_X6_takesTurn hfu F5 G5 hI5) ?_
  rintro r8 F8 G8 ⟨hI8, hB8, hT8, hO8, hK8, hp8⟩
  dsimp only
  have q_9 := hI8.r 10 rfl
  have e_10 : (F8 10).toInt = (F5 10).toInt := hO8
  have q_11 := b_rng hp8
  unfold cb_X6_call_14
  refine WP.ite (fun c_12 => ?_) (fun c_12 => ?_)
  · skip
    have l_13 : (0 : Int32).toInt = 0 := rfl
    have e_14 := i_eq.mp (show r8 = (0 : Int32) from c_12)
    unfold cb_X6_call_17
    have l_15 : (1 : Int32).toInt = 1 := rfl
    have q_16 := i_rng x1
    refine WP.bind (cs_X6_stops hfu (1 : Int32) x1 F8 G8 hI8) ?_
    rintro r17 F17 G17 ⟨hI17, hB17, hT17, hO17, hK17, hp17⟩
    dsimp only
    have q_18 := hI17.r 10 rfl
    have e_19 : (F17 10).toInt = (F8 10).toInt := hO17
    unfold cb_X6_call_23
    unfold cb_X6_call_44
    refine WP.ret ?_
    exact ⟨hI17, (KB.tr (KB.tr (KB.tr (KB.tr (KB.rf : KB F G F G) hB1) hB5) hB8) hB17), (KT.tr (KT.tr (KT.tr (KT.tr (rfl : KT F F) hT1) hT5) hT8) hT17), (KO.tr (KO.tr (KO.tr (KO.tr (rfl : KO F F) hO1) hO5) hO8) hO17), (KK.tr (KK.tr (KK.tr (KK.tr (rfl : KK F F) hK1) hK5) hK8) hK17), trivial⟩
  · skip
    have l_20 : (0 : Int32).toInt = 0 := rfl
    have e_21 := mt i_eq.mpr (show ¬ (r8 = (0 : Int32)) from c_12)
    unfold cb_X6_call_26
    have q_22 := i_rng r1
    refine WP.bind (cs_X8_has hfu r1 F8 G8 hI8) ?_
    rintro r23 _ _ ⟨rfl, rfl, hp23⟩
    dsimp only
    have q_24 := b_rng (hp23.1)
    unfold cb_X6_call_34
    refine WP.ite (fun c_25 => ?_) (fun c_25 => ?_)
    · skip
      have e_26 := i_eq.mp (show r23 = (0 : Int32) from c_25)
      unfold cb_X6_call_44
      refine WP.ret ?_
      exact ⟨hI8, (KB.tr (KB.tr (KB.tr (KB.rf : KB F G F G) hB1) hB5) hB8), (KT.tr (KT.tr (KT.tr (rfl : KT F F) hT1) hT5) hT8), (KO.tr (KO.tr (KO.tr (rfl : KO F F) hO1) hO5) hO8), (KK.tr (KK.tr (KK.tr (rfl : KK F F) hK1) hK5) hK8), trivial⟩
    · skip
      have e_27 := mt i_eq.mpr (show ¬ (r23 = (0 : Int32)) from c_25)
      unfold cb_X6_call_37
      have q_28 := i_rng r5
      refine WP.bind (cs_X6_enters hfu r1 r5 F8 G8 hI8 (show 0 ≤ r1.toInt by omega) (show r1.toInt < 450 by omega)) ?_
      rintro r29 F29 G29 ⟨hI29, hB29, hT29, hO29, hK29, hp29⟩
      dsimp only
      have q_30 := hI29.r 10 rfl
      have e_31 : (F29 10).toInt = (F8 10).toInt := hO29
      have q_32 := b_rng hp29
      unfold cb_X6_call_43
      unfold cb_X6_call_44
      refine WP.ret ?_
      exact ⟨hI29, (KB.tr (KB.tr (KB.tr (KB.tr (KB.rf : KB F G F G) hB1) hB5) hB8) hB29), (KT.tr (KT.tr (KT.tr (KT.tr (rfl : KT F F) hT1) hT5) hT8) hT29), (KO.tr (KO.tr (KO.tr (KO.tr (rfl : KO F F) hO1) hO5) hO8) hO29), (KK.tr (KK.tr (KK.tr (KK.tr (rfl : KK F F) hK1) hK5) hK8) hK29), trivial⟩
theorem cs_X7_handIn {fu : Nat} (hfu : 8589934592 ≤ fu) (F : PF) (G : PG) (hI : CI F G) : WP (cf_X7_handIn fu F G) (fun r' F' G' => CI F' G' ∧ KB F G F' G' ∧ KT F F' ∧ KO F F' ∧ KK F F' ∧ True) := by
  unfold cf_X7_handIn
  unfold cb_X7_handIn_0
  refine WP.ite (fun c_1 => ?_) (fun c_1 => ?_)
  · skip
    have l_2 : (0 : Int32).toInt = 0 := rfl
    have q_3 := hI.r 70 rfl
    have e_4 := i_lt.mp (show (0 : Int32) < (F 70) from c_1)
    unfold cb_X7_handIn_9
    have q_5 := hI.r 69 rfl
    refine WP.ix (show vp_in (F 69) 500 from vp_in_iff.mpr ⟨by omega, by omega⟩) ?_
    first | have e_6 : ((F 69) + (1 : Int32)).toInt = (F 69).toInt + (1) := i_addn (F 69) rfl (by omega) (by omega) | have e_7 := i_rng ((F 69) + (1 : Int32))
    have l_8 : (500 : Int32).toInt = 500 := rfl
    have e_10 : 0 ≤ ((((F 69) + (1 : Int32)) - ((F 69) + (1 : Int32)) / (500 : Int32) * (500 : Int32))).toInt ∧ ((((F 69) + (1 : Int32)) - ((F 69) + (1 : Int32)) / (500 : Int32) * (500 : Int32))).toInt < 500 := i_rem 500 (by decide) (by decide) (by omega)
    have j_11 : CI (fup F 69 (((F 69) + (1 : Int32)) - ((F 69) + (1 : Int32)) / (500 : Int32) * (500 : Int32))) G := CI.rg (k := 69) (x := (((F 69) + (1 : Int32)) - ((F 69) + (1 : Int32)) / (500 : Int32) * (500 : Int32))) rfl (by decide) (by decide) hI ⟨by omega, by omega⟩
    unfold cb_X7_handIn_33
    first | have e_12 : ((F 70) - (1 : Int32)).toInt = (F 70).toInt - (1) := i_subn (F 70) rfl (by omega) (by omega) | have e_13 := i_rng ((F 70) - (1 : Int32))
    have j_14 : CI (fup (fup F 69 (((F 69) + (1 : Int32)) - ((F 69) + (1 : Int32)) / (500 : Int32) * (500 : Int32))) 70 ((F 70) - (1 : Int32))) G := CI.rg (k := 70) (x := ((F 70) - (1 : Int32))) rfl (by decide) (by decide) j_11 ⟨by omega, by omega⟩
    unfold cb_X7_handIn_43
    refine WP.ret ?_
    exact ⟨j_14, (KB.f (by decide) (KB.f (by decide) (KB.rf : KB F G F G))), (KT.f (by decide) (KT.f (by decide) (rfl : KT F F))), (KO.f (by decide) (KO.f (by decide) (rfl : KO F F))), (KK.f (by decide) (KK.f (by decide) (rfl : KK F F))), trivial⟩
  · skip
    have l_15 : (0 : Int32).toInt = 0 := rfl
    have q_16 := hI.r 70 rfl
    have e_17 := mt i_lt.mpr (show ¬ ((0 : Int32) < (F 70)) from c_1)
    unfold cb_X7_handIn_7
    refine WP.ret ?_
    exact ⟨hI, (KB.rf : KB F G F G), (rfl : KT F F), (rfl : KO F F), (rfl : KK F F), trivial⟩
theorem cs_X6_leave {fu : Nat} (hfu : 8589934592 ≤ fu) (F : PF) (G : PG) (hI : CI F G) : WP (cf_X6_leave fu F G) (fun r' F' G' => CI F' G' ∧ KB F G F' G' ∧ KT F F' ∧ KO F F' ∧ KK F F' ∧ True) := by
  unfold cf_X6_leave
  unfold cb_X6_leave_0
  have q_1 := i_rng (F 58)
  have j_2 : CI (fup F 59 (F 58)) G := CI.fr rfl hI
  unfold cb_X6_leave_8
  refine WP.ite (fun c_3 => ?_) (fun c_3 => ?_)
  · skip
    have l_4 : (2000 : Int32).toInt = 2000 := rfl
    have e_5 := i_eq.mp (show (F 58) = (2000 : Int32) from c_3)
    unfold cb_X6_leave_18
    refine WP.bind (cs_X6_pop hfu (fup F 59 (F 58)) G j_2) ?_
    rintro r6 F6 G6 ⟨hI6, hB6, hT6, hO6, hK6, hp6⟩
    dsimp only
    have q_7 := hI.r 10 rfl
    have q_8 := hI6.r 10 rfl
    have e_9 : (F6 10).toInt = (F 10).toInt := hO6
    unfold cb_X6_leave_23
    have q_10 := i_rng r6
    have j_11 : CI (fup F6 65 r6) G6 := CI.fr rfl hI6
    unfold cb_X6_leave_26
    have l_12 : (3 : Int32).toInt = 3 := rfl
    refine WP.bind (cs_X6_over hfu (3 : Int32) (fup F6 65 r6) G6 j_11) ?_
    rintro r13 F13 G13 ⟨hI13, hB13, hT13, hO13, hK13, hp13⟩
    dsimp only
    have q_14 := hI13.r 10 rfl
    have e_15 : (F13 10).toInt = (F6 10).toInt := hO13
    unfold cb_X6_leave_31
    refine WP.ret ?_
    exact ⟨hI13, (KB.tr (KB.f (by decide) (KB.tr (KB.f (by decide) (KB.rf : KB F G F G)) hB6)) hB13), (KT.tr (KT.f (by decide) (KT.tr (KT.f (by decide) (rfl : KT F F)) hT6)) hT13), (KO.tr (KO.f (by decide) (KO.tr (KO.f (by decide) (rfl : KO F F)) hO6)) hO13), (KK.tr (KK.f (by decide) (KK.tr (KK.f (by decide) (rfl : KK F F)) hK6)) hK13), trivial⟩
  · skip
    have l_16 : (2000 : Int32).toInt = 2000 := rfl
    have e_17 := mt i_eq.mpr (show ¬ ((F 58) = (2000 : Int32)) from c_3)
    unfold cb_X6_leave_32
    refine WP.bind (cs_X6_held hfu (F 58) (fup F 59 (F 58)) G j_2) ?_
    rintro r18 _ _ ⟨rfl, rfl, hp18⟩
    dsimp only
    unfold cb_X6_leave_41
    have q_19 := i_rng r18
    have j_20 : CI (fup (fup F 59 (F 58)) 57 r18) G := CI.fr rfl j_2
    unfold cb_X6_leave_44
    first | have e_21 : ((F 58) + (1 : Int32)).toInt = (F 58).toInt + (1) := i_addn (F 58) rfl (by omega) (by omega) | have e_22 := i_rng ((F 58) + (1 : Int32))
    refine WP.bind (cs_X6_held hfu ((F 58) + (1 : Int32)) (fup (fup F 59 (F 58)) 57 r18) G j_20) ?_
    rintro r23 _ _ ⟨rfl, rfl, hp23⟩
    dsimp only
    unfold cb_X6_leave_55
    have q_24 := i_rng r23
    have j_25 : CI (fup (fup (fup F 59 (F 58)) 57 r18) 58 r23) G := CI.fr rfl j_20
    unfold cb_X6_leave_58
    refine WP.ret ?_
    exact ⟨j_25, (KB.f (by decide) (KB.f (by decide) (KB.f (by decide) (KB.rf : KB F G F G)))), (KT.f (by decide) (KT.f (by decide) (KT.f (by decide) (rfl : KT F F)))), (KO.f (by decide) (KO.f (by decide) (KO.f (by decide) (rfl : KO F F)))), (KK.f (by decide) (KK.f (by decide) (KK.f (by decide) (rfl : KK F F)))), trivial⟩
theorem cs_X7_show {fu : Nat} (hfu : 8589934592 ≤ fu) (x1 : Int32) (F : PF) (G : PG) (hI : CI F G) : WP (cf_X7_show fu x1 F G) (fun r' F' G' => CI F' G' ∧ KB F G F' G' ∧ KT F F' ∧ KO F F' ∧ KK F F' ∧ True) := by
  unfold cf_X7_show
  unfold cb_X7_show_0
  refine WP.ite (fun c_1 => ?_) (fun c_1 => ?_)
  · skip
    have l_2 : (2000 : Int32).toInt = 2000 := rfl
    have q_3 := hI.r 72 rfl
    have e_4 := i_le.mp (show (2000 : Int32) ≤ (F 72) from c_1)
    unfold cb_X7_show_20
    refine WP.ite (fun c_5 => ?_) (fun c_5 => ?_)
    · skip
      have l_6 : (2147483647 : Int32).toInt = 2147483647 := rfl
      have e_7 := i_le.mp (show (2147483647 : Int32) ≤ (F 72) from c_5)
      unfold cb_X7_show_39
      refine WP.ret ?_
      exact ⟨hI, (KB.rf : KB F G F G), (rfl : KT F F), (rfl : KO F F), (rfl : KK F F), trivial⟩
    · skip
      have l_8 : (2147483647 : Int32).toInt = 2147483647 := rfl
      have e_9 := mt i_le.mpr (show ¬ ((2147483647 : Int32) ≤ (F 72)) from c_5)
      unfold cb_X7_show_29
      first | have e_10 : ((F 72) + (1 : Int32)).toInt = (F 72).toInt + (1) := i_addn (F 72) rfl (by omega) (by omega) | have e_11 := i_rng ((F 72) + (1 : Int32))
      have j_12 : CI (fup F 72 ((F 72) + (1 : Int32))) G := CI.rg (k := 72) (x := ((F 72) + (1 : Int32))) rfl (by decide) (by decide) hI ⟨by omega, by omega⟩
      unfold cb_X7_show_39
      refine WP.ret ?_
      exact ⟨j_12, (KB.f (by decide) (KB.rf : KB F G F G)), (KT.f (by decide) (rfl : KT F F)), (KO.f (by decide) (rfl : KO F F)), (KK.f (by decide) (rfl : KK F F)), trivial⟩
  · skip
    have l_13 : (2000 : Int32).toInt = 2000 := rfl
    have q_14 := hI.r 72 rfl
    have e_15 := mt i_le.mpr (show ¬ ((2000 : Int32) ≤ (F 72)) from c_1)
    unfold cb_X7_show_10
    refine WP.ix (show vp_in (F 72) 2000 from vp_in_iff.mpr ⟨by omega, by omega⟩) ?_
    have j_16 : CI F (gup G 71 (F 72).toNatClampNeg x1) := CI.g (by decide) hI
    unfold cb_X7_show_20
    refine WP.ite (fun c_17 => ?_) (fun c_17 => ?_)
    · skip
      have l_18 : (2147483647 : Int32).toInt = 2147483647 := rfl
      have e_19 := i_le.mp (show (2147483647 : Int32) ≤ (F 72) from c_17)
      unfold cb_X7_show_39
      refine WP.ret ?_
      exact ⟨j_16, (KB.g (by decide) (KB.rf : KB F G F G)), (rfl : KT F F), (rfl : KO F F), (rfl : KK F F), trivial⟩
    · skip
      have l_20 : (2147483647 : Int32).toInt = 2147483647 := rfl
      have e_21 := mt i_le.mpr (show ¬ ((2147483647 : Int32) ≤ (F 72)) from c_17)
      unfold cb_X7_show_29
      first | have e_22 : ((F 72) + (1 : Int32)).toInt = (F 72).toInt + (1) := i_addn (F 72) rfl (by omega) (by omega) | have e_23 := i_rng ((F 72) + (1 : Int32))
      have j_24 : CI (fup F 72 ((F 72) + (1 : Int32))) (gup G 71 (F 72).toNatClampNeg x1) := CI.rg (k := 72) (x := ((F 72) + (1 : Int32))) rfl (by decide) (by decide) j_16 ⟨by omega, by omega⟩
      unfold cb_X7_show_39
      refine WP.ret ?_
      exact ⟨j_24, (KB.f (by decide) (KB.g (by decide) (KB.rf : KB F G F G))), (KT.f (by decide) (rfl : KT F F)), (KO.f (by decide) (rfl : KO F F)), (KK.f (by decide) (rfl : KK F F)), trivial⟩
theorem cs_X6_act {fu : Nat} (hfu : 8589934592 ≤ fu) (x1 : Int32) (x2 : Int32) (F : PF) (G : PG) (hI : CI F G) : WP (cf_X6_act fu x1 x2 F G) (fun r' F' G' => CI F' G' ∧ KB F G F' G' ∧ KT F F' ∧ KO F F' ∧ KK F F' ∧ True) := by
  unfold cf_X6_act
  unfold cb_X6_act_0
  refine WP.ite (fun c_1 => ?_) (fun c_1 => ?_)
  · skip
    have q_2 := i_rng x1
    have l_3 : (15 : Int32).toInt = 15 := rfl
    have e_4 := i_eq.mp (show x1 = (15 : Int32) from c_1)
    unfold cb_X6_act_76
    refine WP.bind (cs_X6_leave hfu F G hI) ?_
    rintro r5 F5 G5 ⟨hI5, hB5, hT5, hO5, hK5, hp5⟩
    dsimp only
    have q_6 := hI.r 10 rfl
    have q_7 := hI5.r 10 rfl
    have e_8 : (F5 10).toInt = (F 10).toInt := hO5
    unfold cb_X6_act_80
    unfold cb_X6_act_143
    refine WP.ret ?_
    exact ⟨hI5, (KB.tr (KB.rf : KB F G F G) hB5), (KT.tr (rfl : KT F F) hT5), (KO.tr (rfl : KO F F) hO5), (KK.tr (rfl : KK F F) hK5), trivial⟩
  have q_9 := i_rng x1
  have l_10 : (15 : Int32).toInt = 15 := rfl
  have e_11 := mt i_eq.mpr (show ¬ (x1 = (15 : Int32)) from c_1)
  refine WP.ite (fun c_12 => ?_) (fun c_12 => ?_)
  · skip
    have l_13 : (16 : Int32).toInt = 16 := rfl
    have e_14 := i_eq.mp (show x1 = (16 : Int32) from c_12)
    unfold cb_X6_act_83
    refine WP.bind (cs_X6_pop hfu F G hI) ?_
    rintro r15 F15 G15 ⟨hI15, hB15, hT15, hO15, hK15, hp15⟩
    dsimp only
    have q_16 := hI.r 10 rfl
    have q_17 := hI15.r 10 rfl
    have e_18 : (F15 10).toInt = (F 10).toInt := hO15
    unfold cb_X6_act_91
    have q_19 := i_rng r15
    refine WP.bind (cs_X7_show hfu r15 F15 G15 hI15) ?_
    rintro r20 F20 G20 ⟨hI20, hB20, hT20, hO20, hK20, hp20⟩
    dsimp only
    have q_21 := hI20.r 10 rfl
    have e_22 : (F20 10).toInt = (F15 10).toInt := hO20
    unfold cb_X6_act_94
    unfold cb_X6_act_143
    refine WP.ret ?_
    exact ⟨hI20, (KB.tr (KB.tr (KB.rf : KB F G F G) hB15) hB20), (KT.tr (KT.tr (rfl : KT F F) hT15) hT20), (KO.tr (KO.tr (rfl : KO F F) hO15) hO20), (KK.tr (KK.tr (rfl : KK F F) hK15) hK20), trivial⟩
  have l_23 : (16 : Int32).toInt = 16 := rfl
  have e_24 := mt i_eq.mpr (show ¬ (x1 = (16 : Int32)) from c_12)
  refine WP.ite (fun c_25 => ?_) (fun c_25 => ?_)
  · skip
    have l_26 : (17 : Int32).toInt = 17 := rfl
    have e_27 := i_eq.mp (show x1 = (17 : Int32) from c_25)
    unfold cb_X6_act_97
    refine WP.ite (fun c_28 => ?_) (fun c_28 => ?_)
    · skip
      have q_29 := hI.r 70 rfl
      have l_30 : (0 : Int32).toInt = 0 := rfl
      have e_31 := i_le.mp (show (F 70) ≤ (0 : Int32) from c_28)
      unfold cb_X6_act_121
      have l_32 : (2 : Int32).toInt = 2 := rfl
      have q_33 := i_rng x2
      refine WP.bind (cs_X6_stops hfu (2 : Int32) x2 F G hI) ?_
      rintro r34 F34 G34 ⟨hI34, hB34, hT34, hO34, hK34, hp34⟩
      dsimp only
      have q_35 := hI.r 10 rfl
      have q_36 := hI34.r 10 rfl
      have e_37 : (F34 10).toInt = (F 10).toInt := hO34
      unfold cb_X6_act_127
      unfold cb_X6_act_143
      refine WP.ret ?_
      exact ⟨hI34, (KB.tr (KB.rf : KB F G F G) hB34), (KT.tr (rfl : KT F F) hT34), (KO.tr (rfl : KO F F) hO34), (KK.tr (rfl : KK F F) hK34), trivial⟩
    · skip
      have q_38 := hI.r 70 rfl
      have l_39 : (0 : Int32).toInt = 0 := rfl
      have e_40 := mt i_le.mpr (show ¬ ((F 70) ≤ (0 : Int32)) from c_28)
      unfold cb_X6_act_107
      refine WP.bind (cs_X7_handIn hfu F G hI) ?_
      rintro r41 F41 G41 ⟨hI41, hB41, hT41, hO41, hK41, hp41⟩
      dsimp only
      have q_42 := hI.r 10 rfl
      have q_43 := hI41.r 10 rfl
      have e_44 : (F41 10).toInt = (F 10).toInt := hO41
      unfold cb_X6_act_115
      have q_45 := i_rng r41
      refine WP.bind (cs_X6_push hfu r41 F41 G41 hI41) ?_
      rintro r46 F46 G46 ⟨hI46, hB46, hT46, hO46, hK46, hp46⟩
      dsimp only
      have q_47 := hI46.r 10 rfl
      have e_48 : (F46 10).toInt = (F41 10).toInt := hO46
      unfold cb_X6_act_118
      unfold cb_X6_act_143
      refine WP.ret ?_
      exact ⟨hI46, (KB.tr (KB.tr (KB.rf : KB F G F G) hB41) hB46), (KT.tr (KT.tr (rfl : KT F F) hT41) hT46), (KO.tr (KO.tr (rfl : KO F F) hO41) hO46), (KK.tr (KK.tr (rfl : KK F F) hK41) hK46), trivial⟩
  have l_49 : (17 : Int32).toInt = 17 := rfl
  have e_50 := mt i_eq.mpr (show ¬ (x1 = (17 : Int32)) from c_25)
  refine WP.ite (fun c_51 => ?_) (fun c_51 => ?_)
  · skip
    have l_52 : (89 : Int32).toInt = 89 := rfl
    have e_53 := i_eq.mp (show x1 = (89 : Int32) from c_51)
    unfold cb_X6_act_52
    refine WP.bind (cs_X6_takesTurn hfu F G hI) ?_
    rintro r54 F54 G54 ⟨hI54, hB54, hT54, hO54, hK54, hp54⟩
    dsimp only
    have q_55 := hI.r 10 rfl
    have q_56 := hI54.r 10 rfl
    have e_57 : (F54 10).toInt = (F 10).toInt := hO54
    have q_58 := b_rng hp54
    unfold cb_X6_act_56
    refine WP.ite (fun c_59 => ?_) (fun c_59 => ?_)
    · skip
      have l_60 : (0 : Int32).toInt = 0 := rfl
      have e_61 := i_eq.mp (show r54 = (0 : Int32) from c_59)
      unfold cb_X6_act_59
      have l_62 : (1 : Int32).toInt = 1 := rfl
      have q_63 := i_rng x2
      refine WP.bind (cs_X6_stops hfu (1 : Int32) x2 F54 G54 hI54) ?_
      rintro r64 F64 G64 ⟨hI64, hB64, hT64, hO64, hK64, hp64⟩
      dsimp only
      have q_65 := hI64.r 10 rfl
      have e_66 : (F64 10).toInt = (F54 10).toInt := hO64
      unfold cb_X6_act_65
      unfold cb_X6_act_143
      refine WP.ret ?_
      exact ⟨hI64, (KB.tr (KB.tr (KB.rf : KB F G F G) hB54) hB64), (KT.tr (KT.tr (rfl : KT F F) hT54) hT64), (KO.tr (KO.tr (rfl : KO F F) hO54) hO64), (KK.tr (KK.tr (rfl : KK F F) hK54) hK64), trivial⟩
    · skip
      have l_67 : (0 : Int32).toInt = 0 := rfl
      have e_68 := mt i_eq.mpr (show ¬ (r54 = (0 : Int32)) from c_59)
      unfold cb_X6_act_143
      refine WP.ret ?_
      exact ⟨hI54, (KB.tr (KB.rf : KB F G F G) hB54), (KT.tr (rfl : KT F F) hT54), (KO.tr (rfl : KO F F) hO54), (KK.tr (rfl : KK F F) hK54), trivial⟩
  have l_69 : (89 : Int32).toInt = 89 := rfl
  have e_70 := mt i_eq.mpr (show ¬ (x1 = (89 : Int32)) from c_51)
  refine WP.ite (fun c_71 => ?_) (fun c_71 => ?_)
  · skip
    have l_72 : (90 : Int32).toInt = 90 := rfl
    have e_73 := i_eq.mp (show x1 = (90 : Int32) from c_71)
    unfold cb_X6_act_68
    have q_74 := i_rng x2
    refine WP.bind (cs_X6_call hfu x2 F G hI) ?_
    rintro r75 F75 G75 ⟨hI75, hB75, hT75, hO75, hK75, hp75⟩
    dsimp only
    have q_76 := hI.r 10 rfl
    have q_77 := hI75.r 10 rfl
    have e_78 : (F75 10).toInt = (F 10).toInt := hO75
    unfold cb_X6_act_73
    unfold cb_X6_act_143
    refine WP.ret ?_
    exact ⟨hI75, (KB.tr (KB.rf : KB F G F G) hB75), (KT.tr (rfl : KT F F) hT75), (KO.tr (rfl : KO F F) hO75), (KK.tr (rfl : KK F F) hK75), trivial⟩
  have l_79 : (90 : Int32).toInt = 90 := rfl
  have e_80 := mt i_eq.mpr (show ¬ (x1 = (90 : Int32)) from c_71)
  unfold cb_X6_act_130
  refine WP.bind (cs_X6_pop hfu F G hI) ?_
  rintro r81 F81 G81 ⟨hI81, hB81, hT81, hO81, hK81, hp81⟩
  dsimp only
  have q_82 := hI.r 10 rfl
  have q_83 := hI81.r 10 rfl
  have e_84 : (F81 10).toInt = (F 10).toInt := hO81
  unfold cb_X6_act_135
  have q_85 := i_rng r81
  have j_86 : CI (fup F81 65 r81) G81 := CI.fr rfl hI81
  unfold cb_X6_act_138
  have l_87 : (4 : Int32).toInt = 4 := rfl
  refine WP.bind (cs_X6_over hfu (4 : Int32) (fup F81 65 r81) G81 j_86) ?_
  rintro r88 F88 G88 ⟨hI88, hB88, hT88, hO88, hK88, hp88⟩
  dsimp only
  have q_89 := hI88.r 10 rfl
  have e_90 : (F88 10).toInt = (F81 10).toInt := hO88
  unfold cb_X6_act_143
  refine WP.ret ?_
  exact ⟨hI88, (KB.tr (KB.f (by decide) (KB.tr (KB.rf : KB F G F G) hB81)) hB88), (KT.tr (KT.f (by decide) (KT.tr (rfl : KT F F) hT81)) hT88), (KO.tr (KO.f (by decide) (KO.tr (rfl : KO F F) hO81)) hO88), (KK.tr (KK.f (by decide) (KK.tr (rfl : KK F F) hK81)) hK88), trivial⟩
