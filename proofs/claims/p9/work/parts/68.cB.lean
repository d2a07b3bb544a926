theorem cz_X4_formals_33 {fu : Nat} (hfu : 8589934592 ≤ fu) {F0 : PF} {G0 : PG} : ∀ (n : Nat) (x1 : Int32) (x2 : Int32) (x3 : Int32) (F : PF) (G : PG) (hI : CI F G) (hB : KB F0 G0 F G) (hT : KT F0 F) (i_0 : (F 10).toInt = (F0 10).toInt + 1) (i_1 : -1 ≤ (F0 10).toInt) (i_2 : x1 = 0 ∨ x1 = 1) (hn : (2147483647 - x3.toInt).toNat < n), WP (cl_X4_formals_33 fu n x1 x2 x3 F G) (fun r' F' G' => CI F' G' ∧ KB F0 G0 F' G' ∧ KT F0 F' ∧ KO F0 F' ∧ True) := by
  intro n
  induction n with
  | zero =>
    intro x1 x2 x3 F G hI hB hT i_0 i_1 i_2 hn
    exact absurd hn (Nat.not_lt_zero _)
  | succ n ihn =>
    intro x1 x2 x3 F G hI hB hT i_0 i_1 i_2 hn
    show WP (cb_X4_formals_33 fu (cl_X4_formals_33 fu n)  x1 x2 x3 F G) _
    have q_x1 := b_rng i_2
    unfold cb_X4_formals_33
    refine WP.ite (fun c_1 => ?_) (fun c_1 => ?_)
    · skip
      have l_2 : (4001 : Int32).toInt = 4001 := rfl
      have q_3 := i_rng x3
      have e_4 := i_le.mp (show (4001 : Int32) ≤ x3 from c_1)
      unfold cb_X4_formals_85
      have l_5 : (20 : Int32).toInt = 20 := rfl
      have q_6 := hI.r 10 rfl
      refine WP.bind (cs_X2_closesWith hfu (20 : Int32) F G hI (show 0 ≤ (F 10).toInt by omega) (show (20 : Int32).toInt ≠ -2 by omega)) ?_
      rintro r7 F7 G7 ⟨hI7, hB7, hT7, hS7, hp7⟩
      dsimp only
      have q_8 := hI7.r 10 rfl
      have e_9 : (F7 10).toInt = (F 10).toInt - 1 := hp7
      unfold cb_X4_formals_94
      refine WP.ret ?_
      have q_10 := i_rng (F0 10)
      exact ⟨hI7, (KB.tr hB hB7), (KT.tr hT hT7), (show (F7 10).toInt = (F0 10).toInt by omega), trivial⟩
    · skip
      have l_11 : (4001 : Int32).toInt = 4001 := rfl
      have q_12 := i_rng x3
      have e_13 := mt i_le.mpr (show ¬ ((4001 : Int32) ≤ x3) from c_1)
      unfold cb_X4_formals_40
      refine WP.ite (fun c_14 => ?_) (fun c_14 => ?_)
      · skip
        have q_15 := i_rng x2
        have l_16 : (0 : Int32).toInt = 0 := rfl
        have e_17 := i_eq.mp (show x2 = (0 : Int32) from c_14)
        unfold cb_X4_formals_85
        have l_18 : (20 : Int32).toInt = 20 := rfl
        have q_19 := hI.r 10 rfl
        refine WP.bind (cs_X2_closesWith hfu (20 : Int32) F G hI (show 0 ≤ (F 10).toInt by omega) (show (20 : Int32).toInt ≠ -2 by omega)) ?_
        rintro r20 F20 G20 ⟨hI20, hB20, hT20, hS20, hp20⟩
        dsimp only
        have q_21 := hI20.r 10 rfl
        have e_22 : (F20 10).toInt = (F 10).toInt - 1 := hp20
        unfold cb_X4_formals_94
        refine WP.ret ?_
        have q_23 := i_rng (F0 10)
        exact ⟨hI20, (KB.tr hB hB20), (KT.tr hT hT20), (show (F20 10).toInt = (F0 10).toInt by omega), trivial⟩
      · skip
        have q_24 := i_rng x2
        have l_25 : (0 : Int32).toInt = 0 := rfl
        have e_26 := mt i_eq.mpr (show ¬ (x2 = (0 : Int32)) from c_14)
        unfold cb_X4_formals_44
        refine WP.bind (cs_X4_formal hfu x3 x1 F G hI i_2) ?_
        rintro r27 F27 G27 ⟨hI27, hB27, hT27, hO27, hp27⟩
        dsimp only
        have q_28 := hI.r 10 rfl
        have q_29 := hI27.r 10 rfl
        have e_30 : (F27 10).toInt = (F 10).toInt := hO27
        unfold cb_X4_formals_50
        refine WP.ite (fun c_31 => ?_) (fun c_31 => ?_)
        · skip
          have q_32 := i_rng (F27 11)
          have l_33 : (25 : Int32).toInt = 25 := rfl
          have e_34 := i_eq.mp (show (F27 11) = (25 : Int32) from c_31)
          unfold cb_X4_formals_62
          unfold cb_X4_formals_67
          refine WP.ite (fun c_35 => absurd c_35 (by decide)) (fun _ => ?_)
          unfold cb_X4_formals_72
          refine WP.bind (cs_X2_next hfu F27 G27 hI27) ?_
          rintro r36 F36 G36 ⟨hI36, hB36, hT36, hO36, hp36⟩
          dsimp only
          have q_37 := hI36.r 10 rfl
          have e_38 : (F36 10).toInt = (F27 10).toInt := hO36
          unfold cb_X4_formals_79
          have l_39 : (1 : Int32).toInt = 1 := rfl
          first | have e_40 : (x3 + (1 : Int32)).toInt = x3.toInt + (1) := i_addn x3 rfl (by omega) (by omega) | have e_41 := i_rng (x3 + (1 : Int32))
          exact ihn x1 (1 : Int32) (x3 + (1 : Int32)) F36 G36 hI36 (KB.tr (KB.tr hB hB27) hB36) (KT.tr (KT.tr hT hT27) hT36) (show (F36 10).toInt = (F0 10).toInt + 1 by omega) (show -1 ≤ (F0 10).toInt by omega) i_2 (by omega)
        · skip
          have q_42 := i_rng (F27 11)
          have l_43 : (25 : Int32).toInt = 25 := rfl
          have e_44 := mt i_eq.mpr (show ¬ ((F27 11) = (25 : Int32)) from c_31)
          unfold cb_X4_formals_66
          unfold cb_X4_formals_67
          refine WP.ite (fun _ => ?_) (fun c_45 => absurd (by decide) c_45)
          unfold cb_X4_formals_79
          first | have e_46 : (x3 + (1 : Int32)).toInt = x3.toInt + (1) := i_addn x3 rfl (by omega) (by omega) | have e_47 := i_rng (x3 + (1 : Int32))
          exact ihn x1 (0 : Int32) (x3 + (1 : Int32)) F27 G27 hI27 (KB.tr hB hB27) (KT.tr hT hT27) (show (F27 10).toInt = (F0 10).toInt + 1 by omega) (show -1 ≤ (F0 10).toInt by omega) i_2 (by omega)
theorem cs_X4_formals {fu : Nat} (hfu : 8589934592 ≤ fu) (x1 : Int32) (F : PF) (G : PG) (hI : CI F G) (hz_x1 : x1 = 0 ∨ x1 = 1) : WP (cf_X4_formals fu x1 F G) (fun r' F' G' => CI F' G' ∧ KB F G F' G' ∧ KT F F' ∧ KO F F' ∧ True) := by
  have q_x1 := b_rng hz_x1
  unfold cf_X4_formals
  unfold cb_X4_formals_0
  have l_1 : (19 : Int32).toInt = 19 := rfl
  refine WP.bind (cs_X2_opens hfu (19 : Int32) F G hI (show (19 : Int32).toInt ≠ -2 by omega)) ?_
  rintro r2 F2 G2 ⟨hI2, hB2, hT2, hS2, hp2⟩
  dsimp only
  have q_3 := b_rng (hp2.1)
  have q_4 := hI.r 10 rfl
  have q_5 := hI2.r 10 rfl
  have q_6 := i_rng (F 11)
  have e_7 : r2.toInt = 1 → (F2 10).toInt = (F 10).toInt + 1 ∧ (F 10).toInt < 40 ∧ (F 11).toInt ≠ -2 := hp2.2.1
  have e_8 : r2.toInt = 0 → (F2 10).toInt = (F 10).toInt ∧ (F2 11).toInt = -2 := hp2.2.2
  unfold cb_X4_formals_9
  refine WP.ite (fun c_9 => ?_) (fun c_9 => ?_)
  · skip
    have l_10 : (0 : Int32).toInt = 0 := rfl
    have e_11 := i_eq.mp (show r2 = (0 : Int32) from c_9)
    unfold cb_X4_formals_12
    refine WP.ret ?_
    exact ⟨hI2, (KB.tr (KB.rf : KB F G F G) hB2), (KT.tr (rfl : KT F F) hT2), (show (F2 10).toInt = (F 10).toInt by omega), trivial⟩
  · skip
    have l_12 : (0 : Int32).toInt = 0 := rfl
    have e_13 := mt i_eq.mpr (show ¬ (r2 = (0 : Int32)) from c_9)
    unfold cb_X4_formals_13
    refine WP.ite (fun c_14 => ?_) (fun c_14 => ?_)
    · skip
      have q_15 := i_rng (F2 11)
      have l_16 : (20 : Int32).toInt = 20 := rfl
      have e_17 := i_eq.mp (show (F2 11) = (20 : Int32) from c_14)
      unfold cb_X4_formals_29
      unfold cb_X4_formals_30
      have q_18 := i_rng x1
      exact cz_X4_formals_33 (F0 := F) (G0 := G) hfu fu x1 (0 : Int32) (0 : Int32) F2 G2 hI2 (KB.tr (KB.rf : KB F G F G) hB2) (KT.tr (rfl : KT F F) hT2) (show (F2 10).toInt = (F 10).toInt + 1 by omega) (show -1 ≤ (F 10).toInt by omega) hz_x1 (by omega)
    · skip
      have q_19 := i_rng (F2 11)
      have l_20 : (20 : Int32).toInt = 20 := rfl
      have e_21 := mt i_eq.mpr (show ¬ ((F2 11) = (20 : Int32)) from c_14)
      unfold cb_X4_formals_25
      unfold cb_X4_formals_30
      have q_22 := i_rng x1
      have l_23 : (1 : Int32).toInt = 1 := rfl
      exact cz_X4_formals_33 (F0 := F) (G0 := G) hfu fu x1 (1 : Int32) (0 : Int32) F2 G2 hI2 (KB.tr (KB.rf : KB F G F G) hB2) (KT.tr (rfl : KT F F) hT2) (show (F2 10).toInt = (F 10).toInt + 1 by omega) (show -1 ≤ (F 10).toInt by omega) hz_x1 (by omega)
theorem cs_X5_globalRoom {fu : Nat} (hfu : 8589934592 ≤ fu) (x1 : Int32) (x2 : Int32) (F : PF) (G : PG) (hI : CI F G) : WP (cf_X5_globalRoom fu x1 x2 F G) (fun r' F' G' => CI F' G' ∧ KB F G F' G' ∧ KT F F' ∧ KO F F' ∧ KK F F' ∧ True) := by
  unfold cf_X5_globalRoom
  unfold cb_X5_globalRoom_0
  refine WP.ite (fun c_1 => ?_) (fun c_1 => ?_)
  · skip
    have q_2 := hI.r 45 rfl
    have l_3 : (0 : Int32).toInt = 0 := rfl
    have e_4 := i_eq.mp (show (F 45) = (0 : Int32) from c_1)
    unfold cb_X5_globalRoom_48
    refine WP.ret ?_
    exact ⟨hI, (KB.rf : KB F G F G), (rfl : KT F F), (rfl : KO F F), (rfl : KK F F), trivial⟩
  · skip
    have q_5 := hI.r 45 rfl
    have l_6 : (0 : Int32).toInt = 0 := rfl
    have e_7 := mt i_eq.mpr (show ¬ ((F 45) = (0 : Int32)) from c_1)
    unfold cb_X5_globalRoom_15
    have q_8 := i_rng (F 75)
    have q_9 := i_rng x1
    first | have e_10 : ((F 75) + x1).toInt = (F 75).toInt + (x1.toInt) := i_addn (F 75) rfl (by omega) (by omega) | have e_11 := i_rng ((F 75) + x1)
    have j_12 : CI (fup F 75 ((F 75) + x1)) G := CI.fr rfl hI
    unfold cb_X5_globalRoom_28
    refine WP.ite (fun c_13 => ?_) (fun c_13 => ?_)
    · skip
      have l_14 : (2000 : Int32).toInt = 2000 := rfl
      have e_15 := i_le.mp (show ((F 75) + x1) ≤ (2000 : Int32) from c_13)
      unfold cb_X5_globalRoom_48
      refine WP.ret ?_
      exact ⟨j_12, (KB.f (by decide) (KB.rf : KB F G F G)), (KT.f (by decide) (rfl : KT F F)), (KO.f (by decide) (rfl : KO F F)), (KK.f (by decide) (rfl : KK F F)), trivial⟩
    · skip
      have l_16 : (2000 : Int32).toInt = 2000 := rfl
      have e_17 := mt i_le.mpr (show ¬ (((F 75) + x1) ≤ (2000 : Int32)) from c_13)
      unfold cb_X5_globalRoom_41
      have l_18 : (8 : Int32).toInt = 8 := rfl
      have q_19 := i_rng x2
      refine WP.bind (cs_X5_note hfu (8 : Int32) x2 (fup F 75 ((F 75) + x1)) G j_12) ?_
      rintro r20 F20 G20 ⟨hI20, hB20, hT20, hO20, hK20, hp20⟩
      dsimp only
      have q_21 := hI.r 10 rfl
      have q_22 := hI20.r 10 rfl
      have e_23 : (F20 10).toInt = (F 10).toInt := hO20
      unfold cb_X5_globalRoom_48
      refine WP.ret ?_
      exact ⟨hI20, (KB.tr (KB.f (by decide) (KB.rf : KB F G F G)) hB20), (KT.tr (KT.f (by decide) (rfl : KT F F)) hT20), (KO.tr (KO.f (by decide) (rfl : KO F F)) hO20), (KK.tr (KK.f (by decide) (rfl : KK F F)) hK20), trivial⟩
theorem cs_X8_tellInt {fu : Nat} (hfu : 8589934592 ≤ fu) (x1 : Int32) (x2 : Int32) (F : PF) (G : PG) (hI : CI F G) : WP (cf_X8_tellInt fu x1 x2 F G) (fun r' F' G' => CI F' G' ∧ KB F G F' G' ∧ KT F F' ∧ KO F F' ∧ KK F F' ∧ True) := by
  unfold cf_X8_tellInt
  unfold cb_X8_tellInt_0
  refine WP.ite (fun c_1 => ?_) (fun c_1 => ?_)
  · skip
    have q_2 := i_rng x1
    have l_3 : (0 : Int32).toInt = 0 := rfl
    have e_4 := i_lt.mp (show x1 < (0 : Int32) from c_1)
    unfold cb_X8_tellInt_18
    refine WP.ret ?_
    exact ⟨hI, (KB.rf : KB F G F G), (rfl : KT F F), (rfl : KO F F), (rfl : KK F F), trivial⟩
  · skip
    have q_5 := i_rng x1
    have l_6 : (0 : Int32).toInt = 0 := rfl
    have e_7 := mt i_lt.mpr (show ¬ (x1 < (0 : Int32)) from c_1)
    unfold cb_X8_tellInt_4
    refine WP.ite (fun c_8 => ?_) (fun c_8 => ?_)
    · skip
      have l_9 : (2000 : Int32).toInt = 2000 := rfl
      have e_10 := i_le.mp (show (2000 : Int32) ≤ x1 from c_8)
      unfold cb_X8_tellInt_18
      refine WP.ret ?_
      exact ⟨hI, (KB.rf : KB F G F G), (rfl : KT F F), (rfl : KO F F), (rfl : KK F F), trivial⟩
    · skip
      have l_11 : (2000 : Int32).toInt = 2000 := rfl
      have e_12 := mt i_le.mpr (show ¬ ((2000 : Int32) ≤ x1) from c_8)
      unfold cb_X8_tellInt_11
      refine WP.ix (show vp_in x1 2000 from vp_in_iff.mpr ⟨by omega, by omega⟩) ?_
      have j_13 : CI F (gup G 86 x1.toNatClampNeg x2) := CI.g (by decide) hI
      unfold cb_X8_tellInt_18
      refine WP.ret ?_
      exact ⟨j_13, (KB.g (by decide) (KB.rf : KB F G F G)), (rfl : KT F F), (rfl : KO F F), (rfl : KK F F), trivial⟩
theorem cs_X4_globalInt {fu : Nat} (hfu : 8589934592 ≤ fu) (x1 : Int32) (x2 : Int32) (F : PF) (G : PG) (hI : CI F G) : WP (cf_X4_globalInt fu x1 x2 F G) (fun r' F' G' => CI F' G' ∧ KB F G F' G' ∧ KT F F' ∧ KO F F' ∧ True) := by
  unfold cf_X4_globalInt
  unfold cb_X4_globalInt_0
  refine WP.ite (fun c_1 => ?_) (fun c_1 => ?_)
  · skip
    have q_2 := i_rng (F 11)
    have l_3 : (29 : Int32).toInt = 29 := rfl
    have e_4 := i_eq.mp (show (F 11) = (29 : Int32) from c_1)
    unfold cb_X4_globalInt_14
    refine WP.bind (cs_X2_next hfu F G hI) ?_
    rintro r5 F5 G5 ⟨hI5, hB5, hT5, hO5, hp5⟩
    dsimp only
    have q_6 := hI.r 10 rfl
    have q_7 := hI5.r 10 rfl
    have e_8 : (F5 10).toInt = (F 10).toInt := hO5
    unfold cb_X4_globalInt_21
    refine WP.bind (cs_X3_constant hfu F5 G5 hI5) ?_
    rintro r9 F9 G9 ⟨hI9, hB9, hT9, hO9, hp9⟩
    dsimp only
    have q_10 := hI9.r 10 rfl
    have e_11 : (F9 10).toInt = (F5 10).toInt := hO9
    unfold cb_X4_globalInt_28
    unfold cb_X4_globalInt_29
    have l_12 : (26 : Int32).toInt = 26 := rfl
    refine WP.bind (cs_X2_expect hfu (26 : Int32) F9 G9 hI9 (show (26 : Int32).toInt ≠ -2 by omega)) ?_
    rintro r13 F13 G13 ⟨hI13, hB13, hT13, hO13, hS13, hp13⟩
    dsimp only
    have q_14 := hI13.r 10 rfl
    have e_15 : (F13 10).toInt = (F9 10).toInt := hO13
    unfold cb_X4_globalInt_38
    have l_16 : (1 : Int32).toInt = 1 := rfl
    have q_17 := i_rng x2
    refine WP.bind (cs_X5_globalRoom hfu (1 : Int32) x2 F13 G13 hI13) ?_
    rintro r18 F18 G18 ⟨hI18, hB18, hT18, hO18, hK18, hp18⟩
    dsimp only
    have q_19 := hI18.r 10 rfl
    have e_20 : (F18 10).toInt = (F13 10).toInt := hO18
    unfold cb_X4_globalInt_47
    have q_21 := i_rng r18
    have q_22 := i_rng r9
    refine WP.bind (cs_X8_tellInt hfu r18 r9 F18 G18 hI18) ?_
    rintro r23 F23 G23 ⟨hI23, hB23, hT23, hO23, hK23, hp23⟩
    dsimp only
    have q_24 := hI23.r 10 rfl
    have e_25 : (F23 10).toInt = (F18 10).toInt := hO23
    unfold cb_X4_globalInt_59
    have q_26 := i_rng x1
    have l_27 : (0 : Int32).toInt = 0 := rfl
    refine WP.bind (cs_X5_tell hfu x1 x2 (1 : Int32) r18 (0 : Int32) F23 G23 hI23) ?_
    rintro r28 F28 G28 ⟨hI28, hB28, hT28, hO28, hK28, hp28⟩
    dsimp only
    have q_29 := hI28.r 10 rfl
    have e_30 : (F28 10).toInt = (F23 10).toInt := hO28
    unfold cb_X4_globalInt_72
    refine WP.ret ?_
    exact ⟨hI28, (KB.tr (KB.tr (KB.tr (KB.tr (KB.tr (KB.tr (KB.rf : KB F G F G) hB5) hB9) hB13) hB18) hB23) hB28), (KT.tr (KT.tr (KT.tr (KT.tr (KT.tr (KT.tr (rfl : KT F F) hT5) hT9) hT13) hT18) hT23) hT28), (KO.tr (KO.tr (KO.tr (KO.tr (KO.tr (KO.tr (rfl : KO F F) hO5) hO9) hO13) hO18) hO23) hO28), trivial⟩
  · skip
    have q_31 := i_rng (F 11)
    have l_32 : (29 : Int32).toInt = 29 := rfl
    have e_33 := mt i_eq.mpr (show ¬ ((F 11) = (29 : Int32)) from c_1)
    unfold cb_X4_globalInt_29
    have l_34 : (26 : Int32).toInt = 26 := rfl
    refine WP.bind (cs_X2_expect hfu (26 : Int32) F G hI (show (26 : Int32).toInt ≠ -2 by omega)) ?_
    rintro r35 F35 G35 ⟨hI35, hB35, hT35, hO35, hS35, hp35⟩
    dsimp only
    have q_36 := hI.r 10 rfl
    have q_37 := hI35.r 10 rfl
    have e_38 : (F35 10).toInt = (F 10).toInt := hO35
    unfold cb_X4_globalInt_38
    have l_39 : (1 : Int32).toInt = 1 := rfl
    have q_40 := i_rng x2
    refine WP.bind (cs_X5_globalRoom hfu (1 : Int32) x2 F35 G35 hI35) ?_
    rintro r41 F41 G41 ⟨hI41, hB41, hT41, hO41, hK41, hp41⟩
    dsimp only
    have q_42 := hI41.r 10 rfl
    have e_43 : (F41 10).toInt = (F35 10).toInt := hO41
    unfold cb_X4_globalInt_47
    have q_44 := i_rng r41
    have l_45 : (0 : Int32).toInt = 0 := rfl
    refine WP.bind (cs_X8_tellInt hfu r41 (0 : Int32) F41 G41 hI41) ?_
    rintro r46 F46 G46 ⟨hI46, hB46, hT46, hO46, hK46, hp46⟩
    dsimp only
    have q_47 := hI46.r 10 rfl
    have e_48 : (F46 10).toInt = (F41 10).toInt := hO46
    unfold cb_X4_globalInt_59
    have q_49 := i_rng x1
    refine WP.bind (cs_X5_tell hfu x1 x2 (1 : Int32) r41 (0 : Int32) F46 G46 hI46) ?_
    rintro r50 F50 G50 ⟨hI50, hB50, hT50, hO50, hK50, hp50⟩
    dsimp only
    have q_51 := hI50.r 10 rfl
    have e_52 : (F50 10).toInt = (F46 10).toInt := hO50
    unfold cb_X4_globalInt_72
    refine WP.ret ?_
    exact ⟨hI50, (KB.tr (KB.tr (KB.tr (KB.tr (KB.rf : KB F G F G) hB35) hB41) hB46) hB50), (KT.tr (KT.tr (KT.tr (KT.tr (rfl : KT F F) hT35) hT41) hT46) hT50), (KO.tr (KO.tr (KO.tr (KO.tr (rfl : KO F F) hO35) hO41) hO46) hO50), trivial⟩
theorem cs_X5_fault {fu : Nat} (hfu : 8589934592 ≤ fu) (F : PF) (G : PG) (hI : CI F G) : WP (cf_X5_fault fu F G) (fun r' F' G' => F = F' ∧ G = G' ∧ True) := by
  unfold cf_X5_fault
  unfold cb_X5_fault_0
  refine WP.ite (fun c_1 => ?_) (fun c_1 => ?_)
  · skip
    have q_2 := i_rng (F 43)
    have l_3 : (4000 : Int32).toInt = 4000 := rfl
    have e_4 := i_le.mp (show (F 43) ≤ (4000 : Int32) from c_1)
    unfold cb_X5_fault_14
    have q_5 := hI.r 44 rfl
    refine WP.ix (show vp_in (F 44) 10 from vp_in_iff.mpr ⟨by omega, by omega⟩) ?_
    unfold cb_X5_fault_30
    refine WP.ret ?_
    exact ⟨rfl, rfl, trivial⟩
  · skip
    have q_6 := i_rng (F 43)
    have l_7 : (4000 : Int32).toInt = 4000 := rfl
    have e_8 := mt i_le.mpr (show ¬ ((F 43) ≤ (4000 : Int32)) from c_1)
    unfold cb_X5_fault_10
    unfold cb_X5_fault_30
    refine WP.ret ?_
    exact ⟨rfl, rfl, trivial⟩
theorem cz_X5_leave_7 {fu : Nat} (hfu : 8589934592 ≤ fu) {F0 : PF} {G0 : PG} : ∀ (n : Nat) (x1 : Int32) (F : PF) (G : PG) (hI : CI F G) (hB : KB F0 G0 F G) (hT : KT F0 F) (hO : KO F0 F) (hK : KK F0 F) (i_0 : -1 ≤ x1.toInt) (i_1 : x1.toInt < 700) (hn : (x1.toInt + 1).toNat < n), WP (cl_X5_leave_7 fu n x1 F G) (fun r' F' G' => CI F' G' ∧ KB F0 G0 F' G' ∧ KT F0 F' ∧ KO F0 F' ∧ KK F0 F' ∧ True) := by
  intro n
  induction n with
  | zero =>
    intro x1 F G hI hB hT hO hK i_0 i_1 hn
    exact absurd hn (Nat.not_lt_zero _)
  | succ n ihn =>
    intro x1 F G hI hB hT hO hK i_0 i_1 hn
    show WP (cb_X5_leave_7 fu (cl_X5_leave_7 fu n)  x1 F G) _
    unfold cb_X5_leave_7
    refine WP.ite (fun c_1 => ?_) (fun c_1 => ?_)
    · skip
      have q_2 := i_rng x1
      have l_3 : (0 : Int32).toInt = 0 := rfl
      have e_4 := i_lt.mp (show x1 < (0 : Int32) from c_1)
      unfold cb_X5_leave_65
      have q_5 := i_rng (F 42)
      first | have e_6 : ((F 42) - (1 : Int32)).toInt = (F 42).toInt - (1) := i_subn (F 42) rfl (by omega) (by omega) | have e_7 := i_rng ((F 42) - (1 : Int32))
      have j_8 : CI (fup F 42 ((F 42) - (1 : Int32))) G := CI.fr rfl hI
      unfold cb_X5_leave_75
      refine WP.ret ?_
      exact ⟨j_8, (KB.f (by decide) hB), (KT.f (by decide) hT), (KO.f (by decide) hO), (KK.f (by decide) hK), trivial⟩
    · skip
      have q_9 := i_rng x1
      have l_10 : (0 : Int32).toInt = 0 := rfl
      have e_11 := mt i_lt.mpr (show ¬ (x1 < (0 : Int32)) from c_1)
      unfold cb_X5_leave_11
      refine WP.ix (show vp_in x1 700 from vp_in_iff.mpr ⟨by omega, by omega⟩) ?_
      refine WP.ite (fun c_12 => ?_) (fun c_12 => ?_)
      · skip
        have q_13 := i_rng (G 34 x1.toNatClampNeg)
        have q_14 := i_rng (F 42)
        have e_15 := i_eq.mp (show (G 34 x1.toNatClampNeg) = (F 42) from c_12)
        unfold cb_X5_leave_24
        refine WP.ix (show vp_in x1 700 from vp_in_iff.mpr ⟨by omega, by omega⟩) ?_
        refine WP.ite (fun c_16 => ?_) (fun c_16 => ?_)
        · skip
          have q_17 := i_rng (G 33 x1.toNatClampNeg)
          have e_18 := i_lt.mp (show (G 33 x1.toNatClampNeg) < (0 : Int32) from c_16)
          unfold cb_X5_leave_54
          have j_19 : CI (fup F 41 x1) G := CI.rg (k := 41) (x := x1) rfl (by decide) (by decide) hI ⟨by omega, by omega⟩
          unfold cb_X5_leave_59
          first | have e_20 : (x1 + (-1 : Int32)).toInt = x1.toInt + (-1) := i_addn x1 rfl (by omega) (by omega) | have e_21 := i_rng (x1 + (-1 : Int32))
          exact ihn (x1 + (-1 : Int32)) (fup F 41 x1) G j_19 (KB.f (by decide) hB) (KT.f (by decide) hT) (KO.f (by decide) hO) (KK.f (by decide) hK) (show -1 ≤ (x1 + (-1 : Int32)).toInt by omega) (show (x1 + (-1 : Int32)).toInt < 700 by omega) (by omega)
        · skip
          have q_22 := i_rng (G 33 x1.toNatClampNeg)
          have e_23 := mt i_lt.mpr (show ¬ ((G 33 x1.toNatClampNeg) < (0 : Int32)) from c_16)
          unfold cb_X5_leave_35
          refine WP.ite (fun c_24 => ?_) (fun c_24 => ?_)
          · skip
            have l_25 : (1408 : Int32).toInt = 1408 := rfl
            have e_26 := i_le.mp (show (1408 : Int32) ≤ (G 33 x1.toNatClampNeg) from c_24)
            unfold cb_X5_leave_54
            have j_27 : CI (fup F 41 x1) G := CI.rg (k := 41) (x := x1) rfl (by decide) (by decide) hI ⟨by omega, by omega⟩
            unfold cb_X5_leave_59
            first | have e_28 : (x1 + (-1 : Int32)).toInt = x1.toInt + (-1) := i_addn x1 rfl (by omega) (by omega) | have e_29 := i_rng (x1 + (-1 : Int32))
            exact ihn (x1 + (-1 : Int32)) (fup F 41 x1) G j_27 (KB.f (by decide) hB) (KT.f (by decide) hT) (KO.f (by decide) hO) (KK.f (by decide) hK) (show -1 ≤ (x1 + (-1 : Int32)).toInt by omega) (show (x1 + (-1 : Int32)).toInt < 700 by omega) (by omega)
          · skip
            have l_30 : (1408 : Int32).toInt = 1408 := rfl
            have e_31 := mt i_le.mpr (show ¬ ((1408 : Int32) ≤ (G 33 x1.toNatClampNeg)) from c_24)
            unfold cb_X5_leave_42
            refine WP.ix (show vp_in x1 700 from vp_in_iff.mpr ⟨by omega, by omega⟩) ?_
            refine WP.ix (show vp_in (G 33 x1.toNatClampNeg) 1408 from vp_in_iff.mpr ⟨by omega, by omega⟩) ?_
            have j_32 : CI F (gup G 40 (G 33 x1.toNatClampNeg).toNatClampNeg (G 39 x1.toNatClampNeg)) := CI.g (by decide) hI
            unfold cb_X5_leave_54
            have j_33 : CI (fup F 41 x1) (gup G 40 (G 33 x1.toNatClampNeg).toNatClampNeg (G 39 x1.toNatClampNeg)) := CI.rg (k := 41) (x := x1) rfl (by decide) (by decide) j_32 ⟨by omega, by omega⟩
            unfold cb_X5_leave_59
            first | have e_34 : (x1 + (-1 : Int32)).toInt = x1.toInt + (-1) := i_addn x1 rfl (by omega) (by omega) | have e_35 := i_rng (x1 + (-1 : Int32))
            exact ihn (x1 + (-1 : Int32)) (fup F 41 x1) (gup G 40 (G 33 x1.toNatClampNeg).toNatClampNeg (G 39 x1.toNatClampNeg)) j_33 (KB.f (by decide) (KB.g (by decide) hB)) (KT.f (by decide) hT) (KO.f (by decide) hO) (KK.f (by decide) hK) (show -1 ≤ (x1 + (-1 : Int32)).toInt by omega) (show (x1 + (-1 : Int32)).toInt < 700 by omega) (by omega)
      · skip
        have q_36 := i_rng (G 34 x1.toNatClampNeg)
        have q_37 := i_rng (F 42)
        have e_38 := mt i_eq.mpr (show ¬ ((G 34 x1.toNatClampNeg) = (F 42)) from c_12)
        unfold cb_X5_leave_65
        first | have e_39 : ((F 42) - (1 : Int32)).toInt = (F 42).toInt - (1) := i_subn (F 42) rfl (by omega) (by omega) | have e_40 := i_rng ((F 42) - (1 : Int32))
        have j_41 : CI (fup F 42 ((F 42) - (1 : Int32))) G := CI.fr rfl hI
        unfold cb_X5_leave_75
        refine WP.ret ?_
        exact ⟨j_41, (KB.f (by decide) hB), (KT.f (by decide) hT), (KO.f (by decide) hO), (KK.f (by decide) hK), trivial⟩
theorem cs_X5_leave {fu : Nat} (hfu : 8589934592 ≤ fu) (F : PF) (G : PG) (hI : CI F G) : WP (cf_X5_leave fu F G) (fun r' F' G' => CI F' G' ∧ KB F G F' G' ∧ KT F F' ∧ KO F F' ∧ KK F F' ∧ True) := by
  unfold cf_X5_leave
  unfold cb_X5_leave_0
  have q_1 := hI.r 41 rfl
  first | have e_2 : ((F 41) - (1 : Int32)).toInt = (F 41).toInt - (1) := i_subn (F 41) rfl (by omega) (by omega) | have e_3 := i_rng ((F 41) - (1 : Int32))
  exact cz_X5_leave_7 (F0 := F) (G0 := G) hfu fu ((F 41) - (1 : Int32)) F G hI (KB.rf : KB F G F G) (rfl : KT F F) (rfl : KO F F) (rfl : KK F F) (show -1 ≤ ((F 41) - (1 : Int32)).toInt by omega) (show ((F 41) - (1 : Int32)).toInt < 700 by omega) (by omega)
theorem cs_X4_endFunction {fu : Nat} (hfu : 8589934592 ≤ fu) (F : PF) (G : PG) (hI : CI F G) : WP (cf_X4_endFunction fu F G) (fun r' F' G' => CI F' G' ∧ KB F G F' G' ∧ KT F F' ∧ KO F F' ∧ KK F F' ∧ True) := by
  unfold cf_X4_endFunction
  unfold cb_X4_endFunction_0
  have l_1 : (66 : Int32).toInt = 66 := rfl
  have l_2 : (0 : Int32).toInt = 0 := rfl
  refine WP.bind (cs_X1_addPair hfu (66 : Int32) (0 : Int32) F G hI) ?_
  rintro r3 F3 G3 ⟨hI3, hB3, hT3, hO3, hK3, hp3⟩
  dsimp only
  have q_4 := hI.r 10 rfl
  have q_5 := hI3.r 10 rfl
  have e_6 : (F3 10).toInt = (F 10).toInt := hO3
  unfold cb_X4_endFunction_10
  have l_7 : (15 : Int32).toInt = 15 := rfl
  refine WP.bind (cs_X1_add hfu (15 : Int32) F3 G3 hI3) ?_
  rintro r8 F8 G8 ⟨hI8, hB8, hT8, hO8, hK8, hp8⟩
  dsimp only
  have q_9 := hI8.r 10 rfl
  have e_10 : (F8 10).toInt = (F3 10).toInt := hO8
  have q_11 := hI3.r 21 rfl
  have q_12 := hI8.r 21 rfl
  have e_13 : (F8 21).toInt = (F3 21).toInt := congrArg Int32.toInt hp8
  unfold cb_X4_endFunction_19
  refine WP.ite (fun c_14 => ?_) (fun c_14 => ?_)
  · skip
    have q_15 := hI8.r 45 rfl
    have e_16 := i_eq.mp (show (F8 45) = (0 : Int32) from c_14)
    unfold cb_X4_endFunction_62
    refine WP.bind (cs_X5_leave hfu F8 G8 hI8) ?_
    rintro r17 F17 G17 ⟨hI17, hB17, hT17, hO17, hK17, hp17⟩
    dsimp only
    have q_18 := hI17.r 10 rfl
    have e_19 : (F17 10).toInt = (F8 10).toInt := hO17
    unfold cb_X4_endFunction_69
    have q_20 := i_rng (F17 28)
    first | have e_21 : ((F17 28) + (1 : Int32)).toInt = (F17 28).toInt + (1) := i_addn (F17 28) rfl (by omega) (by omega) | have e_22 := i_rng ((F17 28) + (1 : Int32))
    have j_23 : CI (fup F17 28 ((F17 28) + (1 : Int32))) G17 := CI.fr rfl hI17
    unfold cb_X4_endFunction_79
    refine WP.ret ?_
    exact ⟨j_23, (KB.f (by decide) (KB.tr (KB.tr (KB.tr (KB.rf : KB F G F G) hB3) hB8) hB17)), (KT.f (by decide) (KT.tr (KT.tr (KT.tr (rfl : KT F F) hT3) hT8) hT17)), (KO.f (by decide) (KO.tr (KO.tr (KO.tr (rfl : KO F F) hO3) hO8) hO17)), (KK.f (by decide) (KK.tr (KK.tr (KK.tr (rfl : KK F F) hK3) hK8) hK17)), trivial⟩
  · skip
    have q_24 := hI8.r 45 rfl
    have e_25 := mt i_eq.mpr (show ¬ ((F8 45) = (0 : Int32)) from c_14)
    unfold cb_X4_endFunction_29
    have q_26 := i_rng (F8 28)
    refine WP.bind (cs_X8_has hfu (F8 28) F8 G8 hI8) ?_
    rintro r27 _ _ ⟨rfl, rfl, hp27⟩
    dsimp only
    have q_28 := b_rng (hp27.1)
    unfold cb_X4_endFunction_40
    refine WP.ite (fun c_29 => ?_) (fun c_29 => ?_)
    · skip
      have e_30 := i_eq.mp (show r27 = (0 : Int32) from c_29)
      unfold cb_X4_endFunction_62
      refine WP.bind (cs_X5_leave hfu F8 G8 hI8) ?_
      rintro r31 F31 G31 ⟨hI31, hB31, hT31, hO31, hK31, hp31⟩
      dsimp only
      have q_32 := hI31.r 10 rfl
      have e_33 : (F31 10).toInt = (F8 10).toInt := hO31
      unfold cb_X4_endFunction_69
      have q_34 := i_rng (F31 28)
      first | have e_35 : ((F31 28) + (1 : Int32)).toInt = (F31 28).toInt + (1) := i_addn (F31 28) rfl (by omega) (by omega) | have e_36 := i_rng ((F31 28) + (1 : Int32))
      have j_37 : CI (fup F31 28 ((F31 28) + (1 : Int32))) G31 := CI.fr rfl hI31
      unfold cb_X4_endFunction_79
      refine WP.ret ?_
      exact ⟨j_37, (KB.f (by decide) (KB.tr (KB.tr (KB.tr (KB.rf : KB F G F G) hB3) hB8) hB31)), (KT.f (by decide) (KT.tr (KT.tr (KT.tr (rfl : KT F F) hT3) hT8) hT31)), (KO.f (by decide) (KO.tr (KO.tr (KO.tr (rfl : KO F F) hO3) hO8) hO31)), (KK.f (by decide) (KK.tr (KK.tr (KK.tr (rfl : KK F F) hK3) hK8) hK31)), trivial⟩
    · skip
      have e_38 := mt i_eq.mpr (show ¬ (r27 = (0 : Int32)) from c_29)
      unfold cb_X4_endFunction_43
      refine WP.bind (cs_X5_measure hfu F8 G8 hI8) ?_
      rintro r39 _ _ ⟨rfl, rfl, hp39⟩
      dsimp only
      unfold cb_X4_endFunction_61
      refine WP.ix (show vp_in (F8 28) 450 from vp_in_iff.mpr ⟨by omega, by omega⟩) ?_
      have j_40 : CI F8 (gup G8 79 (F8 28).toNatClampNeg r39) := CI.g (by decide) hI8
      unfold cb_X4_endFunction_62
      refine WP.bind (cs_X5_leave hfu F8 (gup G8 79 (F8 28).toNatClampNeg r39) j_40) ?_
      rintro r41 F41 G41 ⟨hI41, hB41, hT41, hO41, hK41, hp41⟩
      dsimp only
      have q_42 := hI41.r 10 rfl
      have e_43 : (F41 10).toInt = (F8 10).toInt := hO41
      unfold cb_X4_endFunction_69
      have q_44 := i_rng (F41 28)
      first | have e_45 : ((F41 28) + (1 : Int32)).toInt = (F41 28).toInt + (1) := i_addn (F41 28) rfl (by omega) (by omega) | have e_46 := i_rng ((F41 28) + (1 : Int32))
      have j_47 : CI (fup F41 28 ((F41 28) + (1 : Int32))) G41 := CI.fr rfl hI41
      unfold cb_X4_endFunction_79
      refine WP.ret ?_
      exact ⟨j_47, (KB.f (by decide) (KB.tr (KB.g (by decide) (KB.tr (KB.tr (KB.rf : KB F G F G) hB3) hB8)) hB41)), (KT.f (by decide) (KT.tr (KT.tr (KT.tr (rfl : KT F F) hT3) hT8) hT41)), (KO.f (by decide) (KO.tr (KO.tr (KO.tr (rfl : KO F F) hO3) hO8) hO41)), (KK.f (by decide) (KK.tr (KK.tr (KK.tr (rfl : KK F F) hK3) hK8) hK41)), trivial⟩
theorem cs_X4_start {fu : Nat} (hfu : 8589934592 ≤ fu) (x1 : Int32) (F : PF) (G : PG) (hI : CI F G) (hz_x1 : x1 = 0 ∨ x1 = 1) : WP (cf_X4_start fu x1 F G) (fun r' F' G' => CI F' G' ∧ KB F G F' G' ∧ KT F F' ∧ ((F' 10).toInt = 0)) := by
  have q_x1 := b_rng hz_x1
  unfold cf_X4_start
  unfold cb_X4_start_0
  have l_1 : (0 : Int32).toInt = 0 := rfl
  have j_2 : CI (fup F 28 (0 : Int32)) G := CI.fr rfl hI
  unfold cb_X4_start_5
  have j_3 : CI (fup (fup F 28 (0 : Int32)) 29 (0 : Int32)) G := CI.fr rfl j_2
  unfold cb_X4_start_10
  have l_4 : (-1 : Int32).toInt = -1 := rfl
  have j_5 : CI (fup (fup (fup F 28 (0 : Int32)) 29 (0 : Int32)) 30 (-1 : Int32)) G := CI.fr rfl j_3
  unfold cb_X4_start_15
  have j_6 : CI (fup (fup (fup (fup F 28 (0 : Int32)) 29 (0 : Int32)) 30 (-1 : Int32)) 31 (-1 : Int32)) G := CI.fr rfl j_5
  unfold cb_X4_start_20
  have j_7 : CI (fup (fup (fup (fup (fup F 28 (0 : Int32)) 29 (0 : Int32)) 30 (-1 : Int32)) 31 (-1 : Int32)) 42 (0 : Int32)) G := CI.fr rfl j_6
  unfold cb_X4_start_28
  have q_8 := i_rng x1
  refine WP.bz (show x1 = 0 ∨ x1 = 1 from hz_x1) ?_
  have q_9 := b_rng (show x1 = 0 ∨ x1 = 1 from hz_x1)
  have j_10 : CI (fup (fup (fup (fup (fup (fup F 28 (0 : Int32)) 29 (0 : Int32)) 30 (-1 : Int32)) 31 (-1 : Int32)) 42 (0 : Int32)) 45 x1) G := CI.rg (k := 45) (x := x1) rfl (by decide) (by decide) j_7 ⟨by omega, by omega⟩
  unfold cb_X4_start_36
  refine WP.bz (show x1 = 0 ∨ x1 = 1 from hz_x1) ?_
  have q_11 := b_rng (show x1 = 0 ∨ x1 = 1 from hz_x1)
  have j_12 : CI (fup (fup (fup (fup (fup (fup (fup F 28 (0 : Int32)) 29 (0 : Int32)) 30 (-1 : Int32)) 31 (-1 : Int32)) 42 (0 : Int32)) 45 x1) 7 x1) G := CI.rg (k := 7) (x := x1) rfl (by decide) (by decide) j_10 ⟨by omega, by omega⟩
  unfold cb_X4_start_44
  refine WP.bind (cs_X3_start hfu (fup (fup (fup (fup (fup (fup (fup F 28 (0 : Int32)) 29 (0 : Int32)) 30 (-1 : Int32)) 31 (-1 : Int32)) 42 (0 : Int32)) 45 x1) 7 x1) G j_12) ?_
  rintro r13 F13 G13 ⟨hI13, hB13, hT13, hO13, hK13, hp13⟩
  dsimp only
  have q_14 := hI.r 10 rfl
  have q_15 := hI13.r 10 rfl
  have e_16 : (F13 10).toInt = (F 10).toInt := hO13
  unfold cb_X4_start_51
  refine WP.bind (cs_X2_start hfu F13 G13 hI13) ?_
  rintro r17 F17 G17 ⟨hI17, hB17, hT17, hp17⟩
  dsimp only
  have q_18 := hI17.r 10 rfl
  have e_19 : (F17 10).toInt = 0 := hp17
  unfold cb_X4_start_58
  refine WP.ret ?_
  exact ⟨hI17, (KB.tr (KB.tr (KB.f (by decide) (KB.f (by decide) (KB.f (by decide) (KB.f (by decide) (KB.f (by decide) (KB.f (by decide) (KB.f (by decide) (KB.rf : KB F G F G)))))))) hB13) hB17), (KT.tr (KT.tr (KT.f (by decide) (KT.f (by decide) (KT.f (by decide) (KT.f (by decide) (KT.f (by decide) (KT.f (by decide) (KT.f (by decide) (rfl : KT F F)))))))) hT13) hT17), (show (F17 10).toInt = 0 by omega)⟩
theorem cs_X8_addFunction {fu : Nat} (hfu : 8589934592 ≤ fu) (x1 : Int32) (x2 : Int32) (F : PF) (G : PG) (hI : CI F G) (hz_x2 : x2 = 0 ∨ x2 = 1) : WP (cf_X8_addFunction fu x1 x2 F G) (fun r' F' G' => CI F' G' ∧ KB F G F' G' ∧ KT F F' ∧ KO F F' ∧ KK F F' ∧ True) := by
  have q_x2 := b_rng hz_x2
  unfold cf_X8_addFunction
  unfold cb_X8_addFunction_0
  refine WP.ite (fun c_1 => ?_) (fun c_1 => ?_)
  · skip
    have l_2 : (450 : Int32).toInt = 450 := rfl
    have q_3 := hI.r 74 rfl
    have e_4 := i_le.mp (show (450 : Int32) ≤ (F 74) from c_1)
    unfold cb_X8_addFunction_96
    refine WP.ret ?_
    exact ⟨hI, (KB.rf : KB F G F G), (rfl : KT F F), (rfl : KO F F), (rfl : KK F F), trivial⟩
  · skip
    have l_5 : (450 : Int32).toInt = 450 := rfl
    have q_6 := hI.r 74 rfl
    have e_7 := mt i_le.mpr (show ¬ ((450 : Int32) ≤ (F 74)) from c_1)
    unfold cb_X8_addFunction_10
    refine WP.ix (show vp_in (F 74) 450 from vp_in_iff.mpr ⟨by omega, by omega⟩) ?_
    have j_8 : CI F (gup G 77 (F 74).toNatClampNeg x1) := CI.g (by decide) hI
    unfold cb_X8_addFunction_20
    have q_9 := i_rng x2
    refine WP.bind (cs_X11_truth hfu x2 F (gup G 77 (F 74).toNatClampNeg x1) j_8 hz_x2) ?_
    rintro r10 _ _ ⟨rfl, rfl, hp10⟩
    dsimp only
    unfold cb_X8_addFunction_32
    refine WP.ix (show vp_in (F 74) 450 from vp_in_iff.mpr ⟨by omega, by omega⟩) ?_
    have j_11 : CI F (gup (gup G 77 (F 74).toNatClampNeg x1) 82 (F 74).toNatClampNeg r10) := CI.g (by decide) j_8
    unfold cb_X8_addFunction_33
    refine WP.ix (show vp_in (F 74) 450 from vp_in_iff.mpr ⟨by omega, by omega⟩) ?_
    have q_13 := hI.r 85 rfl
    have j_12 : CI F (gup (gup (gup G 77 (F 74).toNatClampNeg x1) 82 (F 74).toNatClampNeg r10) 83 (F 74).toNatClampNeg (F 85)) := CI.g83 j_11 ⟨by omega, by omega⟩
    unfold cb_X8_addFunction_46
    refine WP.ix (show vp_in (F 74) 450 from vp_in_iff.mpr ⟨by omega, by omega⟩) ?_
    have j_14 : CI F (gup (gup (gup (gup G 77 (F 74).toNatClampNeg x1) 82 (F 74).toNatClampNeg r10) 83 (F 74).toNatClampNeg (F 85)) 78 (F 74).toNatClampNeg (0 : Int32)) := CI.g (by decide) j_12
    unfold cb_X8_addFunction_56
    refine WP.ix (show vp_in (F 74) 450 from vp_in_iff.mpr ⟨by omega, by omega⟩) ?_
    have j_15 : CI F (gup (gup (gup (gup (gup G 77 (F 74).toNatClampNeg x1) 82 (F 74).toNatClampNeg r10) 83 (F 74).toNatClampNeg (F 85)) 78 (F 74).toNatClampNeg (0 : Int32)) 81 (F 74).toNatClampNeg (0 : Int32)) := CI.g (by decide) j_14
    unfold cb_X8_addFunction_66
    refine WP.ix (show vp_in (F 74) 450 from vp_in_iff.mpr ⟨by omega, by omega⟩) ?_
    have j_16 : CI F (gup (gup (gup (gup (gup (gup G 77 (F 74).toNatClampNeg x1) 82 (F 74).toNatClampNeg r10) 83 (F 74).toNatClampNeg (F 85)) 78 (F 74).toNatClampNeg (0 : Int32)) 81 (F 74).toNatClampNeg (0 : Int32)) 79 (F 74).toNatClampNeg (4 : Int32)) := CI.g (by decide) j_15
    unfold cb_X8_addFunction_76
    refine WP.ix (show vp_in (F 74) 450 from vp_in_iff.mpr ⟨by omega, by omega⟩) ?_
    have j_17 : CI F (gup (gup (gup (gup (gup (gup (gup G 77 (F 74).toNatClampNeg x1) 82 (F 74).toNatClampNeg r10) 83 (F 74).toNatClampNeg (F 85)) 78 (F 74).toNatClampNeg (0 : Int32)) 81 (F 74).toNatClampNeg (0 : Int32)) 79 (F 74).toNatClampNeg (4 : Int32)) 80 (F 74).toNatClampNeg (0 : Int32)) := CI.g (by decide) j_16
    unfold cb_X8_addFunction_86
    first | have e_18 : ((F 74) + (1 : Int32)).toInt = (F 74).toInt + (1) := i_addn (F 74) rfl (by omega) (by omega) | have e_19 := i_rng ((F 74) + (1 : Int32))
    have j_20 : CI (fup F 74 ((F 74) + (1 : Int32))) (gup (gup (gup (gup (gup (gup (gup G 77 (F 74).toNatClampNeg x1) 82 (F 74).toNatClampNeg r10) 83 (F 74).toNatClampNeg (F 85)) 78 (F 74).toNatClampNeg (0 : Int32)) 81 (F 74).toNatClampNeg (0 : Int32)) 79 (F 74).toNatClampNeg (4 : Int32)) 80 (F 74).toNatClampNeg (0 : Int32)) := CI.rg (k := 74) (x := ((F 74) + (1 : Int32))) rfl (by decide) (by decide) j_17 ⟨by omega, by omega⟩
    unfold cb_X8_addFunction_96
    refine WP.ret ?_
    exact ⟨j_20, (KB.f (by decide) (KB.g (by decide) (KB.g (by decide) (KB.g (by decide) (KB.g (by decide) (KB.g (by decide) (KB.g (by decide) (KB.g (by decide) (KB.rf : KB F G F G))))))))), (KT.f (by decide) (rfl : KT F F)), (KO.f (by decide) (rfl : KO F F)), (KK.f (by decide) (rfl : KK F F)), trivial⟩
theorem cs_X5_enter {fu : Nat} (hfu : 8589934592 ≤ fu) (F : PF) (G : PG) (hI : CI F G) : WP (cf_X5_enter fu F G) (fun r' F' G' => CI F' G' ∧ KB F G F' G' ∧ KT F F' ∧ KO F F' ∧ KK F F' ∧ True) := by
  unfold cf_X5_enter
  unfold cb_X5_enter_0
  have q_1 := i_rng (F 42)
  first | have e_2 : ((F 42) + (1 : Int32)).toInt = (F 42).toInt + (1) := i_addn (F 42) rfl (by omega) (by omega) | have e_3 := i_rng ((F 42) + (1 : Int32))
  have j_4 : CI (fup F 42 ((F 42) + (1 : Int32))) G := CI.fr rfl hI
  unfold cb_X5_enter_10
  refine WP.ret ?_
  exact ⟨j_4, (KB.f (by decide) (KB.rf : KB F G F G)), (KT.f (by decide) (rfl : KT F F)), (KO.f (by decide) (rfl : KO F F)), (KK.f (by decide) (rfl : KK F F)), trivial⟩
theorem cs_X5_enterFunction {fu : Nat} (hfu : 8589934592 ≤ fu) (x1 : Int32) (F : PF) (G : PG) (hI : CI F G) (hz_x1 : x1 = 0 ∨ x1 = 1) : WP (cf_X5_enterFunction fu x1 F G) (fun r' F' G' => CI F' G' ∧ KB F G F' G' ∧ KT F F' ∧ KO F F' ∧ KK F F' ∧ True) := by
  have q_x1 := b_rng hz_x1
  unfold cf_X5_enterFunction
  unfold cb_X5_enterFunction_0
  have q_1 := i_rng x1
  refine WP.bz (show x1 = 0 ∨ x1 = 1 from hz_x1) ?_
  have q_2 := b_rng (show x1 = 0 ∨ x1 = 1 from hz_x1)
  have j_3 : CI (fup F 48 x1) G := CI.rg (k := 48) (x := x1) rfl (by decide) (by decide) hI ⟨by omega, by omega⟩
  unfold cb_X5_enterFunction_5
  have l_4 : (0 : Int32).toInt = 0 := rfl
  have j_5 : CI (fup (fup F 48 x1) 49 (0 : Int32)) G := CI.fr rfl j_3
  unfold cb_X5_enterFunction_10
  have j_6 : CI (fup (fup (fup F 48 x1) 49 (0 : Int32)) 50 (0 : Int32)) G := CI.fr rfl j_5
  unfold cb_X5_enterFunction_15
  refine WP.bind (cs_X5_enter hfu (fup (fup (fup F 48 x1) 49 (0 : Int32)) 50 (0 : Int32)) G j_6) ?_
  rintro r7 F7 G7 ⟨hI7, hB7, hT7, hO7, hK7, hp7⟩
  dsimp only
  have q_8 := hI.r 10 rfl
  have q_9 := hI7.r 10 rfl
  have e_10 : (F7 10).toInt = (F 10).toInt := hO7
  unfold cb_X5_enterFunction_19
  refine WP.ret ?_
  exact ⟨hI7, (KB.tr (KB.f (by decide) (KB.f (by decide) (KB.f (by decide) (KB.rf : KB F G F G)))) hB7), (KT.tr (KT.f (by decide) (KT.f (by decide) (KT.f (by decide) (rfl : KT F F)))) hT7), (KO.tr (KO.f (by decide) (KO.f (by decide) (KO.f (by decide) (rfl : KO F F)))) hO7), (KK.tr (KK.f (by decide) (KK.f (by decide) (KK.f (by decide) (rfl : KK F F)))) hK7), trivial⟩
theorem cs_X5_tellFunction {fu : Nat} (hfu : 8589934592 ≤ fu) (x1 : Int32) (x2 : Int32) (x3 : Int32) (F : PF) (G : PG) (hI : CI F G) : WP (cf_X5_tellFunction fu x1 x2 x3 F G) (fun r' F' G' => CI F' G' ∧ KB F G F' G' ∧ KT F F' ∧ KO F F' ∧ KK F F' ∧ True) := by
  unfold cf_X5_tellFunction
  unfold cb_X5_tellFunction_0
  have q_1 := i_rng x1
  refine WP.bind (cs_X5_known hfu x1 F G hI) ?_
  rintro r2 _ _ ⟨rfl, rfl, hp2⟩
  dsimp only
  unfold cb_X5_tellFunction_5
  have q_3 := i_rng r2
  refine WP.bind (cs_X5_kind hfu r2 F G hI) ?_
  rintro r4 _ _ ⟨rfl, rfl, hp4⟩
  dsimp only
  have q_5 := i_rng r4
  unfold cb_X5_tellFunction_13
  refine WP.ite (fun c_6 => ?_) (fun c_6 => ?_)
  · skip
    have l_7 : (4 : Int32).toInt = 4 := rfl
    have e_8 := i_eq.mp (show r4 = (4 : Int32) from c_6)
    unfold cb_X5_tellFunction_17
    refine WP.bind (cs_X5_value hfu r2 F G hI) ?_
    rintro r9 _ _ ⟨rfl, rfl, hp9⟩
    dsimp only
    unfold cb_X5_tellFunction_23
    refine WP.ite (fun c_10 => ?_) (fun c_10 => ?_)
    · skip
      have q_11 := i_rng r9
      have q_12 := i_rng x3
      have e_13 := i_eq.mp (show r9 = x3 from c_10)
      unfold cb_X5_tellFunction_33
      refine WP.ite (fun c_14 => ?_) (fun c_14 => ?_)
      · skip
        have l_15 : (40 : Int32).toInt = 40 := rfl
        have e_16 := i_lt.mp (show x3 < (40 : Int32) from c_14)
        unfold cb_X5_tellFunction_46
        refine WP.ret ?_
        exact ⟨hI, (KB.rf : KB F G F G), (rfl : KT F F), (rfl : KO F F), (rfl : KK F F), trivial⟩
      · skip
        have l_17 : (40 : Int32).toInt = 40 := rfl
        have e_18 := mt i_lt.mpr (show ¬ (x3 < (40 : Int32)) from c_14)
        unfold cb_X5_tellFunction_39
        have l_19 : (8 : Int32).toInt = 8 := rfl
        have q_20 := i_rng x2
        refine WP.bind (cs_X5_note hfu (8 : Int32) x2 F G hI) ?_
        rintro r21 F21 G21 ⟨hI21, hB21, hT21, hO21, hK21, hp21⟩
        dsimp only
        have q_22 := hI.r 10 rfl
        have q_23 := hI21.r 10 rfl
        have e_24 : (F21 10).toInt = (F 10).toInt := hO21
        unfold cb_X5_tellFunction_46
        refine WP.ret ?_
        exact ⟨hI21, (KB.tr (KB.rf : KB F G F G) hB21), (KT.tr (rfl : KT F F) hT21), (KO.tr (rfl : KO F F) hO21), (KK.tr (rfl : KK F F) hK21), trivial⟩
    · skip
      have q_25 := i_rng r9
      have q_26 := i_rng x3
      have e_27 := mt i_eq.mpr (show ¬ (r9 = x3) from c_10)
      unfold cb_X5_tellFunction_27
      have l_28 : (1 : Int32).toInt = 1 := rfl
      have q_29 := i_rng x2
      refine WP.bind (cs_X5_note hfu (1 : Int32) x2 F G hI) ?_
      rintro r30 F30 G30 ⟨hI30, hB30, hT30, hO30, hK30, hp30⟩
      dsimp only
      have q_31 := hI.r 10 rfl
      have q_32 := hI30.r 10 rfl
      have e_33 : (F30 10).toInt = (F 10).toInt := hO30
      unfold cb_X5_tellFunction_33
      refine WP.ite (fun c_34 => ?_) (fun c_34 => ?_)
      · skip
        have l_35 : (40 : Int32).toInt = 40 := rfl
        have e_36 := i_lt.mp (show x3 < (40 : Int32) from c_34)
        unfold cb_X5_tellFunction_46
        refine WP.ret ?_
        exact ⟨hI30, (KB.tr (KB.rf : KB F G F G) hB30), (KT.tr (rfl : KT F F) hT30), (KO.tr (rfl : KO F F) hO30), (KK.tr (rfl : KK F F) hK30), trivial⟩
      · skip
        have l_37 : (40 : Int32).toInt = 40 := rfl
        have e_38 := mt i_lt.mpr (show ¬ (x3 < (40 : Int32)) from c_34)
        unfold cb_X5_tellFunction_39
        have l_39 : (8 : Int32).toInt = 8 := rfl
        refine WP.bind (cs_X5_note hfu (8 : Int32) x2 F30 G30 hI30) ?_
        rintro r40 F40 G40 ⟨hI40, hB40, hT40, hO40, hK40, hp40⟩
        dsimp only
        have q_41 := hI40.r 10 rfl
        have e_42 : (F40 10).toInt = (F30 10).toInt := hO40
        unfold cb_X5_tellFunction_46
        refine WP.ret ?_
        exact ⟨hI40, (KB.tr (KB.tr (KB.rf : KB F G F G) hB30) hB40), (KT.tr (KT.tr (rfl : KT F F) hT30) hT40), (KO.tr (KO.tr (rfl : KO F F) hO30) hO40), (KK.tr (KK.tr (rfl : KK F F) hK30) hK40), trivial⟩
  · skip
    have l_43 : (4 : Int32).toInt = 4 := rfl
    have e_44 := mt i_eq.mpr (show ¬ (r4 = (4 : Int32)) from c_6)
    unfold cb_X5_tellFunction_27
    have l_45 : (1 : Int32).toInt = 1 := rfl
    have q_46 := i_rng x2
    refine WP.bind (cs_X5_note hfu (1 : Int32) x2 F G hI) ?_
    rintro r47 F47 G47 ⟨hI47, hB47, hT47, hO47, hK47, hp47⟩
    dsimp only
    have q_48 := hI.r 10 rfl
    have q_49 := hI47.r 10 rfl
    have e_50 : (F47 10).toInt = (F 10).toInt := hO47
    unfold cb_X5_tellFunction_33
    refine WP.ite (fun c_51 => ?_) (fun c_51 => ?_)
    · skip
      have q_52 := i_rng x3
      have l_53 : (40 : Int32).toInt = 40 := rfl
      have e_54 := i_lt.mp (show x3 < (40 : Int32) from c_51)
      unfold cb_X5_tellFunction_46
      refine WP.ret ?_
      exact ⟨hI47, (KB.tr (KB.rf : KB F G F G) hB47), (KT.tr (rfl : KT F F) hT47), (KO.tr (rfl : KO F F) hO47), (KK.tr (rfl : KK F F) hK47), trivial⟩
    · skip
      have q_55 := i_rng x3
      have l_56 : (40 : Int32).toInt = 40 := rfl
      have e_57 := mt i_lt.mpr (show ¬ (x3 < (40 : Int32)) from c_51)
      unfold cb_X5_tellFunction_39
      have l_58 : (8 : Int32).toInt = 8 := rfl
      refine WP.bind (cs_X5_note hfu (8 : Int32) x2 F47 G47 hI47) ?_
      rintro r59 F59 G59 ⟨hI59, hB59, hT59, hO59, hK59, hp59⟩
      dsimp only
      have q_60 := hI59.r 10 rfl
      have e_61 : (F59 10).toInt = (F47 10).toInt := hO59
      unfold cb_X5_tellFunction_46
      refine WP.ret ?_
      exact ⟨hI59, (KB.tr (KB.tr (KB.rf : KB F G F G) hB47) hB59), (KT.tr (KT.tr (rfl : KT F F) hT47) hT59), (KO.tr (KO.tr (rfl : KO F F) hO47) hO59), (KK.tr (KK.tr (rfl : KK F F) hK47) hK59), trivial⟩
theorem cs_X5_announce {fu : Nat} (hfu : 8589934592 ≤ fu) (x1 : Int32) (x2 : Int32) (x3 : Int32) (F : PF) (G : PG) (hI : CI F G) : WP (cf_X5_announce fu x1 x2 x3 F G) (fun r' F' G' => CI F' G' ∧ KB F G F' G' ∧ KT F F' ∧ KO F F' ∧ KK F F' ∧ True) := by
  unfold cf_X5_announce
  unfold cb_X5_announce_0
  have q_1 := i_rng x1
  refine WP.bind (cs_X5_known hfu x1 F G hI) ?_
  rintro r2 _ _ ⟨rfl, rfl, hp2⟩
  dsimp only
  unfold cb_X5_announce_5
  refine WP.ite (fun c_3 => ?_) (fun c_3 => ?_)
  · skip
    have q_4 := i_rng r2
    have l_5 : (-1 : Int32).toInt = -1 := rfl
    have e_6 := i_eq.mp (show r2 = (-1 : Int32) from c_3)
    unfold cb_X5_announce_9
    have q_7 := i_rng x2
    have l_8 : (4 : Int32).toInt = 4 := rfl
    have q_9 := i_rng x3
    have l_10 : (0 : Int32).toInt = 0 := rfl
    refine WP.bind (cs_X5_install hfu x1 x2 (4 : Int32) x3 (0 : Int32) F G hI) ?_
    rintro r11 F11 G11 ⟨hI11, hB11, hT11, hO11, hK11, hp11⟩
    dsimp only
    have q_12 := hI.r 10 rfl
    have q_13 := hI11.r 10 rfl
    have e_14 : (F11 10).toInt = (F 10).toInt := hO11
    unfold cb_X5_announce_18
    refine WP.ret ?_
    exact ⟨hI11, (KB.tr (KB.rf : KB F G F G) hB11), (KT.tr (rfl : KT F F) hT11), (KO.tr (rfl : KO F F) hO11), (KK.tr (rfl : KK F F) hK11), trivial⟩
  · skip
    have q_15 := i_rng r2
    have l_16 : (-1 : Int32).toInt = -1 := rfl
    have e_17 := mt i_eq.mpr (show ¬ (r2 = (-1 : Int32)) from c_3)
    unfold cb_X5_announce_18
    refine WP.ret ?_
    exact ⟨hI, (KB.rf : KB F G F G), (rfl : KT F F), (rfl : KO F F), (rfl : KK F F), trivial⟩
theorem cs_X4_startFunction {fu : Nat} (hfu : 8589934592 ≤ fu) (x1 : Int32) (x2 : Int32) (x3 : Int32) (F : PF) (G : PG) (hI : CI F G) (hz_x3 : x3 = 0 ∨ x3 = 1) : WP (cf_X4_startFunction fu x1 x2 x3 F G) (fun r' F' G' => CI F' G' ∧ KB F G F' G' ∧ KT F F' ∧ KO F F' ∧ KK F F' ∧ True) := by
  have q_x3 := b_rng hz_x3
  unfold cf_X4_startFunction
  unfold cb_X4_startFunction_0
  refine WP.ite (fun c_1 => ?_) (fun c_1 => ?_)
  · skip
    have q_2 := hI.r 45 rfl
    have l_3 : (0 : Int32).toInt = 0 := rfl
    have e_4 := i_eq.mp (show (F 45) = (0 : Int32) from c_1)
    unfold cb_X4_startFunction_26
    have q_5 := i_rng x2
    have q_6 := i_rng x3
    refine WP.bind (cs_X8_addFunction hfu x2 x3 F G hI hz_x3) ?_
    rintro r7 F7 G7 ⟨hI7, hB7, hT7, hO7, hK7, hp7⟩
    dsimp only
    have q_8 := hI.r 10 rfl
    have q_9 := hI7.r 10 rfl
    have e_10 : (F7 10).toInt = (F 10).toInt := hO7
    unfold cb_X4_startFunction_35
    have q_11 := i_rng x1
    have q_12 := i_rng (F7 28)
    refine WP.bind (cs_X5_announce hfu x1 x2 (F7 28) F7 G7 hI7) ?_
    rintro r13 F13 G13 ⟨hI13, hB13, hT13, hO13, hK13, hp13⟩
    dsimp only
    have q_14 := hI13.r 10 rfl
    have e_15 : (F13 10).toInt = (F7 10).toInt := hO13
    unfold cb_X4_startFunction_48
    refine WP.ite (fun c_16 => ?_) (fun c_16 => ?_)
    · skip
      have q_17 := i_rng (F13 27)
      have e_18 := i_eq.mp (show x1 = (F13 27) from c_16)
      unfold cb_X4_startFunction_56
      refine WP.ite (fun c_19 => ?_) (fun c_19 => ?_)
      · skip
        have q_20 := i_rng (F13 76)
        have l_21 : (-1 : Int32).toInt = -1 := rfl
        have e_22 := i_eq.mp (show (F13 76) = (-1 : Int32) from c_19)
        unfold cb_X4_startFunction_67
        have q_23 := i_rng (F13 28)
        have j_24 : CI (fup F13 76 (F13 28)) G13 := CI.fr rfl hI13
        unfold cb_X4_startFunction_78
        refine WP.bind (cs_X8_has hfu (F13 28) (fup F13 76 (F13 28)) G13 j_24) ?_
        rintro r25 _ _ ⟨rfl, rfl, hp25⟩
        dsimp only
        have q_26 := b_rng (hp25.1)
        unfold cb_X4_startFunction_89
        refine WP.ite (fun c_27 => ?_) (fun c_27 => ?_)
        · skip
          have e_28 := i_eq.mp (show r25 = (0 : Int32) from c_27)
          unfold cb_X4_startFunction_111
          refine WP.bind (cs_X5_enterFunction hfu x3 (fup F13 76 (F13 28)) G13 j_24 hz_x3) ?_
          rintro r29 F29 G29 ⟨hI29, hB29, hT29, hO29, hK29, hp29⟩
          dsimp only
          have q_30 := hI29.r 10 rfl
          have e_31 : (F29 10).toInt = (F13 10).toInt := hO29
          unfold cb_X4_startFunction_119
          refine WP.ret ?_
          exact ⟨hI29, (KB.tr (KB.f (by decide) (KB.tr (KB.tr (KB.rf : KB F G F G) hB7) hB13)) hB29), (KT.tr (KT.f (by decide) (KT.tr (KT.tr (rfl : KT F F) hT7) hT13)) hT29), (KO.tr (KO.f (by decide) (KO.tr (KO.tr (rfl : KO F F) hO7) hO13)) hO29), (KK.tr (KK.f (by decide) (KK.tr (KK.tr (rfl : KK F F) hK7) hK13)) hK29), trivial⟩
        · skip
          have e_32 := mt i_eq.mpr (show ¬ (r25 = (0 : Int32)) from c_27)
          unfold cb_X4_startFunction_92
          refine WP.ix (show vp_in (F13 28) 450 from vp_in_iff.mpr ⟨by omega, by omega⟩) ?_
          have j_33 : CI (fup F13 76 (F13 28)) (gup G13 80 (F13 28).toNatClampNeg (F13 6)) := CI.g (by decide) j_24
          unfold cb_X4_startFunction_111
          refine WP.bind (cs_X5_enterFunction hfu x3 (fup F13 76 (F13 28)) (gup G13 80 (F13 28).toNatClampNeg (F13 6)) j_33 hz_x3) ?_
          rintro r34 F34 G34 ⟨hI34, hB34, hT34, hO34, hK34, hp34⟩
          dsimp only
          have q_35 := hI34.r 10 rfl
          have e_36 : (F34 10).toInt = (F13 10).toInt := hO34
          unfold cb_X4_startFunction_119
          refine WP.ret ?_
          exact ⟨hI34, (KB.tr (KB.g (by decide) (KB.f (by decide) (KB.tr (KB.tr (KB.rf : KB F G F G) hB7) hB13))) hB34), (KT.tr (KT.f (by decide) (KT.tr (KT.tr (rfl : KT F F) hT7) hT13)) hT34), (KO.tr (KO.f (by decide) (KO.tr (KO.tr (rfl : KO F F) hO7) hO13)) hO34), (KK.tr (KK.f (by decide) (KK.tr (KK.tr (rfl : KK F F) hK7) hK13)) hK34), trivial⟩
      · skip
        have q_37 := i_rng (F13 76)
        have l_38 : (-1 : Int32).toInt = -1 := rfl
        have e_39 := mt i_eq.mpr (show ¬ ((F13 76) = (-1 : Int32)) from c_19)
        unfold cb_X4_startFunction_78
        have q_40 := i_rng (F13 28)
        refine WP.bind (cs_X8_has hfu (F13 28) F13 G13 hI13) ?_
        rintro r41 _ _ ⟨rfl, rfl, hp41⟩
        dsimp only
        have q_42 := b_rng (hp41.1)
        unfold cb_X4_startFunction_89
        refine WP.ite (fun c_43 => ?_) (fun c_43 => ?_)
        · skip
          have e_44 := i_eq.mp (show r41 = (0 : Int32) from c_43)
          unfold cb_X4_startFunction_111
          refine WP.bind (cs_X5_enterFunction hfu x3 F13 G13 hI13 hz_x3) ?_
          rintro r45 F45 G45 ⟨hI45, hB45, hT45, hO45, hK45, hp45⟩
          dsimp only
          have q_46 := hI45.r 10 rfl
          have e_47 : (F45 10).toInt = (F13 10).toInt := hO45
          unfold cb_X4_startFunction_119
          refine WP.ret ?_
          exact ⟨hI45, (KB.tr (KB.tr (KB.tr (KB.rf : KB F G F G) hB7) hB13) hB45), (KT.tr (KT.tr (KT.tr (rfl : KT F F) hT7) hT13) hT45), (KO.tr (KO.tr (KO.tr (rfl : KO F F) hO7) hO13) hO45), (KK.tr (KK.tr (KK.tr (rfl : KK F F) hK7) hK13) hK45), trivial⟩
        · skip
          have e_48 := mt i_eq.mpr (show ¬ (r41 = (0 : Int32)) from c_43)
          unfold cb_X4_startFunction_92
          refine WP.ix (show vp_in (F13 28) 450 from vp_in_iff.mpr ⟨by omega, by omega⟩) ?_
          have j_49 : CI F13 (gup G13 80 (F13 28).toNatClampNeg (F13 6)) := CI.g (by decide) hI13
          unfold cb_X4_startFunction_111
          refine WP.bind (cs_X5_enterFunction hfu x3 F13 (gup G13 80 (F13 28).toNatClampNeg (F13 6)) j_49 hz_x3) ?_
          rintro r50 F50 G50 ⟨hI50, hB50, hT50, hO50, hK50, hp50⟩
          dsimp only
          have q_51 := hI50.r 10 rfl
          have e_52 : (F50 10).toInt = (F13 10).toInt := hO50
          unfold cb_X4_startFunction_119
          refine WP.ret ?_
          exact ⟨hI50, (KB.tr (KB.g (by decide) (KB.tr (KB.tr (KB.rf : KB F G F G) hB7) hB13)) hB50), (KT.tr (KT.tr (KT.tr (rfl : KT F F) hT7) hT13) hT50), (KO.tr (KO.tr (KO.tr (rfl : KO F F) hO7) hO13) hO50), (KK.tr (KK.tr (KK.tr (rfl : KK F F) hK7) hK13) hK50), trivial⟩
    · skip
      have q_53 := i_rng (F13 27)
      have e_54 := mt i_eq.mpr (show ¬ (x1 = (F13 27)) from c_16)
      unfold cb_X4_startFunction_78
      have q_55 := i_rng (F13 28)
      refine WP.bind (cs_X8_has hfu (F13 28) F13 G13 hI13) ?_
      rintro r56 _ _ ⟨rfl, rfl, hp56⟩
      dsimp only
      have q_57 := b_rng (hp56.1)
      unfold cb_X4_startFunction_89
      refine WP.ite (fun c_58 => ?_) (fun c_58 => ?_)
      · skip
        have e_59 := i_eq.mp (show r56 = (0 : Int32) from c_58)
        unfold cb_X4_startFunction_111
        refine WP.bind (cs_X5_enterFunction hfu x3 F13 G13 hI13 hz_x3) ?_
        rintro r60 F60 G60 ⟨hI60, hB60, hT60, hO60, hK60, hp60⟩
        dsimp only
        have q_61 := hI60.r 10 rfl
        have e_62 : (F60 10).toInt = (F13 10).toInt := hO60
        unfold cb_X4_startFunction_119
        refine WP.ret ?_
        exact ⟨hI60, (KB.tr (KB.tr (KB.tr (KB.rf : KB F G F G) hB7) hB13) hB60), (KT.tr (KT.tr (KT.tr (rfl : KT F F) hT7) hT13) hT60), (KO.tr (KO.tr (KO.tr (rfl : KO F F) hO7) hO13) hO60), (KK.tr (KK.tr (KK.tr (rfl : KK F F) hK7) hK13) hK60), trivial⟩
      · skip
        have e_63 := mt i_eq.mpr (show ¬ (r56 = (0 : Int32)) from c_58)
        unfold cb_X4_startFunction_92
        refine WP.ix (show vp_in (F13 28) 450 from vp_in_iff.mpr ⟨by omega, by omega⟩) ?_
        have j_64 : CI F13 (gup G13 80 (F13 28).toNatClampNeg (F13 6)) := CI.g (by decide) hI13
        unfold cb_X4_startFunction_111
        refine WP.bind (cs_X5_enterFunction hfu x3 F13 (gup G13 80 (F13 28).toNatClampNeg (F13 6)) j_64 hz_x3) ?_
        rintro r65 F65 G65 ⟨hI65, hB65, hT65, hO65, hK65, hp65⟩
        dsimp only
        have q_66 := hI65.r 10 rfl
        have e_67 : (F65 10).toInt = (F13 10).toInt := hO65
        unfold cb_X4_startFunction_119
        refine WP.ret ?_
        exact ⟨hI65, (KB.tr (KB.g (by decide) (KB.tr (KB.tr (KB.rf : KB F G F G) hB7) hB13)) hB65), (KT.tr (KT.tr (KT.tr (rfl : KT F F) hT7) hT13) hT65), (KO.tr (KO.tr (KO.tr (rfl : KO F F) hO7) hO13) hO65), (KK.tr (KK.tr (KK.tr (rfl : KK F F) hK7) hK13) hK65), trivial⟩
  · skip
    have q_68 := hI.r 45 rfl
    have l_69 : (0 : Int32).toInt = 0 := rfl
    have e_70 := mt i_eq.mpr (show ¬ ((F 45) = (0 : Int32)) from c_1)
    unfold cb_X4_startFunction_10
    have q_71 := i_rng x1
    have q_72 := i_rng x2
    have q_73 := i_rng (F 28)
    refine WP.bind (cs_X5_tellFunction hfu x1 x2 (F 28) F G hI) ?_
    rintro r74 F74 G74 ⟨hI74, hB74, hT74, hO74, hK74, hp74⟩
    dsimp only
    have q_75 := hI.r 10 rfl
    have q_76 := hI74.r 10 rfl
    have e_77 : (F74 10).toInt = (F 10).toInt := hO74
    unfold cb_X4_startFunction_23
    unfold cb_X4_startFunction_78
    have q_78 := i_rng (F74 28)
    refine WP.bind (cs_X8_has hfu (F74 28) F74 G74 hI74) ?_
    rintro r79 _ _ ⟨rfl, rfl, hp79⟩
    dsimp only
    have q_80 := b_rng (hp79.1)
    unfold cb_X4_startFunction_89
    refine WP.ite (fun c_81 => ?_) (fun c_81 => ?_)
    · skip
      have e_82 := i_eq.mp (show r79 = (0 : Int32) from c_81)
      unfold cb_X4_startFunction_111
      have q_83 := i_rng x3
      refine WP.bind (cs_X5_enterFunction hfu x3 F74 G74 hI74 hz_x3) ?_
      rintro r84 F84 G84 ⟨hI84, hB84, hT84, hO84, hK84, hp84⟩
      dsimp only
      have q_85 := hI84.r 10 rfl
      have e_86 : (F84 10).toInt = (F74 10).toInt := hO84
      unfold cb_X4_startFunction_119
      refine WP.ret ?_
      exact ⟨hI84, (KB.tr (KB.tr (KB.rf : KB F G F G) hB74) hB84), (KT.tr (KT.tr (rfl : KT F F) hT74) hT84), (KO.tr (KO.tr (rfl : KO F F) hO74) hO84), (KK.tr (KK.tr (rfl : KK F F) hK74) hK84), trivial⟩
    · skip
      have e_87 := mt i_eq.mpr (show ¬ (r79 = (0 : Int32)) from c_81)
      unfold cb_X4_startFunction_92
      refine WP.ix (show vp_in (F74 28) 450 from vp_in_iff.mpr ⟨by omega, by omega⟩) ?_
      have j_88 : CI F74 (gup G74 80 (F74 28).toNatClampNeg (F74 6)) := CI.g (by decide) hI74
      unfold cb_X4_startFunction_111
      have q_89 := i_rng x3
      refine WP.bind (cs_X5_enterFunction hfu x3 F74 (gup G74 80 (F74 28).toNatClampNeg (F74 6)) j_88 hz_x3) ?_
      rintro r90 F90 G90 ⟨hI90, hB90, hT90, hO90, hK90, hp90⟩
      dsimp only
      have q_91 := hI90.r 10 rfl
      have e_92 : (F90 10).toInt = (F74 10).toInt := hO90
      unfold cb_X4_startFunction_119
      refine WP.ret ?_
      exact ⟨hI90, (KB.tr (KB.g (by decide) (KB.tr (KB.rf : KB F G F G) hB74)) hB90), (KT.tr (KT.tr (rfl : KT F F) hT74) hT90), (KO.tr (KO.tr (rfl : KO F F) hO74) hO90), (KK.tr (KK.tr (rfl : KK F F) hK74) hK90), trivial⟩
theorem cs_X4_condition {fu : Nat} (hfu : 8589934592 ≤ fu) (F : PF) (G : PG) (hI : CI F G) : WP (cf_X4_condition fu F G) (fun r' F' G' => CI F' G' ∧ KB F G F' G' ∧ KT F F' ∧ KO F F' ∧ KS F F' ∧ True) := by
  unfold cf_X4_condition
  unfold cb_X4_condition_0
  have l_1 : (19 : Int32).toInt = 19 := rfl
  refine WP.bind (cs_X2_opens hfu (19 : Int32) F G hI (show (19 : Int32).toInt ≠ -2 by omega)) ?_
  rintro r2 F2 G2 ⟨hI2, hB2, hT2, hS2, hp2⟩
  dsimp only
  have q_3 := i_rng (F 11)
  have q_4 := i_rng (F2 11)
  have e_5 : (F 11).toInt = -2 → (F2 11).toInt = -2 := hS2
  have q_6 := b_rng (hp2.1)
  have q_7 := hI.r 10 rfl
  have q_8 := hI2.r 10 rfl
  have e_9 : r2.toInt = 1 → (F2 10).toInt = (F 10).toInt + 1 ∧ (F 10).toInt < 40 ∧ (F 11).toInt ≠ -2 := hp2.2.1
  have e_10 : r2.toInt = 0 → (F2 10).toInt = (F 10).toInt ∧ (F2 11).toInt = -2 := hp2.2.2
  unfold cb_X4_condition_9
  refine WP.ite (fun c_11 => ?_) (fun c_11 => ?_)
  · skip
    have l_12 : (0 : Int32).toInt = 0 := rfl
    have e_13 := i_eq.mp (show r2 = (0 : Int32) from c_11)
    unfold cb_X4_condition_28
    refine WP.ret ?_
    exact ⟨hI2, (KB.tr (KB.rf : KB F G F G) hB2), (KT.tr (rfl : KT F F) hT2), (show (F2 10).toInt = (F 10).toInt by omega), (show (F 11).toInt = -2 → (F2 11).toInt = -2 by omega), trivial⟩
  · skip
    have l_14 : (0 : Int32).toInt = 0 := rfl
    have e_15 := mt i_eq.mpr (show ¬ (r2 = (0 : Int32)) from c_11)
    unfold cb_X4_condition_12
    refine WP.bind (cs_X3_expression hfu F2 G2 hI2) ?_
    rintro r16 F16 G16 ⟨hI16, hB16, hT16, hO16, hS16, hp16⟩
    dsimp only
    have q_17 := i_rng (F16 11)
    have e_18 : (F2 11).toInt = -2 → (F16 11).toInt = -2 := hS16
    have q_19 := hI16.r 10 rfl
    have e_20 : (F16 10).toInt = (F2 10).toInt := hO16
    unfold cb_X4_condition_19
    have l_21 : (20 : Int32).toInt = 20 := rfl
    refine WP.bind (cs_X2_closesWith hfu (20 : Int32) F16 G16 hI16 (show 0 ≤ (F16 10).toInt by omega) (show (20 : Int32).toInt ≠ -2 by omega)) ?_
    rintro r22 F22 G22 ⟨hI22, hB22, hT22, hS22, hp22⟩
    dsimp only
    have q_23 := i_rng (F22 11)
    have e_24 : (F16 11).toInt = -2 → (F22 11).toInt = -2 := hS22
    have q_25 := hI22.r 10 rfl
    have e_26 : (F22 10).toInt = (F16 10).toInt - 1 := hp22
    unfold cb_X4_condition_28
    refine WP.ret ?_
    exact ⟨hI22, (KB.tr (KB.tr (KB.tr (KB.rf : KB F G F G) hB2) hB16) hB22), (KT.tr (KT.tr (KT.tr (rfl : KT F F) hT2) hT16) hT22), (show (F22 10).toInt = (F 10).toInt by omega), (show (F 11).toInt = -2 → (F22 11).toInt = -2 by omega), trivial⟩
theorem cs_X4_handOut {fu : Nat} (hfu : 8589934592 ≤ fu) (F : PF) (G : PG) (hI : CI F G) : WP (cf_X4_handOut fu F G) (fun r' F' G' => CI F' G' ∧ KB F G F' G' ∧ KT F F' ∧ KO F F' ∧ True) := by
  unfold cf_X4_handOut
  unfold cb_X4_handOut_0
  refine WP.bind (cs_X2_next hfu F G hI) ?_
  rintro r1 F1 G1 ⟨hI1, hB1, hT1, hO1, hp1⟩
  dsimp only
  have q_2 := hI.r 10 rfl
  have q_3 := hI1.r 10 rfl
  have e_4 : (F1 10).toInt = (F 10).toInt := hO1
  unfold cb_X4_handOut_15
  refine WP.bind (cs_X4_condition hfu F1 G1 hI1) ?_
  rintro r5 F5 G5 ⟨hI5, hB5, hT5, hO5, hS5, hp5⟩
  dsimp only
  have q_6 := i_rng (F1 11)
  have q_7 := i_rng (F5 11)
  have e_8 : (F1 11).toInt = -2 → (F5 11).toInt = -2 := hS5
  have q_9 := hI5.r 10 rfl
  have e_10 : (F5 10).toInt = (F1 10).toInt := hO5
  unfold cb_X4_handOut_19
  have q_11 := i_rng (F 11)
  refine WP.bind (cs_X1_add hfu (F 11) F5 G5 hI5) ?_
  rintro r12 F12 G12 ⟨hI12, hB12, hT12, hO12, hK12, hp12⟩
  dsimp only
  have q_13 := i_rng (F12 11)
  have e_14 : (F12 11).toInt = (F5 11).toInt := congrArg Int32.toInt hK12
  have q_15 := hI12.r 10 rfl
  have e_16 : (F12 10).toInt = (F5 10).toInt := hO12
  have q_17 := hI5.r 21 rfl
  have q_18 := hI12.r 21 rfl
  have e_19 : (F12 21).toInt = (F5 21).toInt := congrArg Int32.toInt hp12
  unfold cb_X4_handOut_27
  have l_20 : (26 : Int32).toInt = 26 := rfl
  refine WP.bind (cs_X2_expect hfu (26 : Int32) F12 G12 hI12 (show (26 : Int32).toInt ≠ -2 by omega)) ?_
  rintro r21 F21 G21 ⟨hI21, hB21, hT21, hO21, hS21, hp21⟩
  dsimp only
  have q_22 := i_rng (F21 11)
  have e_23 : (F12 11).toInt = -2 → (F21 11).toInt = -2 := hS21
  have q_24 := hI21.r 10 rfl
  have e_25 : (F21 10).toInt = (F12 10).toInt := hO21
  unfold cb_X4_handOut_36
  refine WP.ret ?_
  exact ⟨hI21, (KB.tr (KB.tr (KB.tr (KB.tr (KB.rf : KB F G F G) hB1) hB5) hB12) hB21), (KT.tr (KT.tr (KT.tr (KT.tr (rfl : KT F F) hT1) hT5) hT12) hT21), (KO.tr (KO.tr (KO.tr (KO.tr (rfl : KO F F) hO1) hO5) hO12) hO21), trivial⟩
theorem cs_X5_localRoom {fu : Nat} (hfu : 8589934592 ≤ fu) (x1 : Int32) (x2 : Int32) (F : PF) (G : PG) (hI : CI F G) : WP (cf_X5_localRoom fu x1 x2 F G) (fun r' F' G' => CI F' G' ∧ KB F G F' G' ∧ KT F F' ∧ KO F F' ∧ KK F F' ∧ True) := by
  unfold cf_X5_localRoom
  unfold cb_X5_localRoom_0
  refine WP.bind (cs_X5_measure hfu F G hI) ?_
  rintro r1 _ _ ⟨rfl, rfl, hp1⟩
  dsimp only
  unfold cb_X5_localRoom_4
  have q_2 := i_rng (F 50)
  have q_3 := i_rng x1
  first | have e_4 : ((F 50) + x1).toInt = (F 50).toInt + (x1.toInt) := i_addn (F 50) rfl (by omega) (by omega) | have e_5 := i_rng ((F 50) + x1)
  have j_6 : CI (fup F 50 ((F 50) + x1)) G := CI.fr rfl hI
  unfold cb_X5_localRoom_15
  refine WP.ite (fun c_7 => ?_) (fun c_7 => ?_)
  · skip
    have l_8 : (200 : Int32).toInt = 200 := rfl
    have e_9 := i_le.mp (show ((F 50) + x1) ≤ (200 : Int32) from c_7)
    unfold cb_X5_localRoom_32
    refine WP.ret ?_
    exact ⟨j_6, (KB.f (by decide) (KB.rf : KB F G F G)), (KT.f (by decide) (rfl : KT F F)), (KO.f (by decide) (rfl : KO F F)), (KK.f (by decide) (rfl : KK F F)), trivial⟩
  · skip
    have l_10 : (200 : Int32).toInt = 200 := rfl
    have e_11 := mt i_le.mpr (show ¬ (((F 50) + x1) ≤ (200 : Int32)) from c_7)
    unfold cb_X5_localRoom_25
    have l_12 : (8 : Int32).toInt = 8 := rfl
    have q_13 := i_rng x2
    refine WP.bind (cs_X5_note hfu (8 : Int32) x2 (fup F 50 ((F 50) + x1)) G j_6) ?_
    rintro r14 F14 G14 ⟨hI14, hB14, hT14, hO14, hK14, hp14⟩
    dsimp only
    have q_15 := hI.r 10 rfl
    have q_16 := hI14.r 10 rfl
    have e_17 : (F14 10).toInt = (F 10).toInt := hO14
    unfold cb_X5_localRoom_32
    refine WP.ret ?_
    exact ⟨hI14, (KB.tr (KB.f (by decide) (KB.rf : KB F G F G)) hB14), (KT.tr (KT.f (by decide) (rfl : KT F F)) hT14), (KO.tr (KO.f (by decide) (rfl : KO F F)) hO14), (KK.tr (KK.f (by decide) (rfl : KK F F)) hK14), trivial⟩
theorem cs_X4_wordsOf {fu : Nat} (hfu : 8589934592 ≤ fu) (x0 : Int32) (x1 : Int32) (F : PF) (G : PG) (hI : CI F G) : WP (cf_X4_wordsOf fu x0 x1 F G) (fun r' F' G' => F = F' ∧ G = G' ∧ True) := by
  unfold cf_X4_wordsOf
  unfold cb_X4_wordsOf_0
  refine WP.ite (fun c_1 => ?_) (fun c_1 => ?_)
  · skip
    have q_2 := i_rng x0
    have l_3 : (2 : Int32).toInt = 2 := rfl
    have e_4 := i_eq.mp (show x0 = (2 : Int32) from c_1)
    unfold cb_X4_wordsOf_5
    unfold cb_X4_wordsOf_14
    refine WP.ret ?_
    exact ⟨rfl, rfl, trivial⟩
  · skip
    have q_5 := i_rng x0
    have l_6 : (2 : Int32).toInt = 2 := rfl
    have e_7 := mt i_eq.mpr (show ¬ (x0 = (2 : Int32)) from c_1)
    unfold cb_X4_wordsOf_9
    unfold cb_X4_wordsOf_14
    refine WP.ret ?_
    exact ⟨rfl, rfl, trivial⟩
theorem cs_X4_localArray {fu : Nat} (hfu : 8589934592 ≤ fu) (x1 : Int32) (x2 : Int32) (x3 : Int32) (x4 : Int32) (F : PF) (G : PG) (hI : CI F G) : WP (cf_X4_localArray fu x1 x2 x3 x4 F G) (fun r' F' G' => CI F' G' ∧ KB F G F' G' ∧ KT F F' ∧ KO F F' ∧ KK F F' ∧ True) := by
  unfold cf_X4_localArray
  unfold cb_X4_localArray_0
  have q_1 := i_rng x3
  have q_2 := i_rng x4
  refine WP.bind (cs_X4_wordsOf hfu x3 x4 F G hI) ?_
  rintro r3 _ _ ⟨rfl, rfl, hp3⟩
  dsimp only
  unfold cb_X4_localArray_6
  have q_4 := i_rng r3
  have q_5 := i_rng x2
  refine WP.bind (cs_X5_localRoom hfu r3 x2 F G hI) ?_
  rintro r6 F6 G6 ⟨hI6, hB6, hT6, hO6, hK6, hp6⟩
  dsimp only
  have q_7 := hI.r 10 rfl
  have q_8 := hI6.r 10 rfl
  have e_9 : (F6 10).toInt = (F 10).toInt := hO6
  unfold cb_X4_localArray_18
  have l_10 : (73 : Int32).toInt = 73 := rfl
  have q_11 := i_rng r6
  refine WP.bind (cs_X1_addPair hfu (73 : Int32) r6 F6 G6 hI6) ?_
  rintro r12 F12 G12 ⟨hI12, hB12, hT12, hO12, hK12, hp12⟩
  dsimp only
  have q_13 := hI12.r 10 rfl
  have e_14 : (F12 10).toInt = (F6 10).toInt := hO12
  unfold cb_X4_localArray_31
  refine WP.bind (cs_X1_add hfu r3 F12 G12 hI12) ?_
  rintro r15 F15 G15 ⟨hI15, hB15, hT15, hO15, hK15, hp15⟩
  dsimp only
  have q_16 := hI15.r 10 rfl
  have e_17 : (F15 10).toInt = (F12 10).toInt := hO15
  have q_18 := hI12.r 21 rfl
  have q_19 := hI15.r 21 rfl
  have e_20 : (F15 21).toInt = (F12 21).toInt := congrArg Int32.toInt hp15
  unfold cb_X4_localArray_40
  have q_21 := i_rng x1
  refine WP.bind (cs_X5_tell hfu x1 x2 x3 r6 x4 F15 G15 hI15) ?_
  rintro r22 F22 G22 ⟨hI22, hB22, hT22, hO22, hK22, hp22⟩
  dsimp only
  have q_23 := hI22.r 10 rfl
  have e_24 : (F22 10).toInt = (F15 10).toInt := hO22
  unfold cb_X4_localArray_54
  refine WP.ret ?_
  exact ⟨hI22, (KB.tr (KB.tr (KB.tr (KB.tr (KB.rf : KB F G F G) hB6) hB12) hB15) hB22), (KT.tr (KT.tr (KT.tr (KT.tr (rfl : KT F F) hT6) hT12) hT15) hT22), (KO.tr (KO.tr (KO.tr (KO.tr (rfl : KO F F) hO6) hO12) hO15) hO22), (KK.tr (KK.tr (KK.tr (KK.tr (rfl : KK F F) hK6) hK12) hK15) hK22), trivial⟩
theorem cs_X4_localInt {fu : Nat} (hfu : 8589934592 ≤ fu) (x1 : Int32) (x2 : Int32) (F : PF) (G : PG) (hI : CI F G) : WP (cf_X4_localInt fu x1 x2 F G) (fun r' F' G' => CI F' G' ∧ KB F G F' G' ∧ KT F F' ∧ KO F F' ∧ KK F F' ∧ True) := by
  unfold cf_X4_localInt
  unfold cb_X4_localInt_0
  have l_1 : (1 : Int32).toInt = 1 := rfl
  have q_2 := i_rng x2
  refine WP.bind (cs_X5_localRoom hfu (1 : Int32) x2 F G hI) ?_
  rintro r3 F3 G3 ⟨hI3, hB3, hT3, hO3, hK3, hp3⟩
  dsimp only
  have q_4 := hI.r 10 rfl
  have q_5 := hI3.r 10 rfl
  have e_6 : (F3 10).toInt = (F 10).toInt := hO3
  unfold cb_X4_localInt_9
  have l_7 : (72 : Int32).toInt = 72 := rfl
  have q_8 := i_rng r3
  refine WP.bind (cs_X1_addPair hfu (72 : Int32) r3 F3 G3 hI3) ?_
  rintro r9 F9 G9 ⟨hI9, hB9, hT9, hO9, hK9, hp9⟩
  dsimp only
  have q_10 := hI9.r 10 rfl
  have e_11 : (F9 10).toInt = (F3 10).toInt := hO9
  unfold cb_X4_localInt_20
  have q_12 := i_rng x1
  have l_13 : (0 : Int32).toInt = 0 := rfl
  refine WP.bind (cs_X5_tell hfu x1 x2 (1 : Int32) r3 (0 : Int32) F9 G9 hI9) ?_
  rintro r14 F14 G14 ⟨hI14, hB14, hT14, hO14, hK14, hp14⟩
  dsimp only
  have q_15 := hI14.r 10 rfl
  have e_16 : (F14 10).toInt = (F9 10).toInt := hO14
  unfold cb_X4_localInt_32
  refine WP.ret ?_
  exact ⟨hI14, (KB.tr (KB.tr (KB.tr (KB.rf : KB F G F G) hB3) hB9) hB14), (KT.tr (KT.tr (KT.tr (rfl : KT F F) hT3) hT9) hT14), (KO.tr (KO.tr (KO.tr (rfl : KO F F) hO3) hO9) hO14), (KK.tr (KK.tr (KK.tr (rfl : KK F F) hK3) hK9) hK14), trivial⟩
theorem cs_X4_localTold {fu : Nat} (hfu : 8589934592 ≤ fu) (x1 : Int32) (F : PF) (G : PG) (hI : CI F G) (hz_x1 : x1 = 0 ∨ x1 = 1) : WP (cf_X4_localTold fu x1 F G) (fun r' F' G' => CI F' G' ∧ KB F G F' G' ∧ KT F F' ∧ KO F F' ∧ True) := by
  have q_x1 := b_rng hz_x1
  unfold cf_X4_localTold
  unfold cb_X4_localTold_0
  refine WP.bind (cs_X2_next hfu F G hI) ?_
  rintro r1 F1 G1 ⟨hI1, hB1, hT1, hO1, hp1⟩
  dsimp only
  have q_2 := hI.r 10 rfl
  have q_3 := hI1.r 10 rfl
  have e_4 : (F1 10).toInt = (F 10).toInt := hO1
  unfold cb_X4_localTold_15
  have l_5 : (2 : Int32).toInt = 2 := rfl
  refine WP.bind (cs_X2_expect hfu (2 : Int32) F1 G1 hI1 (show (2 : Int32).toInt ≠ -2 by omega)) ?_
  rintro r6 F6 G6 ⟨hI6, hB6, hT6, hO6, hS6, hp6⟩
  dsimp only
  have q_7 := i_rng (F1 11)
  have q_8 := i_rng (F6 11)
  have e_9 : (F1 11).toInt = -2 → (F6 11).toInt = -2 := hS6
  have q_10 := hI6.r 10 rfl
  have e_11 : (F6 10).toInt = (F1 10).toInt := hO6
  unfold cb_X4_localTold_40
  refine WP.ite (fun c_12 => ?_) (fun c_12 => ?_)
  · skip
    have q_13 := i_rng x1
    have l_14 : (0 : Int32).toInt = 0 := rfl
    have e_15 := i_eq.mp (show x1 = (0 : Int32) from c_12)
    unfold cb_X4_localTold_67
    refine WP.ite (fun c_16 => ?_) (fun c_16 => ?_)
    · skip
      have l_17 : (21 : Int32).toInt = 21 := rfl
      have e_18 := i_eq.mp (show (F6 11) = (21 : Int32) from c_16)
      unfold cb_X4_localTold_84
      refine WP.bind (cs_X3_arraySize hfu F6 G6 hI6) ?_
      rintro r19 F19 G19 ⟨hI19, hB19, hT19, hO19, hp19⟩
      dsimp only
      have q_20 := hI19.r 10 rfl
      have e_21 : (F19 10).toInt = (F6 10).toInt := hO19
      unfold cb_X4_localTold_91
      refine WP.ite (fun c_22 => ?_) (fun c_22 => ?_)
      · skip
        have q_23 := i_rng (F 11)
        have l_24 : (4 : Int32).toInt = 4 := rfl
        have e_25 := i_eq.mp (show (F 11) = (4 : Int32) from c_22)
        unfold cb_X4_localTold_102
        unfold cb_X4_localTold_107
        have q_26 := i_rng (F1 12)
        have q_27 := i_rng (F1 13)
        have q_28 := i_rng r19
        refine WP.bind (cs_X4_localArray hfu (F1 12) (F1 13) (2 : Int32) r19 F19 G19 hI19) ?_
        rintro r29 F29 G29 ⟨hI29, hB29, hT29, hO29, hK29, hp29⟩
        dsimp only
        have q_30 := i_rng (F19 11)
        have q_31 := i_rng (F29 11)
        have e_32 : (F29 11).toInt = (F19 11).toInt := congrArg Int32.toInt hK29
        have q_33 := hI29.r 10 rfl
        have e_34 : (F29 10).toInt = (F19 10).toInt := hO29
        unfold cb_X4_localTold_112
        unfold cb_X4_localTold_168
        refine WP.ret ?_
        exact ⟨hI29, (KB.tr (KB.tr (KB.tr (KB.tr (KB.rf : KB F G F G) hB1) hB6) hB19) hB29), (KT.tr (KT.tr (KT.tr (KT.tr (rfl : KT F F) hT1) hT6) hT19) hT29), (KO.tr (KO.tr (KO.tr (KO.tr (rfl : KO F F) hO1) hO6) hO19) hO29), trivial⟩
      · skip
        have q_35 := i_rng (F 11)
        have l_36 : (4 : Int32).toInt = 4 := rfl
        have e_37 := mt i_eq.mpr (show ¬ ((F 11) = (4 : Int32)) from c_22)
        unfold cb_X4_localTold_106
        unfold cb_X4_localTold_107
        have q_38 := i_rng (F1 12)
        have q_39 := i_rng (F1 13)
        have l_40 : (3 : Int32).toInt = 3 := rfl
        have q_41 := i_rng r19
        refine WP.bind (cs_X4_localArray hfu (F1 12) (F1 13) (3 : Int32) r19 F19 G19 hI19) ?_
        rintro r42 F42 G42 ⟨hI42, hB42, hT42, hO42, hK42, hp42⟩
        dsimp only
        have q_43 := i_rng (F19 11)
        have q_44 := i_rng (F42 11)
        have e_45 : (F42 11).toInt = (F19 11).toInt := congrArg Int32.toInt hK42
        have q_46 := hI42.r 10 rfl
        have e_47 : (F42 10).toInt = (F19 10).toInt := hO42
        unfold cb_X4_localTold_112
        unfold cb_X4_localTold_168
        refine WP.ret ?_
        exact ⟨hI42, (KB.tr (KB.tr (KB.tr (KB.tr (KB.rf : KB F G F G) hB1) hB6) hB19) hB42), (KT.tr (KT.tr (KT.tr (KT.tr (rfl : KT F F) hT1) hT6) hT19) hT42), (KO.tr (KO.tr (KO.tr (KO.tr (rfl : KO F F) hO1) hO6) hO19) hO42), trivial⟩
    · skip
      have l_48 : (21 : Int32).toInt = 21 := rfl
      have e_49 := mt i_eq.mpr (show ¬ ((F6 11) = (21 : Int32)) from c_16)
      unfold cb_X4_localTold_79
      refine WP.ite (fun c_50 => ?_) (fun c_50 => ?_)
      · skip
        have q_51 := i_rng (F 11)
        have l_52 : (5 : Int32).toInt = 5 := rfl
        have e_53 := i_eq.mp (show (F 11) = (5 : Int32) from c_50)
        unfold cb_X4_localTold_84
        refine WP.bind (cs_X3_arraySize hfu F6 G6 hI6) ?_
        rintro r54 F54 G54 ⟨hI54, hB54, hT54, hO54, hp54⟩
        dsimp only
        have q_55 := hI54.r 10 rfl
        have e_56 : (F54 10).toInt = (F6 10).toInt := hO54
        unfold cb_X4_localTold_91
        refine WP.ite (fun c_57 => ?_) (fun c_57 => ?_)
        · skip
          have l_58 : (4 : Int32).toInt = 4 := rfl
          have e_59 := i_eq.mp (show (F 11) = (4 : Int32) from c_57)
          unfold cb_X4_localTold_102
          unfold cb_X4_localTold_107
          have q_60 := i_rng (F1 12)
          have q_61 := i_rng (F1 13)
          have q_62 := i_rng r54
          refine WP.bind (cs_X4_localArray hfu (F1 12) (F1 13) (2 : Int32) r54 F54 G54 hI54) ?_
          rintro r63 F63 G63 ⟨hI63, hB63, hT63, hO63, hK63, hp63⟩
          dsimp only
          have q_64 := i_rng (F54 11)
          have q_65 := i_rng (F63 11)
          have e_66 : (F63 11).toInt = (F54 11).toInt := congrArg Int32.toInt hK63
          have q_67 := hI63.r 10 rfl
          have e_68 : (F63 10).toInt = (F54 10).toInt := hO63
          unfold cb_X4_localTold_112
          unfold cb_X4_localTold_168
          refine WP.ret ?_
          exact ⟨hI63, (KB.tr (KB.tr (KB.tr (KB.tr (KB.rf : KB F G F G) hB1) hB6) hB54) hB63), (KT.tr (KT.tr (KT.tr (KT.tr (rfl : KT F F) hT1) hT6) hT54) hT63), (KO.tr (KO.tr (KO.tr (KO.tr (rfl : KO F F) hO1) hO6) hO54) hO63), trivial⟩
        · skip
          have l_69 : (4 : Int32).toInt = 4 := rfl
          have e_70 := mt i_eq.mpr (show ¬ ((F 11) = (4 : Int32)) from c_57)
          unfold cb_X4_localTold_106
          unfold cb_X4_localTold_107
          have q_71 := i_rng (F1 12)
          have q_72 := i_rng (F1 13)
          have l_73 : (3 : Int32).toInt = 3 := rfl
          have q_74 := i_rng r54
          refine WP.bind (cs_X4_localArray hfu (F1 12) (F1 13) (3 : Int32) r54 F54 G54 hI54) ?_
          rintro r75 F75 G75 ⟨hI75, hB75, hT75, hO75, hK75, hp75⟩
          dsimp only
          have q_76 := i_rng (F54 11)
          have q_77 := i_rng (F75 11)
          have e_78 : (F75 11).toInt = (F54 11).toInt := congrArg Int32.toInt hK75
          have q_79 := hI75.r 10 rfl
          have e_80 : (F75 10).toInt = (F54 10).toInt := hO75
          unfold cb_X4_localTold_112
          unfold cb_X4_localTold_168
          refine WP.ret ?_
          exact ⟨hI75, (KB.tr (KB.tr (KB.tr (KB.tr (KB.rf : KB F G F G) hB1) hB6) hB54) hB75), (KT.tr (KT.tr (KT.tr (KT.tr (rfl : KT F F) hT1) hT6) hT54) hT75), (KO.tr (KO.tr (KO.tr (KO.tr (rfl : KO F F) hO1) hO6) hO54) hO75), trivial⟩
      · skip
        have q_81 := i_rng (F 11)
        have l_82 : (5 : Int32).toInt = 5 := rfl
        have e_83 := mt i_eq.mpr (show ¬ ((F 11) = (5 : Int32)) from c_50)
        unfold cb_X4_localTold_115
        refine WP.ite (fun c_84 => ?_) (fun c_84 => ?_)
        · skip
          have l_85 : (29 : Int32).toInt = 29 := rfl
          have e_86 := i_eq.mp (show (F6 11) = (29 : Int32) from c_84)
          unfold cb_X4_localTold_127
          refine WP.bind (cs_X2_next hfu F6 G6 hI6) ?_
          rintro r87 F87 G87 ⟨hI87, hB87, hT87, hO87, hp87⟩
          dsimp only
          have q_88 := hI87.r 10 rfl
          have e_89 : (F87 10).toInt = (F6 10).toInt := hO87
          unfold cb_X4_localTold_134
          refine WP.bind (cs_X3_expression hfu F87 G87 hI87) ?_
          rintro r90 F90 G90 ⟨hI90, hB90, hT90, hO90, hS90, hp90⟩
          dsimp only
          have q_91 := i_rng (F87 11)
          have q_92 := i_rng (F90 11)
          have e_93 : (F87 11).toInt = -2 → (F90 11).toInt = -2 := hS90
          have q_94 := hI90.r 10 rfl
          have e_95 : (F90 10).toInt = (F87 10).toInt := hO90
          unfold cb_X4_localTold_141
          have q_96 := i_rng (F1 12)
          have q_97 := i_rng (F1 13)
          refine WP.bind (cs_X4_localInt hfu (F1 12) (F1 13) F90 G90 hI90) ?_
          rintro r98 F98 G98 ⟨hI98, hB98, hT98, hO98, hK98, hp98⟩
          dsimp only
          have q_99 := i_rng (F98 11)
          have e_100 : (F98 11).toInt = (F90 11).toInt := congrArg Int32.toInt hK98
          have q_101 := hI98.r 10 rfl
          have e_102 : (F98 10).toInt = (F90 10).toInt := hO98
          unfold cb_X4_localTold_148
          unfold cb_X4_localTold_168
          refine WP.ret ?_
          exact ⟨hI98, (KB.tr (KB.tr (KB.tr (KB.tr (KB.tr (KB.rf : KB F G F G) hB1) hB6) hB87) hB90) hB98), (KT.tr (KT.tr (KT.tr (KT.tr (KT.tr (rfl : KT F F) hT1) hT6) hT87) hT90) hT98), (KO.tr (KO.tr (KO.tr (KO.tr (KO.tr (rfl : KO F F) hO1) hO6) hO87) hO90) hO98), trivial⟩
        · skip
          have l_103 : (29 : Int32).toInt = 29 := rfl
          have e_104 := mt i_eq.mpr (show ¬ ((F6 11) = (29 : Int32)) from c_84)
          unfold cb_X4_localTold_151
          have l_105 : (66 : Int32).toInt = 66 := rfl
          refine WP.bind (cs_X1_addPair hfu (66 : Int32) (0 : Int32) F6 G6 hI6) ?_
          rintro r106 F106 G106 ⟨hI106, hB106, hT106, hO106, hK106, hp106⟩
          dsimp only
          have q_107 := i_rng (F106 11)
          have e_108 : (F106 11).toInt = (F6 11).toInt := congrArg Int32.toInt hK106
          have q_109 := hI106.r 10 rfl
          have e_110 : (F106 10).toInt = (F6 10).toInt := hO106
          unfold cb_X4_localTold_161
          have q_111 := i_rng (F1 12)
          have q_112 := i_rng (F1 13)
          refine WP.bind (cs_X4_localInt hfu (F1 12) (F1 13) F106 G106 hI106) ?_
          rintro r113 F113 G113 ⟨hI113, hB113, hT113, hO113, hK113, hp113⟩
          dsimp only
          have q_114 := i_rng (F113 11)
          have e_115 : (F113 11).toInt = (F106 11).toInt := congrArg Int32.toInt hK113
          have q_116 := hI113.r 10 rfl
          have e_117 : (F113 10).toInt = (F106 10).toInt := hO113
          unfold cb_X4_localTold_168
          refine WP.ret ?_
          exact ⟨hI113, (KB.tr (KB.tr (KB.tr (KB.tr (KB.rf : KB F G F G) hB1) hB6) hB106) hB113), (KT.tr (KT.tr (KT.tr (KT.tr (rfl : KT F F) hT1) hT6) hT106) hT113), (KO.tr (KO.tr (KO.tr (KO.tr (rfl : KO F F) hO1) hO6) hO106) hO113), trivial⟩
  · skip
    have q_118 := i_rng x1
    have l_119 : (0 : Int32).toInt = 0 := rfl
    have e_120 := mt i_eq.mpr (show ¬ (x1 = (0 : Int32)) from c_12)
    unfold cb_X4_localTold_44
    refine WP.ite (fun c_121 => ?_) (fun c_121 => ?_)
    · skip
      have l_122 : (29 : Int32).toInt = 29 := rfl
      have e_123 := i_eq.mp (show (F6 11) = (29 : Int32) from c_121)
      unfold cb_X4_localTold_67
      refine WP.ite (fun c_124 => ?_) (fun c_124 => ?_)
      · skip
        have l_125 : (21 : Int32).toInt = 21 := rfl
        have e_126 := i_eq.mp (show (F6 11) = (21 : Int32) from c_124)
        unfold cb_X4_localTold_84
        refine WP.bind (cs_X3_arraySize hfu F6 G6 hI6) ?_
        rintro r127 F127 G127 ⟨hI127, hB127, hT127, hO127, hp127⟩
        dsimp only
        have q_128 := hI127.r 10 rfl
        have e_129 : (F127 10).toInt = (F6 10).toInt := hO127
        unfold cb_X4_localTold_91
        refine WP.ite (fun c_130 => ?_) (fun c_130 => ?_)
        · skip
          have q_131 := i_rng (F 11)
          have l_132 : (4 : Int32).toInt = 4 := rfl
          have e_133 := i_eq.mp (show (F 11) = (4 : Int32) from c_130)
          unfold cb_X4_localTold_102
          unfold cb_X4_localTold_107
          have q_134 := i_rng (F1 12)
          have q_135 := i_rng (F1 13)
          have q_136 := i_rng r127
          refine WP.bind (cs_X4_localArray hfu (F1 12) (F1 13) (2 : Int32) r127 F127 G127 hI127) ?_
          rintro r137 F137 G137 ⟨hI137, hB137, hT137, hO137, hK137, hp137⟩
          dsimp only
          have q_138 := i_rng (F127 11)
          have q_139 := i_rng (F137 11)
          have e_140 : (F137 11).toInt = (F127 11).toInt := congrArg Int32.toInt hK137
          have q_141 := hI137.r 10 rfl
          have e_142 : (F137 10).toInt = (F127 10).toInt := hO137
          unfold cb_X4_localTold_112
          unfold cb_X4_localTold_168
          refine WP.ret ?_
          exact ⟨hI137, (KB.tr (KB.tr (KB.tr (KB.tr (KB.rf : KB F G F G) hB1) hB6) hB127) hB137), (KT.tr (KT.tr (KT.tr (KT.tr (rfl : KT F F) hT1) hT6) hT127) hT137), (KO.tr (KO.tr (KO.tr (KO.tr (rfl : KO F F) hO1) hO6) hO127) hO137), trivial⟩
        · skip
          have q_143 := i_rng (F 11)
          have l_144 : (4 : Int32).toInt = 4 := rfl
          have e_145 := mt i_eq.mpr (show ¬ ((F 11) = (4 : Int32)) from c_130)
          unfold cb_X4_localTold_106
          unfold cb_X4_localTold_107
          have q_146 := i_rng (F1 12)
          have q_147 := i_rng (F1 13)
          have l_148 : (3 : Int32).toInt = 3 := rfl
          have q_149 := i_rng r127
          refine WP.bind (cs_X4_localArray hfu (F1 12) (F1 13) (3 : Int32) r127 F127 G127 hI127) ?_
          rintro r150 F150 G150 ⟨hI150, hB150, hT150, hO150, hK150, hp150⟩
          dsimp only
          have q_151 := i_rng (F127 11)
          have q_152 := i_rng (F150 11)
          have e_153 : (F150 11).toInt = (F127 11).toInt := congrArg Int32.toInt hK150
          have q_154 := hI150.r 10 rfl
          have e_155 : (F150 10).toInt = (F127 10).toInt := hO150
          unfold cb_X4_localTold_112
          unfold cb_X4_localTold_168
          refine WP.ret ?_
          exact ⟨hI150, (KB.tr (KB.tr (KB.tr (KB.tr (KB.rf : KB F G F G) hB1) hB6) hB127) hB150), (KT.tr (KT.tr (KT.tr (KT.tr (rfl : KT F F) hT1) hT6) hT127) hT150), (KO.tr (KO.tr (KO.tr (KO.tr (rfl : KO F F) hO1) hO6) hO127) hO150), trivial⟩
      · skip
        have l_156 : (21 : Int32).toInt = 21 := rfl
        have e_157 := mt i_eq.mpr (show ¬ ((F6 11) = (21 : Int32)) from c_124)
        unfold cb_X4_localTold_79
        refine WP.ite (fun c_158 => ?_) (fun c_158 => ?_)
        · skip
          have q_159 := i_rng (F 11)
          have l_160 : (5 : Int32).toInt = 5 := rfl
          have e_161 := i_eq.mp (show (F 11) = (5 : Int32) from c_158)
          unfold cb_X4_localTold_84
          refine WP.bind (cs_X3_arraySize hfu F6 G6 hI6) ?_
          rintro r162 F162 G162 ⟨hI162, hB162, hT162, hO162, hp162⟩
          dsimp only
          have q_163 := hI162.r 10 rfl
          have e_164 : (F162 10).toInt = (F6 10).toInt := hO162
          unfold cb_X4_localTold_91
          refine WP.ite (fun c_165 => ?_) (fun c_165 => ?_)
          · skip
            have l_166 : (4 : Int32).toInt = 4 := rfl
            have e_167 := i_eq.mp (show (F 11) = (4 : Int32) from c_165)
            unfold cb_X4_localTold_102
            unfold cb_X4_localTold_107
            have q_168 := i_rng (F1 12)
            have q_169 := i_rng (F1 13)
            have q_170 := i_rng r162
            refine WP.bind (cs_X4_localArray hfu (F1 12) (F1 13) (2 : Int32) r162 F162 G162 hI162) ?_
            rintro r171 F171 G171 ⟨hI171, hB171, hT171, hO171, hK171, hp171⟩
            dsimp only
            have q_172 := i_rng (F162 11)
            have q_173 := i_rng (F171 11)
            have e_174 : (F171 11).toInt = (F162 11).toInt := congrArg Int32.toInt hK171
            have q_175 := hI171.r 10 rfl
            have e_176 : (F171 10).toInt = (F162 10).toInt := hO171
            unfold cb_X4_localTold_112
            unfold cb_X4_localTold_168
            refine WP.ret ?_
            exact ⟨hI171, (KB.tr (KB.tr (KB.tr (KB.tr (KB.rf : KB F G F G) hB1) hB6) hB162) hB171), (KT.tr (KT.tr (KT.tr (KT.tr (rfl : KT F F) hT1) hT6) hT162) hT171), (KO.tr (KO.tr (KO.tr (KO.tr (rfl : KO F F) hO1) hO6) hO162) hO171), trivial⟩
          · skip
            have l_177 : (4 : Int32).toInt = 4 := rfl
            have e_178 := mt i_eq.mpr (show ¬ ((F 11) = (4 : Int32)) from c_165)
            unfold cb_X4_localTold_106
            unfold cb_X4_localTold_107
            have q_179 := i_rng (F1 12)
            have q_180 := i_rng (F1 13)
            have l_181 : (3 : Int32).toInt = 3 := rfl
            have q_182 := i_rng r162
            refine WP.bind (cs_X4_localArray hfu (F1 12) (F1 13) (3 : Int32) r162 F162 G162 hI162) ?_
            rintro r183 F183 G183 ⟨hI183, hB183, hT183, hO183, hK183, hp183⟩
            dsimp only
            have q_184 := i_rng (F162 11)
            have q_185 := i_rng (F183 11)
            have e_186 : (F183 11).toInt = (F162 11).toInt := congrArg Int32.toInt hK183
            have q_187 := hI183.r 10 rfl
            have e_188 : (F183 10).toInt = (F162 10).toInt := hO183
            unfold cb_X4_localTold_112
            unfold cb_X4_localTold_168
            refine WP.ret ?_
            exact ⟨hI183, (KB.tr (KB.tr (KB.tr (KB.tr (KB.rf : KB F G F G) hB1) hB6) hB162) hB183), (KT.tr (KT.tr (KT.tr (KT.tr (rfl : KT F F) hT1) hT6) hT162) hT183), (KO.tr (KO.tr (KO.tr (KO.tr (rfl : KO F F) hO1) hO6) hO162) hO183), trivial⟩
        · skip
          have q_189 := i_rng (F 11)
          have l_190 : (5 : Int32).toInt = 5 := rfl
          have e_191 := mt i_eq.mpr (show ¬ ((F 11) = (5 : Int32)) from c_158)
          unfold cb_X4_localTold_115
          refine WP.ite (fun c_192 => ?_) (fun c_192 => ?_)
          · skip
            have e_193 := i_eq.mp (show (F6 11) = (29 : Int32) from c_192)
            unfold cb_X4_localTold_127
            refine WP.bind (cs_X2_next hfu F6 G6 hI6) ?_
            rintro r194 F194 G194 ⟨hI194, hB194, hT194, hO194, hp194⟩
            dsimp only
            have q_195 := hI194.r 10 rfl
            have e_196 : (F194 10).toInt = (F6 10).toInt := hO194
            unfold cb_X4_localTold_134
            refine WP.bind (cs_X3_expression hfu F194 G194 hI194) ?_
            rintro r197 F197 G197 ⟨hI197, hB197, hT197, hO197, hS197, hp197⟩
            dsimp only
            have q_198 := i_rng (F194 11)
            have q_199 := i_rng (F197 11)
            have e_200 : (F194 11).toInt = -2 → (F197 11).toInt = -2 := hS197
            have q_201 := hI197.r 10 rfl
            have e_202 : (F197 10).toInt = (F194 10).toInt := hO197
            unfold cb_X4_localTold_141
            have q_203 := i_rng (F1 12)
            have q_204 := i_rng (F1 13)
            refine WP.bind (cs_X4_localInt hfu (F1 12) (F1 13) F197 G197 hI197) ?_
            rintro r205 F205 G205 ⟨hI205, hB205, hT205, hO205, hK205, hp205⟩
            dsimp only
            have q_206 := i_rng (F205 11)
            have e_207 : (F205 11).toInt = (F197 11).toInt := congrArg Int32.toInt hK205
            have q_208 := hI205.r 10 rfl
            have e_209 : (F205 10).toInt = (F197 10).toInt := hO205
            unfold cb_X4_localTold_148
            unfold cb_X4_localTold_168
            refine WP.ret ?_
            exact ⟨hI205, (KB.tr (KB.tr (KB.tr (KB.tr (KB.tr (KB.rf : KB F G F G) hB1) hB6) hB194) hB197) hB205), (KT.tr (KT.tr (KT.tr (KT.tr (KT.tr (rfl : KT F F) hT1) hT6) hT194) hT197) hT205), (KO.tr (KO.tr (KO.tr (KO.tr (KO.tr (rfl : KO F F) hO1) hO6) hO194) hO197) hO205), trivial⟩
          · skip
            have e_210 := mt i_eq.mpr (show ¬ ((F6 11) = (29 : Int32)) from c_192)
            unfold cb_X4_localTold_151
            have l_211 : (66 : Int32).toInt = 66 := rfl
            refine WP.bind (cs_X1_addPair hfu (66 : Int32) (0 : Int32) F6 G6 hI6) ?_
            rintro r212 F212 G212 ⟨hI212, hB212, hT212, hO212, hK212, hp212⟩
            dsimp only
            have q_213 := i_rng (F212 11)
            have e_214 : (F212 11).toInt = (F6 11).toInt := congrArg Int32.toInt hK212
            have q_215 := hI212.r 10 rfl
            have e_216 : (F212 10).toInt = (F6 10).toInt := hO212
            unfold cb_X4_localTold_161
            have q_217 := i_rng (F1 12)
            have q_218 := i_rng (F1 13)
            refine WP.bind (cs_X4_localInt hfu (F1 12) (F1 13) F212 G212 hI212) ?_
            rintro r219 F219 G219 ⟨hI219, hB219, hT219, hO219, hK219, hp219⟩
            dsimp only
            have q_220 := i_rng (F219 11)
            have e_221 : (F219 11).toInt = (F212 11).toInt := congrArg Int32.toInt hK219
            have q_222 := hI219.r 10 rfl
            have e_223 : (F219 10).toInt = (F212 10).toInt := hO219
            unfold cb_X4_localTold_168
            refine WP.ret ?_
            exact ⟨hI219, (KB.tr (KB.tr (KB.tr (KB.tr (KB.rf : KB F G F G) hB1) hB6) hB212) hB219), (KT.tr (KT.tr (KT.tr (KT.tr (rfl : KT F F) hT1) hT6) hT212) hT219), (KO.tr (KO.tr (KO.tr (KO.tr (rfl : KO F F) hO1) hO6) hO212) hO219), trivial⟩
    · skip
      have l_224 : (29 : Int32).toInt = 29 := rfl
      have e_225 := mt i_eq.mpr (show ¬ ((F6 11) = (29 : Int32)) from c_121)
      unfold cb_X4_localTold_56
      refine WP.bind (cs_X2_fail hfu (2 : Int32) F6 G6 hI6) ?_
      rintro r226 F226 G226 ⟨hI226, hB226, hT226, hO226, hp226⟩
      dsimp only
      have q_227 := hI226.r 10 rfl
      have e_228 : (F226 10).toInt = (F6 10).toInt := hO226
      have q_229 := i_rng (F226 11)
      have e_230 : (F226 11).toInt = -2 := hp226
      unfold cb_X4_localTold_64
      unfold cb_X4_localTold_168
      refine WP.ret ?_
      exact ⟨hI226, (KB.tr (KB.tr (KB.tr (KB.rf : KB F G F G) hB1) hB6) hB226), (KT.tr (KT.tr (KT.tr (rfl : KT F F) hT1) hT6) hT226), (KO.tr (KO.tr (KO.tr (rfl : KO F F) hO1) hO6) hO226), trivial⟩
theorem cs_X4_leap {fu : Nat} (hfu : 8589934592 ≤ fu) (F : PF) (G : PG) (hI : CI F G) : WP (cf_X4_leap fu F G) (fun r' F' G' => CI F' G' ∧ KB F G F' G' ∧ KT F F' ∧ KO F F' ∧ True) := by
  unfold cf_X4_leap
  unfold cb_X4_leap_0
  refine WP.ite (fun c_1 => ?_) (fun c_1 => ?_)
  · skip
    have q_2 := i_rng (F 29)
    have l_3 : (0 : Int32).toInt = 0 := rfl
    have e_4 := i_eq.mp (show (F 29) = (0 : Int32) from c_1)
    unfold cb_X4_leap_7
    have l_5 : (6 : Int32).toInt = 6 := rfl
    have q_6 := i_rng (F 13)
    refine WP.bind (cs_X5_note hfu (6 : Int32) (F 13) F G hI) ?_
    rintro r7 F7 G7 ⟨hI7, hB7, hT7, hO7, hK7, hp7⟩
    dsimp only
    have q_8 := i_rng (F 11)
    have q_9 := i_rng (F7 11)
    have e_10 : (F7 11).toInt = (F 11).toInt := congrArg Int32.toInt hK7
    have q_11 := hI.r 10 rfl
    have q_12 := hI7.r 10 rfl
    have e_13 : (F7 10).toInt = (F 10).toInt := hO7
    unfold cb_X4_leap_23
    refine WP.ite (fun c_14 => ?_) (fun c_14 => ?_)
    · skip
      have l_15 : (13 : Int32).toInt = 13 := rfl
      have e_16 := i_eq.mp (show (F7 11) = (13 : Int32) from c_14)
      unfold cb_X4_leap_35
      have l_17 : (84 : Int32).toInt = 84 := rfl
      have q_18 := i_rng (F7 30)
      refine WP.bind (cs_X1_addJump hfu (84 : Int32) (F7 30) F7 G7 hI7) ?_
      rintro r19 F19 G19 ⟨hI19, hB19, hT19, hO19, hK19, hp19⟩
      dsimp only
      have q_20 := i_rng (F19 11)
      have e_21 : (F19 11).toInt = (F7 11).toInt := congrArg Int32.toInt hK19
      have q_22 := hI19.r 10 rfl
      have e_23 : (F19 10).toInt = (F7 10).toInt := hO19
      have q_24 := hI7.r 21 rfl
      have q_25 := hI19.r 21 rfl
      have e_26 : (F19 21).toInt = (F7 21).toInt := congrArg Int32.toInt hp19
      unfold cb_X4_leap_49
      have q_27 := i_rng r19
      have j_28 : CI (fup F19 30 r19) G19 := CI.fr rfl hI19
      unfold cb_X4_leap_52
      unfold cb_X4_leap_72
      refine WP.bind (cs_X2_next hfu (fup F19 30 r19) G19 j_28) ?_
      rintro r29 F29 G29 ⟨hI29, hB29, hT29, hO29, hp29⟩
      dsimp only
      have q_30 := hI29.r 10 rfl
      have e_31 : (F29 10).toInt = (F19 10).toInt := hO29
      unfold cb_X4_leap_79
      have l_32 : (26 : Int32).toInt = 26 := rfl
      refine WP.bind (cs_X2_expect hfu (26 : Int32) F29 G29 hI29 (show (26 : Int32).toInt ≠ -2 by omega)) ?_
      rintro r33 F33 G33 ⟨hI33, hB33, hT33, hO33, hS33, hp33⟩
      dsimp only
      have q_34 := i_rng (F29 11)
      have q_35 := i_rng (F33 11)
      have e_36 : (F29 11).toInt = -2 → (F33 11).toInt = -2 := hS33
      have q_37 := hI33.r 10 rfl
      have e_38 : (F33 10).toInt = (F29 10).toInt := hO33
      unfold cb_X4_leap_88
      refine WP.ret ?_
      exact ⟨hI33, (KB.tr (KB.tr (KB.f (by decide) (KB.tr (KB.tr (KB.rf : KB F G F G) hB7) hB19)) hB29) hB33), (KT.tr (KT.tr (KT.f (by decide) (KT.tr (KT.tr (rfl : KT F F) hT7) hT19)) hT29) hT33), (KO.tr (KO.tr (KO.f (by decide) (KO.tr (KO.tr (rfl : KO F F) hO7) hO19)) hO29) hO33), trivial⟩
    · skip
      have l_39 : (13 : Int32).toInt = 13 := rfl
      have e_40 := mt i_eq.mpr (show ¬ ((F7 11) = (13 : Int32)) from c_14)
      unfold cb_X4_leap_55
      have l_41 : (84 : Int32).toInt = 84 := rfl
      have q_42 := i_rng (F7 31)
      refine WP.bind (cs_X1_addJump hfu (84 : Int32) (F7 31) F7 G7 hI7) ?_
      rintro r43 F43 G43 ⟨hI43, hB43, hT43, hO43, hK43, hp43⟩
      dsimp only
      have q_44 := i_rng (F43 11)
      have e_45 : (F43 11).toInt = (F7 11).toInt := congrArg Int32.toInt hK43
      have q_46 := hI43.r 10 rfl
      have e_47 : (F43 10).toInt = (F7 10).toInt := hO43
      have q_48 := hI7.r 21 rfl
      have q_49 := hI43.r 21 rfl
      have e_50 : (F43 21).toInt = (F7 21).toInt := congrArg Int32.toInt hp43
      unfold cb_X4_leap_69
      have q_51 := i_rng r43
      have j_52 : CI (fup F43 31 r43) G43 := CI.fr rfl hI43
      unfold cb_X4_leap_72
      refine WP.bind (cs_X2_next hfu (fup F43 31 r43) G43 j_52) ?_
      rintro r53 F53 G53 ⟨hI53, hB53, hT53, hO53, hp53⟩
      dsimp only
      have q_54 := hI53.r 10 rfl
      have e_55 : (F53 10).toInt = (F43 10).toInt := hO53
      unfold cb_X4_leap_79
      have l_56 : (26 : Int32).toInt = 26 := rfl
      refine WP.bind (cs_X2_expect hfu (26 : Int32) F53 G53 hI53 (show (26 : Int32).toInt ≠ -2 by omega)) ?_
      rintro r57 F57 G57 ⟨hI57, hB57, hT57, hO57, hS57, hp57⟩
      dsimp only
      have q_58 := i_rng (F53 11)
      have q_59 := i_rng (F57 11)
      have e_60 : (F53 11).toInt = -2 → (F57 11).toInt = -2 := hS57
      have q_61 := hI57.r 10 rfl
      have e_62 : (F57 10).toInt = (F53 10).toInt := hO57
      unfold cb_X4_leap_88
      refine WP.ret ?_
      exact ⟨hI57, (KB.tr (KB.tr (KB.f (by decide) (KB.tr (KB.tr (KB.rf : KB F G F G) hB7) hB43)) hB53) hB57), (KT.tr (KT.tr (KT.f (by decide) (KT.tr (KT.tr (rfl : KT F F) hT7) hT43)) hT53) hT57), (KO.tr (KO.tr (KO.f (by decide) (KO.tr (KO.tr (rfl : KO F F) hO7) hO43)) hO53) hO57), trivial⟩
  · skip
    have q_63 := i_rng (F 29)
    have l_64 : (0 : Int32).toInt = 0 := rfl
    have e_65 := mt i_eq.mpr (show ¬ ((F 29) = (0 : Int32)) from c_1)
    unfold cb_X4_leap_23
    refine WP.ite (fun c_66 => ?_) (fun c_66 => ?_)
    · skip
      have q_67 := i_rng (F 11)
      have l_68 : (13 : Int32).toInt = 13 := rfl
      have e_69 := i_eq.mp (show (F 11) = (13 : Int32) from c_66)
      unfold cb_X4_leap_35
      have l_70 : (84 : Int32).toInt = 84 := rfl
      have q_71 := i_rng (F 30)
      refine WP.bind (cs_X1_addJump hfu (84 : Int32) (F 30) F G hI) ?_
      rintro r72 F72 G72 ⟨hI72, hB72, hT72, hO72, hK72, hp72⟩
      dsimp only
      have q_73 := i_rng (F72 11)
      have e_74 : (F72 11).toInt = (F 11).toInt := congrArg Int32.toInt hK72
      have q_75 := hI.r 10 rfl
      have q_76 := hI72.r 10 rfl
      have e_77 : (F72 10).toInt = (F 10).toInt := hO72
      have q_78 := hI.r 21 rfl
      have q_79 := hI72.r 21 rfl
      have e_80 : (F72 21).toInt = (F 21).toInt := congrArg Int32.toInt hp72
      unfold cb_X4_leap_49
      have q_81 := i_rng r72
      have j_82 : CI (fup F72 30 r72) G72 := CI.fr rfl hI72
      unfold cb_X4_leap_52
      unfold cb_X4_leap_72
      refine WP.bind (cs_X2_next hfu (fup F72 30 r72) G72 j_82) ?_
      rintro r83 F83 G83 ⟨hI83, hB83, hT83, hO83, hp83⟩
      dsimp only
      have q_84 := hI83.r 10 rfl
      have e_85 : (F83 10).toInt = (F72 10).toInt := hO83
      unfold cb_X4_leap_79
      have l_86 : (26 : Int32).toInt = 26 := rfl
      refine WP.bind (cs_X2_expect hfu (26 : Int32) F83 G83 hI83 (show (26 : Int32).toInt ≠ -2 by omega)) ?_
      rintro r87 F87 G87 ⟨hI87, hB87, hT87, hO87, hS87, hp87⟩
      dsimp only
      have q_88 := i_rng (F83 11)
      have q_89 := i_rng (F87 11)
      have e_90 : (F83 11).toInt = -2 → (F87 11).toInt = -2 := hS87
      have q_91 := hI87.r 10 rfl
      have e_92 : (F87 10).toInt = (F83 10).toInt := hO87
      unfold cb_X4_leap_88
      refine WP.ret ?_
      exact ⟨hI87, (KB.tr (KB.tr (KB.f (by decide) (KB.tr (KB.rf : KB F G F G) hB72)) hB83) hB87), (KT.tr (KT.tr (KT.f (by decide) (KT.tr (rfl : KT F F) hT72)) hT83) hT87), (KO.tr (KO.tr (KO.f (by decide) (KO.tr (rfl : KO F F) hO72)) hO83) hO87), trivial⟩
    · skip
      have q_93 := i_rng (F 11)
      have l_94 : (13 : Int32).toInt = 13 := rfl
      have e_95 := mt i_eq.mpr (show ¬ ((F 11) = (13 : Int32)) from c_66)
      unfold cb_X4_leap_55
      have l_96 : (84 : Int32).toInt = 84 := rfl
      have q_97 := i_rng (F 31)
      refine WP.bind (cs_X1_addJump hfu (84 : Int32) (F 31) F G hI) ?_
      rintro r98 F98 G98 ⟨hI98, hB98, hT98, hO98, hK98, hp98⟩
      dsimp only
      have q_99 := i_rng (F98 11)
      have e_100 : (F98 11).toInt = (F 11).toInt := congrArg Int32.toInt hK98
      have q_101 := hI.r 10 rfl
      have q_102 := hI98.r 10 rfl
      have e_103 : (F98 10).toInt = (F 10).toInt := hO98
      have q_104 := hI.r 21 rfl
      have q_105 := hI98.r 21 rfl
      have e_106 : (F98 21).toInt = (F 21).toInt := congrArg Int32.toInt hp98
      unfold cb_X4_leap_69
      have q_107 := i_rng r98
      have j_108 : CI (fup F98 31 r98) G98 := CI.fr rfl hI98
      unfold cb_X4_leap_72
      refine WP.bind (cs_X2_next hfu (fup F98 31 r98) G98 j_108) ?_
      rintro r109 F109 G109 ⟨hI109, hB109, hT109, hO109, hp109⟩
      dsimp only
      have q_110 := hI109.r 10 rfl
      have e_111 : (F109 10).toInt = (F98 10).toInt := hO109
      unfold cb_X4_leap_79
      have l_112 : (26 : Int32).toInt = 26 := rfl
      refine WP.bind (cs_X2_expect hfu (26 : Int32) F109 G109 hI109 (show (26 : Int32).toInt ≠ -2 by omega)) ?_
      rintro r113 F113 G113 ⟨hI113, hB113, hT113, hO113, hS113, hp113⟩
      dsimp only
      have q_114 := i_rng (F109 11)
      have q_115 := i_rng (F113 11)
      have e_116 : (F109 11).toInt = -2 → (F113 11).toInt = -2 := hS113
      have q_117 := hI113.r 10 rfl
      have e_118 : (F113 10).toInt = (F109 10).toInt := hO113
      unfold cb_X4_leap_88
      refine WP.ret ?_
      exact ⟨hI113, (KB.tr (KB.tr (KB.f (by decide) (KB.tr (KB.rf : KB F G F G) hB98)) hB109) hB113), (KT.tr (KT.tr (KT.f (by decide) (KT.tr (rfl : KT F F) hT98)) hT109) hT113), (KO.tr (KO.tr (KO.f (by decide) (KO.tr (rfl : KO F F) hO98)) hO109) hO113), trivial⟩
theorem cs_X4_returnStatement {fu : Nat} (hfu : 8589934592 ≤ fu) (F : PF) (G : PG) (hI : CI F G) : WP (cf_X4_returnStatement fu F G) (fun r' F' G' => CI F' G' ∧ KB F G F' G' ∧ KT F F' ∧ KO F F' ∧ True) := by
  unfold cf_X4_returnStatement
  unfold cb_X4_returnStatement_0
  refine WP.bind (cs_X2_next hfu F G hI) ?_
  rintro r1 F1 G1 ⟨hI1, hB1, hT1, hO1, hp1⟩
  dsimp only
  have q_2 := hI.r 10 rfl
  have q_3 := hI1.r 10 rfl
  have e_4 : (F1 10).toInt = (F 10).toInt := hO1
  unfold cb_X4_returnStatement_7
  refine WP.ite (fun c_5 => ?_) (fun c_5 => ?_)
  · skip
    have q_6 := i_rng (F1 11)
    have l_7 : (26 : Int32).toInt = 26 := rfl
    have e_8 := i_eq.mp (show (F1 11) = (26 : Int32) from c_5)
    unfold cb_X4_returnStatement_19
    unfold cb_X4_returnStatement_24
    refine WP.ite (fun c_9 => ?_) (fun c_9 => ?_)
    · skip
      have l_10 : (1 : Int32).toInt = 1 := rfl
      have q_11 := hI1.r 48 rfl
      have e_12 := i_eq.mp (show (1 : Int32) = (F1 48) from c_9)
      unfold cb_X4_returnStatement_36
      have l_13 : (3 : Int32).toInt = 3 := rfl
      have q_14 := i_rng (F1 13)
      refine WP.bind (cs_X5_note hfu (3 : Int32) (F1 13) F1 G1 hI1) ?_
      rintro r15 F15 G15 ⟨hI15, hB15, hT15, hO15, hK15, hp15⟩
      dsimp only
      have q_16 := i_rng (F15 11)
      have e_17 : (F15 11).toInt = (F1 11).toInt := congrArg Int32.toInt hK15
      have q_18 := hI15.r 10 rfl
      have e_19 : (F15 10).toInt = (F1 10).toInt := hO15
      unfold cb_X4_returnStatement_51
      refine WP.ite (fun c_20 => absurd c_20 (by decide)) (fun _ => ?_)
      unfold cb_X4_returnStatement_55
      have l_21 : (66 : Int32).toInt = 66 := rfl
      have l_22 : (0 : Int32).toInt = 0 := rfl
      refine WP.bind (cs_X1_addPair hfu (66 : Int32) (0 : Int32) F15 G15 hI15) ?_
      rintro r23 F23 G23 ⟨hI23, hB23, hT23, hO23, hK23, hp23⟩
      dsimp only
      have q_24 := i_rng (F23 11)
      have e_25 : (F23 11).toInt = (F15 11).toInt := congrArg Int32.toInt hK23
      have q_26 := hI23.r 10 rfl
      have e_27 : (F23 10).toInt = (F15 10).toInt := hO23
      unfold cb_X4_returnStatement_65
      unfold cb_X4_returnStatement_75
      have l_28 : (15 : Int32).toInt = 15 := rfl
      refine WP.bind (cs_X1_add hfu (15 : Int32) F23 G23 hI23) ?_
      rintro r29 F29 G29 ⟨hI29, hB29, hT29, hO29, hK29, hp29⟩
      dsimp only
      have q_30 := i_rng (F29 11)
      have e_31 : (F29 11).toInt = (F23 11).toInt := congrArg Int32.toInt hK29
      have q_32 := hI29.r 10 rfl
      have e_33 : (F29 10).toInt = (F23 10).toInt := hO29
      have q_34 := hI23.r 21 rfl
      have q_35 := hI29.r 21 rfl
      have e_36 : (F29 21).toInt = (F23 21).toInt := congrArg Int32.toInt hp29
      unfold cb_X4_returnStatement_84
      refine WP.bind (cs_X2_expect hfu (26 : Int32) F29 G29 hI29 (show (26 : Int32).toInt ≠ -2 by omega)) ?_
      rintro r37 F37 G37 ⟨hI37, hB37, hT37, hO37, hS37, hp37⟩
      dsimp only
      have q_38 := i_rng (F37 11)
      have e_39 : (F29 11).toInt = -2 → (F37 11).toInt = -2 := hS37
      have q_40 := hI37.r 10 rfl
      have e_41 : (F37 10).toInt = (F29 10).toInt := hO37
      unfold cb_X4_returnStatement_93
      refine WP.ret ?_
      exact ⟨hI37, (KB.tr (KB.tr (KB.tr (KB.tr (KB.tr (KB.rf : KB F G F G) hB1) hB15) hB23) hB29) hB37), (KT.tr (KT.tr (KT.tr (KT.tr (KT.tr (rfl : KT F F) hT1) hT15) hT23) hT29) hT37), (KO.tr (KO.tr (KO.tr (KO.tr (KO.tr (rfl : KO F F) hO1) hO15) hO23) hO29) hO37), trivial⟩
    · skip
      have l_42 : (1 : Int32).toInt = 1 := rfl
      have q_43 := hI1.r 48 rfl
      have e_44 := mt i_eq.mpr (show ¬ ((1 : Int32) = (F1 48)) from c_9)
      unfold cb_X4_returnStatement_51
      refine WP.ite (fun c_45 => absurd c_45 (by decide)) (fun _ => ?_)
      unfold cb_X4_returnStatement_55
      have l_46 : (66 : Int32).toInt = 66 := rfl
      have l_47 : (0 : Int32).toInt = 0 := rfl
      refine WP.bind (cs_X1_addPair hfu (66 : Int32) (0 : Int32) F1 G1 hI1) ?_
      rintro r48 F48 G48 ⟨hI48, hB48, hT48, hO48, hK48, hp48⟩
      dsimp only
      have q_49 := i_rng (F48 11)
      have e_50 : (F48 11).toInt = (F1 11).toInt := congrArg Int32.toInt hK48
      have q_51 := hI48.r 10 rfl
      have e_52 : (F48 10).toInt = (F1 10).toInt := hO48
      unfold cb_X4_returnStatement_65
      unfold cb_X4_returnStatement_75
      have l_53 : (15 : Int32).toInt = 15 := rfl
      refine WP.bind (cs_X1_add hfu (15 : Int32) F48 G48 hI48) ?_
      rintro r54 F54 G54 ⟨hI54, hB54, hT54, hO54, hK54, hp54⟩
      dsimp only
      have q_55 := i_rng (F54 11)
      have e_56 : (F54 11).toInt = (F48 11).toInt := congrArg Int32.toInt hK54
      have q_57 := hI54.r 10 rfl
      have e_58 : (F54 10).toInt = (F48 10).toInt := hO54
      have q_59 := hI48.r 21 rfl
      have q_60 := hI54.r 21 rfl
      have e_61 : (F54 21).toInt = (F48 21).toInt := congrArg Int32.toInt hp54
      unfold cb_X4_returnStatement_84
      refine WP.bind (cs_X2_expect hfu (26 : Int32) F54 G54 hI54 (show (26 : Int32).toInt ≠ -2 by omega)) ?_
      rintro r62 F62 G62 ⟨hI62, hB62, hT62, hO62, hS62, hp62⟩
      dsimp only
      have q_63 := i_rng (F62 11)
      have e_64 : (F54 11).toInt = -2 → (F62 11).toInt = -2 := hS62
      have q_65 := hI62.r 10 rfl
      have e_66 : (F62 10).toInt = (F54 10).toInt := hO62
      unfold cb_X4_returnStatement_93
      refine WP.ret ?_
      exact ⟨hI62, (KB.tr (KB.tr (KB.tr (KB.tr (KB.rf : KB F G F G) hB1) hB48) hB54) hB62), (KT.tr (KT.tr (KT.tr (KT.tr (rfl : KT F F) hT1) hT48) hT54) hT62), (KO.tr (KO.tr (KO.tr (KO.tr (rfl : KO F F) hO1) hO48) hO54) hO62), trivial⟩
  · skip
    have q_67 := i_rng (F1 11)
    have l_68 : (26 : Int32).toInt = 26 := rfl
    have e_69 := mt i_eq.mpr (show ¬ ((F1 11) = (26 : Int32)) from c_5)
    unfold cb_X4_returnStatement_23
    unfold cb_X4_returnStatement_24
    refine WP.ite (fun c_70 => ?_) (fun c_70 => ?_)
    · skip
      have l_71 : (0 : Int32).toInt = 0 := rfl
      have q_72 := hI1.r 48 rfl
      have e_73 := i_eq.mp (show (0 : Int32) = (F1 48) from c_70)
      unfold cb_X4_returnStatement_36
      have l_74 : (3 : Int32).toInt = 3 := rfl
      have q_75 := i_rng (F1 13)
      refine WP.bind (cs_X5_note hfu (3 : Int32) (F1 13) F1 G1 hI1) ?_
      rintro r76 F76 G76 ⟨hI76, hB76, hT76, hO76, hK76, hp76⟩
      dsimp only
      have q_77 := i_rng (F76 11)
      have e_78 : (F76 11).toInt = (F1 11).toInt := congrArg Int32.toInt hK76
      have q_79 := hI76.r 10 rfl
      have e_80 : (F76 10).toInt = (F1 10).toInt := hO76
      unfold cb_X4_returnStatement_51
      refine WP.ite (fun _ => ?_) (fun c_81 => absurd (by decide) c_81)
      unfold cb_X4_returnStatement_68
      refine WP.bind (cs_X3_expression hfu F76 G76 hI76) ?_
      rintro r82 F82 G82 ⟨hI82, hB82, hT82, hO82, hS82, hp82⟩
      dsimp only
      have q_83 := i_rng (F82 11)
      have e_84 : (F76 11).toInt = -2 → (F82 11).toInt = -2 := hS82
      have q_85 := hI82.r 10 rfl
      have e_86 : (F82 10).toInt = (F76 10).toInt := hO82
      unfold cb_X4_returnStatement_75
      have l_87 : (15 : Int32).toInt = 15 := rfl
      refine WP.bind (cs_X1_add hfu (15 : Int32) F82 G82 hI82) ?_
      rintro r88 F88 G88 ⟨hI88, hB88, hT88, hO88, hK88, hp88⟩
      dsimp only
      have q_89 := i_rng (F88 11)
      have e_90 : (F88 11).toInt = (F82 11).toInt := congrArg Int32.toInt hK88
      have q_91 := hI88.r 10 rfl
      have e_92 : (F88 10).toInt = (F82 10).toInt := hO88
      have q_93 := hI82.r 21 rfl
      have q_94 := hI88.r 21 rfl
      have e_95 : (F88 21).toInt = (F82 21).toInt := congrArg Int32.toInt hp88
      unfold cb_X4_returnStatement_84
      refine WP.bind (cs_X2_expect hfu (26 : Int32) F88 G88 hI88 (show (26 : Int32).toInt ≠ -2 by omega)) ?_
      rintro r96 F96 G96 ⟨hI96, hB96, hT96, hO96, hS96, hp96⟩
      dsimp only
      have q_97 := i_rng (F96 11)
      have e_98 : (F88 11).toInt = -2 → (F96 11).toInt = -2 := hS96
      have q_99 := hI96.r 10 rfl
      have e_100 : (F96 10).toInt = (F88 10).toInt := hO96
      unfold cb_X4_returnStatement_93
      refine WP.ret ?_
      exact ⟨hI96, (KB.tr (KB.tr (KB.tr (KB.tr (KB.tr (KB.rf : KB F G F G) hB1) hB76) hB82) hB88) hB96), (KT.tr (KT.tr (KT.tr (KT.tr (KT.tr (rfl : KT F F) hT1) hT76) hT82) hT88) hT96), (KO.tr (KO.tr (KO.tr (KO.tr (KO.tr (rfl : KO F F) hO1) hO76) hO82) hO88) hO96), trivial⟩
    · skip
      have l_101 : (0 : Int32).toInt = 0 := rfl
      have q_102 := hI1.r 48 rfl
      have e_103 := mt i_eq.mpr (show ¬ ((0 : Int32) = (F1 48)) from c_70)
      unfold cb_X4_returnStatement_51
      refine WP.ite (fun _ => ?_) (fun c_104 => absurd (by decide) c_104)
      unfold cb_X4_returnStatement_68
      refine WP.bind (cs_X3_expression hfu F1 G1 hI1) ?_
      rintro r105 F105 G105 ⟨hI105, hB105, hT105, hO105, hS105, hp105⟩
      dsimp only
      have q_106 := i_rng (F105 11)
      have e_107 : (F1 11).toInt = -2 → (F105 11).toInt = -2 := hS105
      have q_108 := hI105.r 10 rfl
      have e_109 : (F105 10).toInt = (F1 10).toInt := hO105
      unfold cb_X4_returnStatement_75
      have l_110 : (15 : Int32).toInt = 15 := rfl
      refine WP.bind (cs_X1_add hfu (15 : Int32) F105 G105 hI105) ?_
      rintro r111 F111 G111 ⟨hI111, hB111, hT111, hO111, hK111, hp111⟩
      dsimp only
      have q_112 := i_rng (F111 11)
      have e_113 : (F111 11).toInt = (F105 11).toInt := congrArg Int32.toInt hK111
      have q_114 := hI111.r 10 rfl
      have e_115 : (F111 10).toInt = (F105 10).toInt := hO111
      have q_116 := hI105.r 21 rfl
      have q_117 := hI111.r 21 rfl
      have e_118 : (F111 21).toInt = (F105 21).toInt := congrArg Int32.toInt hp111
      unfold cb_X4_returnStatement_84
      refine WP.bind (cs_X2_expect hfu (26 : Int32) F111 G111 hI111 (show (26 : Int32).toInt ≠ -2 by omega)) ?_
      rintro r119 F119 G119 ⟨hI119, hB119, hT119, hO119, hS119, hp119⟩
      dsimp only
      have q_120 := i_rng (F119 11)
      have e_121 : (F111 11).toInt = -2 → (F119 11).toInt = -2 := hS119
      have q_122 := hI119.r 10 rfl
      have e_123 : (F119 10).toInt = (F111 10).toInt := hO119
      unfold cb_X4_returnStatement_93
      refine WP.ret ?_
      exact ⟨hI119, (KB.tr (KB.tr (KB.tr (KB.tr (KB.rf : KB F G F G) hB1) hB105) hB111) hB119), (KT.tr (KT.tr (KT.tr (KT.tr (rfl : KT F F) hT1) hT105) hT111) hT119), (KO.tr (KO.tr (KO.tr (KO.tr (rfl : KO F F) hO1) hO105) hO111) hO119), trivial⟩
