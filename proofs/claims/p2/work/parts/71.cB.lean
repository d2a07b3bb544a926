theorem cz_X4_formals_33 {fu : Nat} (hfu : 8589934592 ≤ fu) {F0 : PF} {G0 : PG} : ∀ (n : Nat) (x1 : Int32) (x2 : Int32) (x3 : Int32) (F : PF) (G : PG) (hI : CI F G) (hB : KB F0 G0 F G) (hT : KT F0 F) (i_0 : (F 10).toInt = (F0 10).toInt + 1) (i_1 : -1 ≤ (F0 10).toInt) (i_2 : x1 = 0 ∨ x1 = 1) (hn : (2147483647 - x3.toInt).toNat < n), WP (cl_X4_formals_33 fu n x1 x2 x3 F G) (fun r' F' G' => CI F' G' ∧ KB F0 G0 F' G' ∧ KT F0 F' ∧ KO F0 F' ∧ True) := by
  intro n
  induction n with
  | zero =>
    intro x1 x2 x3 F G hI hB hT i_0 i_1 i_2 hn
    exact absurd hn (Nat.not_lt_zero _)
  | succ n ihn =>
    intro x1 x2 x3 F G hI hB hT i_0 i_1 i_2 hn
    show WP (cb_X4_formals_33 fu (cl_X4_formals_33 fu n)  x1 x2 x3 F G) _
    have q_x1 := b_rng i_2
    unfold cb_X4_formals_33
    refine WP.ite (fun c_1 => ?_) (fun c_1 => ?_)
    · skip
      have l_2 : (4001 : Int32).toInt = 4001 := rfl
      have q_3 := i_rng x3
      have e_4 := i_le.mp (show (4001 : Int32) ≤ x3 from c_1)
      unfold cb_X4_formals_85
      have l_5 : (20 : Int32).toInt = 20 := rfl
      have q_6 := hI.r 10 rfl
      refine WP.bind (cs_X2_closesWith hfu (20 : Int32) F G hI (show 0 ≤ (F 10).toInt by omega) (show (20 : Int32).toInt ≠ -2 by omega)) ?_
      rintro r7 F7 G7 ⟨hI7, hB7, hT7, hS7, hp7⟩
      dsimp only
      have q_8 := hI7.r 10 rfl
      have e_9 : (F7 10).toInt = (F 10).toInt - 1 := hp7
      unfold cb_X4_formals_94
      refine WP.ret ?_
      have q_10 := i_rng (F0 10)
      exact ⟨hI7, (KB.tr hB hB7), (KT.tr hT hT7), (show (F7 10).toInt = (F0 10).toInt by omega), trivial⟩
    · skip
      have l_11 : (4001 : Int32).toInt = 4001 := rfl
      have q_12 := i_rng x3
      have e_13 := mt i_le.mpr (show ¬ ((4001 : Int32) ≤ x3) from c_1)
      unfold cb_X4_formals_40
      refine WP.ite (fun c_14 => ?_) (fun c_14 => ?_)
      · skip
        have q_15 := i_rng x2
        have l_16 : (0 : Int32).toInt = 0 := rfl
        have e_17 := i_eq.mp (show x2 = (0 : Int32) from c_14)
        unfold cb_X4_formals_85
        have l_18 : (20 : Int32).toInt = 20 := rfl
        have q_19 := hI.r 10 rfl
        refine WP.bind (cs_X2_closesWith hfu (20 : Int32) F G hI (show 0 ≤ (F 10).toInt by omega) (show (20 : Int32).toInt ≠ -2 by omega)) ?_
        rintro r20 F20 G20 ⟨hI20, hB20, hT20, hS20, hp20⟩
        dsimp only
        have q_21 := hI20.r 10 rfl
        have e_22 : (F20 10).toInt = (F 10).toInt - 1 := hp20
        unfold cb_X4_formals_94
        refine WP.ret ?_
        have q_23 := i_rng (F0 10)
        exact ⟨hI20, (KB.tr hB hB20), (KT.tr hT hT20), (show (F20 10).toInt = (F0 10).toInt by omega), trivial⟩
      · skip
        have q_24 := i_rng x2
        have l_25 : (0 : Int32).toInt = 0 := rfl
        have e_26 := mt i_eq.mpr (show ¬ (x2 = (0 : Int32)) from c_14)
        unfold cb_X4_formals_44
        refine WP.bind (cs_X4_formal hfu x3 x1 F G hI i_2) ?_
        rintro r27 F27 G27 ⟨hI27, hB27, hT27, hO27, hp27⟩
        dsimp only
        have q_28 := hI.r 10 rfl
        have q_29 := hI27.r 10 rfl
        have e_30 : (F27 10).toInt = (F 10).toInt := hO27
        unfold cb_X4_formals_50
        refine WP.ite (fun c_31 => ?_) (fun c_31 => ?_)
        · skip
          have q_32 := i_rng (F27 11)
          have l_33 : (25 : Int32).toInt = 25 := rfl
          have e_34 := i_eq.mp (show (F27 11) = (25 : Int32) from c_31)
          unfold cb_X4_formals_62
          unfold cb_X4_formals_67
          refine WP.ite (fun c_35 => absurd c_35 (by decide)) (fun _ => ?_)
          unfold cb_X4_formals_72
          refine WP.bind (cs_X2_next hfu F27 G27 hI27) ?_
          rintro r36 F36 G36 ⟨hI36, hB36, hT36, hO36, hp36⟩
          dsimp only
          have q_37 := hI36.r 10 rfl
          have e_38 : (F36 10).toInt = (F27 10).toInt := hO36
          unfold cb_X4_formals_79
          have l_39 : (1 : Int32).toInt = 1 := rfl
          first | have e_40 : (x3 + (1 : Int32)).toInt = x3.toInt + (1) := i_addn x3 rfl (by omega) (by omega) | have e_41 := i_rng (x3 + (1 : Int32))
          exact ihn x1 (1 : Int32) (x3 + (1 : Int32)) F36 G36 hI36 (KB.tr (KB.tr hB hB27) hB36) (KT.tr (KT.tr hT hT27) hT36) (show (F36 10).toInt = (F0 10).toInt + 1 by omega) (show -1 ≤ (F0 10).toInt by omega) i_2 (by omega)
        · skip
          have q_42 := i_rng (F27 11)
          have l_43 : (25 : Int32).toInt = 25 := rfl
          have e_44 := mt i_eq.mpr (show ¬ ((F27 11) = (25 : Int32)) from c_31)
          unfold cb_X4_formals_66
          unfold cb_X4_formals_67
          refine WP.ite (fun _ => ?_) (fun c_45 => absurd (by decide) c_45)
          unfold cb_X4_formals_79
          first | have e_46 : (x3 + (1 : Int32)).toInt = x3.toInt + (1) := i_addn x3 rfl (by omega) (by omega) | have e_47 := i_rng (x3 + (1 : Int32))
          exact ihn x1 (0 : Int32) (x3 + (1 : Int32)) F27 G27 hI27 (KB.tr hB hB27) (KT.tr hT hT27) (show (F27 10).toInt = (F0 10).toInt + 1 by omega) (show -1 ≤ (F0 10).toInt by omega) i_2 (by omega)
theorem cs_X4_formals {fu : Nat} (hfu : 8589934592 ≤ fu) (x1 : Int32) (F : PF) (G : PG) (hI : CI F G) (hz_x1 : x1 = 0 ∨ x1 = 1) : WP (cf_X4_formals fu x1 F G) (fun r' F' G' => CI F' G' ∧ KB F G F' G' ∧ KT F F' ∧ KO F F' ∧ True) := by
  have q_x1 := b_rng hz_x1
  unfold cf_X4_formals
  unfold cb_X4_formals_0
  have l_1 : (19 : Int32).toInt = 19 := rfl
  refine WP.bind (cs_X2_opens hfu (19 : Int32) F G hI (show (19 : Int32).toInt ≠ -2 by omega)) ?_
  rintro r2 F2 G2 ⟨hI2, hB2, hT2, hS2, hp2⟩
  dsimp only
  have q_3 := b_rng (hp2.1)
  have q_4 := hI.r 10 rfl
  have q_5 := hI2.r 10 rfl
  have q_6 := i_rng (F 11)
  have e_7 : r2.toInt = 1 → (F2 10).toInt = (F 10).toInt + 1 ∧ (F 10).toInt < 40 ∧ (F 11).toInt ≠ -2 := hp2.2.1
  have e_8 : r2.toInt = 0 → (F2 10).toInt = (F 10).toInt ∧ (F2 11).toInt = -2 := hp2.2.2
  unfold cb_X4_formals_9
  refine WP.ite (fun c_9 => ?_) (fun c_9 => ?_)
  · skip
    have l_10 : (0 : Int32).toInt = 0 := rfl
    have e_11 := i_eq.mp (show r2 = (0 : Int32) from c_9)
    unfold cb_X4_formals_12
    refine WP.ret ?_
    exact ⟨hI2, (KB.tr (KB.rf : KB F G F G) hB2), (KT.tr (rfl : KT F F) hT2), (show (F2 10).toInt = (F 10).toInt by omega), trivial⟩
  · skip
    have l_12 : (0 : Int32).toInt = 0 := rfl
    have e_13 := mt i_eq.mpr (show ¬ (r2 = (0 : Int32)) from c_9)
    unfold cb_X4_formals_13
    refine WP.ite (fun c_14 => ?_) (fun c_14 => ?_)
    · skip
      have q_15 := i_rng (F2 11)
      have l_16 : (20 : Int32).toInt = 20 := rfl
      have e_17 := i_eq.mp (show (F2 11) = (20 : Int32) from c_14)
      unfold cb_X4_formals_29
      unfold cb_X4_formals_30
      have q_18 := i_rng x1
      exact cz_X4_formals_33 (F0 := F) (G0 := G) hfu fu x1 (0 : Int32) (0 : Int32) F2 G2 hI2 (KB.tr (KB.rf : KB F G F G) hB2) (KT.tr (rfl : KT F F) hT2) (show (F2 10).toInt = (F 10).toInt + 1 by omega) (show -1 ≤ (F 10).toInt by omega) hz_x1 (by omega)
    · skip
      have q_19 := i_rng (F2 11)
      have l_20 : (20 : Int32).toInt = 20 := rfl
      have e_21 := mt i_eq.mpr (show ¬ ((F2 11) = (20 : Int32)) from c_14)
      unfold cb_X4_formals_25
      unfold cb_X4_formals_30
      have q_22 := i_rng x1
      have l_23 : (1 : Int32).toInt = 1 := rfl
      exact cz_X4_formals_33 (F0 := F) (G0 := G) hfu fu x1 (1 : Int32) (0 : Int32) F2 G2 hI2 (KB.tr (KB.rf : KB F G F G) hB2) (KT.tr (rfl : KT F F) hT2) (show (F2 10).toInt = (F 10).toInt + 1 by omega) (show -1 ≤ (F 10).toInt by omega) hz_x1 (by omega)
theorem cs_X4_kindWord {fu : Nat} (hfu : 8589934592 ≤ fu) (x1 : Int32) (F : PF) (G : PG) (hI : CI F G) (hz_x1 : x1 = 0 ∨ x1 = 1) : WP (cf_X4_kindWord fu x1 F G) (fun r' F' G' => CI F' G' ∧ KB F G F' G' ∧ KT F F' ∧ KO F F' ∧ True) := by
  have q_x1 := b_rng hz_x1
  unfold cf_X4_kindWord
  unfold cb_X4_kindWord_0
  refine WP.ite (fun c_1 => ?_) (fun c_1 => ?_)
  · skip
    have q_2 := i_rng (F 11)
    have l_3 : (4 : Int32).toInt = 4 := rfl
    have e_4 := i_eq.mp (show (F 11) = (4 : Int32) from c_1)
    unfold cb_X4_kindWord_28
    refine WP.bind (cs_X2_next hfu F G hI) ?_
    rintro r5 F5 G5 ⟨hI5, hB5, hT5, hO5, hp5⟩
    dsimp only
    have q_6 := hI.r 10 rfl
    have q_7 := hI5.r 10 rfl
    have e_8 : (F5 10).toInt = (F 10).toInt := hO5
    unfold cb_X4_kindWord_35
    unfold cb_X4_kindWord_46
    refine WP.ret ?_
    exact ⟨hI5, (KB.tr (KB.rf : KB F G F G) hB5), (KT.tr (rfl : KT F F) hT5), (KO.tr (rfl : KO F F) hO5), trivial⟩
  · skip
    have q_9 := i_rng (F 11)
    have l_10 : (4 : Int32).toInt = 4 := rfl
    have e_11 := mt i_eq.mpr (show ¬ ((F 11) = (4 : Int32)) from c_1)
    unfold cb_X4_kindWord_13
    refine WP.ite (fun c_12 => ?_) (fun c_12 => ?_)
    · skip
      have q_13 := i_rng x1
      have l_14 : (0 : Int32).toInt = 0 := rfl
      have e_15 := i_eq.mp (show x1 = (0 : Int32) from c_12)
      unfold cb_X4_kindWord_17
      refine WP.ite (fun c_16 => ?_) (fun c_16 => ?_)
      · skip
        have l_17 : (5 : Int32).toInt = 5 := rfl
        have e_18 := i_eq.mp (show (F 11) = (5 : Int32) from c_16)
        unfold cb_X4_kindWord_28
        refine WP.bind (cs_X2_next hfu F G hI) ?_
        rintro r19 F19 G19 ⟨hI19, hB19, hT19, hO19, hp19⟩
        dsimp only
        have q_20 := hI.r 10 rfl
        have q_21 := hI19.r 10 rfl
        have e_22 : (F19 10).toInt = (F 10).toInt := hO19
        unfold cb_X4_kindWord_35
        unfold cb_X4_kindWord_46
        refine WP.ret ?_
        exact ⟨hI19, (KB.tr (KB.rf : KB F G F G) hB19), (KT.tr (rfl : KT F F) hT19), (KO.tr (rfl : KO F F) hO19), trivial⟩
      · skip
        have l_23 : (5 : Int32).toInt = 5 := rfl
        have e_24 := mt i_eq.mpr (show ¬ ((F 11) = (5 : Int32)) from c_16)
        unfold cb_X4_kindWord_22
        refine WP.ite (fun c_25 => ?_) (fun c_25 => ?_)
        · skip
          have l_26 : (6 : Int32).toInt = 6 := rfl
          have e_27 := i_eq.mp (show (F 11) = (6 : Int32) from c_25)
          unfold cb_X4_kindWord_28
          refine WP.bind (cs_X2_next hfu F G hI) ?_
          rintro r28 F28 G28 ⟨hI28, hB28, hT28, hO28, hp28⟩
          dsimp only
          have q_29 := hI.r 10 rfl
          have q_30 := hI28.r 10 rfl
          have e_31 : (F28 10).toInt = (F 10).toInt := hO28
          unfold cb_X4_kindWord_35
          unfold cb_X4_kindWord_46
          refine WP.ret ?_
          exact ⟨hI28, (KB.tr (KB.rf : KB F G F G) hB28), (KT.tr (rfl : KT F F) hT28), (KO.tr (rfl : KO F F) hO28), trivial⟩
        · skip
          have l_32 : (6 : Int32).toInt = 6 := rfl
          have e_33 := mt i_eq.mpr (show ¬ ((F 11) = (6 : Int32)) from c_25)
          unfold cb_X4_kindWord_38
          have l_34 : (2 : Int32).toInt = 2 := rfl
          refine WP.bind (cs_X2_fail hfu (2 : Int32) F G hI) ?_
          rintro r35 F35 G35 ⟨hI35, hB35, hT35, hO35, hp35⟩
          dsimp only
          have q_36 := hI.r 10 rfl
          have q_37 := hI35.r 10 rfl
          have e_38 : (F35 10).toInt = (F 10).toInt := hO35
          have q_39 := i_rng (F35 11)
          have e_40 : (F35 11).toInt = -2 := hp35
          unfold cb_X4_kindWord_46
          refine WP.ret ?_
          exact ⟨hI35, (KB.tr (KB.rf : KB F G F G) hB35), (KT.tr (rfl : KT F F) hT35), (KO.tr (rfl : KO F F) hO35), trivial⟩
    · skip
      have q_41 := i_rng x1
      have l_42 : (0 : Int32).toInt = 0 := rfl
      have e_43 := mt i_eq.mpr (show ¬ (x1 = (0 : Int32)) from c_12)
      unfold cb_X4_kindWord_38
      have l_44 : (2 : Int32).toInt = 2 := rfl
      refine WP.bind (cs_X2_fail hfu (2 : Int32) F G hI) ?_
      rintro r45 F45 G45 ⟨hI45, hB45, hT45, hO45, hp45⟩
      dsimp only
      have q_46 := hI.r 10 rfl
      have q_47 := hI45.r 10 rfl
      have e_48 : (F45 10).toInt = (F 10).toInt := hO45
      have q_49 := i_rng (F45 11)
      have e_50 : (F45 11).toInt = -2 := hp45
      unfold cb_X4_kindWord_46
      refine WP.ret ?_
      exact ⟨hI45, (KB.tr (KB.rf : KB F G F G) hB45), (KT.tr (rfl : KT F F) hT45), (KO.tr (rfl : KO F F) hO45), trivial⟩
theorem cs_X4_endFunction {fu : Nat} (hfu : 8589934592 ≤ fu) (F : PF) (G : PG) (hI : CI F G) : WP (cf_X4_endFunction fu F G) (fun r' F' G' => CI F' G' ∧ KB F G F' G' ∧ KT F F' ∧ KO F F' ∧ KK F F' ∧ True) := by
  unfold cf_X4_endFunction
  unfold cb_X4_endFunction_0
  have l_1 : (66 : Int32).toInt = 66 := rfl
  have l_2 : (0 : Int32).toInt = 0 := rfl
  refine WP.bind (cs_X1_addPair hfu (66 : Int32) (0 : Int32) F G hI) ?_
  rintro r3 F3 G3 ⟨hI3, hB3, hT3, hO3, hK3, hp3⟩
  dsimp only
  have q_4 := hI.r 10 rfl
  have q_5 := hI3.r 10 rfl
  have e_6 : (F3 10).toInt = (F 10).toInt := hO3
  unfold cb_X4_endFunction_10
  have l_7 : (15 : Int32).toInt = 15 := rfl
  refine WP.bind (cs_X1_add hfu (15 : Int32) F3 G3 hI3) ?_
  rintro r8 F8 G8 ⟨hI8, hB8, hT8, hO8, hK8, hp8⟩
  dsimp only
  have q_9 := hI8.r 10 rfl
  have e_10 : (F8 10).toInt = (F3 10).toInt := hO8
  have q_11 := hI3.r 21 rfl
  have q_12 := hI8.r 21 rfl
  have e_13 : (F8 21).toInt = (F3 21).toInt := congrArg Int32.toInt hp8
  unfold cb_X4_endFunction_19
  refine WP.ite (fun c_14 => ?_) (fun c_14 => ?_)
  · skip
    have q_15 := hI8.r 45 rfl
    have e_16 := i_eq.mp (show (F8 45) = (0 : Int32) from c_14)
    unfold cb_X4_endFunction_62
    refine WP.bind (cs_X5_leave hfu F8 G8 hI8) ?_
    rintro r17 F17 G17 ⟨hI17, hB17, hT17, hO17, hK17, hp17⟩
    dsimp only
    have q_18 := hI17.r 10 rfl
    have e_19 : (F17 10).toInt = (F8 10).toInt := hO17
    unfold cb_X4_endFunction_69
    have q_20 := i_rng (F17 28)
    first | have e_21 : ((F17 28) + (1 : Int32)).toInt = (F17 28).toInt + (1) := i_addn (F17 28) rfl (by omega) (by omega) | have e_22 := i_rng ((F17 28) + (1 : Int32))
    have j_23 : CI (fup F17 28 ((F17 28) + (1 : Int32))) G17 := CI.fr rfl hI17
    unfold cb_X4_endFunction_79
    refine WP.ret ?_
    exact ⟨j_23, (KB.f (by decide) (KB.tr (KB.tr (KB.tr (KB.rf : KB F G F G) hB3) hB8) hB17)), (KT.f (by decide) (KT.tr (KT.tr (KT.tr (rfl : KT F F) hT3) hT8) hT17)), (KO.f (by decide) (KO.tr (KO.tr (KO.tr (rfl : KO F F) hO3) hO8) hO17)), (KK.f (by decide) (KK.tr (KK.tr (KK.tr (rfl : KK F F) hK3) hK8) hK17)), trivial⟩
  · skip
    have q_24 := hI8.r 45 rfl
    have e_25 := mt i_eq.mpr (show ¬ ((F8 45) = (0 : Int32)) from c_14)
    unfold cb_X4_endFunction_29
    have q_26 := i_rng (F8 28)
    refine WP.bind (cs_X8_has hfu (F8 28) F8 G8 hI8) ?_
    rintro r27 _ _ ⟨rfl, rfl, hp27⟩
    dsimp only
    have q_28 := b_rng (hp27.1)
    unfold cb_X4_endFunction_40
    refine WP.ite (fun c_29 => ?_) (fun c_29 => ?_)
    · skip
      have e_30 := i_eq.mp (show r27 = (0 : Int32) from c_29)
      unfold cb_X4_endFunction_62
      refine WP.bind (cs_X5_leave hfu F8 G8 hI8) ?_
      rintro r31 F31 G31 ⟨hI31, hB31, hT31, hO31, hK31, hp31⟩
      dsimp only
      have q_32 := hI31.r 10 rfl
      have e_33 : (F31 10).toInt = (F8 10).toInt := hO31
      unfold cb_X4_endFunction_69
      have q_34 := i_rng (F31 28)
      first | have e_35 : ((F31 28) + (1 : Int32)).toInt = (F31 28).toInt + (1) := i_addn (F31 28) rfl (by omega) (by omega) | have e_36 := i_rng ((F31 28) + (1 : Int32))
      have j_37 : CI (fup F31 28 ((F31 28) + (1 : Int32))) G31 := CI.fr rfl hI31
      unfold cb_X4_endFunction_79
      refine WP.ret ?_
      exact ⟨j_37, (KB.f (by decide) (KB.tr (KB.tr (KB.tr (KB.rf : KB F G F G) hB3) hB8) hB31)), (KT.f (by decide) (KT.tr (KT.tr (KT.tr (rfl : KT F F) hT3) hT8) hT31)), (KO.f (by decide) (KO.tr (KO.tr (KO.tr (rfl : KO F F) hO3) hO8) hO31)), (KK.f (by decide) (KK.tr (KK.tr (KK.tr (rfl : KK F F) hK3) hK8) hK31)), trivial⟩
    · skip
      have e_38 := mt i_eq.mpr (show ¬ (r27 = (0 : Int32)) from c_29)
      unfold cb_X4_endFunction_43
      refine WP.bind (cs_X5_measure hfu F8 G8 hI8) ?_
      rintro r39 _ _ ⟨rfl, rfl, hp39⟩
      dsimp only
      unfold cb_X4_endFunction_61
      refine WP.ix (show vp_in (F8 28) 450 from vp_in_iff.mpr ⟨by omega, by omega⟩) ?_
      have j_40 : CI F8 (gup G8 79 (F8 28).toNatClampNeg r39) := CI.g (by decide) hI8
      unfold cb_X4_endFunction_62
      refine WP.bind (cs_X5_leave hfu F8 (gup G8 79 (F8 28).toNatClampNeg r39) j_40) ?_
      rintro r41 F41 G41 ⟨hI41, hB41, hT41, hO41, hK41, hp41⟩
      dsimp only
      have q_42 := hI41.r 10 rfl
      have e_43 : (F41 10).toInt = (F8 10).toInt := hO41
      unfold cb_X4_endFunction_69
      have q_44 := i_rng (F41 28)
      first | have e_45 : ((F41 28) + (1 : Int32)).toInt = (F41 28).toInt + (1) := i_addn (F41 28) rfl (by omega) (by omega) | have e_46 := i_rng ((F41 28) + (1 : Int32))
      have j_47 : CI (fup F41 28 ((F41 28) + (1 : Int32))) G41 := CI.fr rfl hI41
      unfold cb_X4_endFunction_79
      refine WP.ret ?_
      exact ⟨j_47, (KB.f (by decide) (KB.tr (KB.g (by decide) (KB.tr (KB.tr (KB.rf : KB F G F G) hB3) hB8)) hB41)), (KT.f (by decide) (KT.tr (KT.tr (KT.tr (rfl : KT F F) hT3) hT8) hT41)), (KO.f (by decide) (KO.tr (KO.tr (KO.tr (rfl : KO F F) hO3) hO8) hO41)), (KK.f (by decide) (KK.tr (KK.tr (KK.tr (rfl : KK F F) hK3) hK8) hK41)), trivial⟩
theorem cs_X8_addFunction {fu : Nat} (hfu : 8589934592 ≤ fu) (x1 : Int32) (x2 : Int32) (F : PF) (G : PG) (hI : CI F G) (hz_x2 : x2 = 0 ∨ x2 = 1) : WP (cf_X8_addFunction fu x1 x2 F G) (fun r' F' G' => CI F' G' ∧ KB F G F' G' ∧ KT F F' ∧ KO F F' ∧ KK F F' ∧ True) := by
  have q_x2 := b_rng hz_x2
  unfold cf_X8_addFunction
  unfold cb_X8_addFunction_0
  refine WP.ite (fun c_1 => ?_) (fun c_1 => ?_)
  · skip
    have l_2 : (450 : Int32).toInt = 450 := rfl
    have q_3 := hI.r 74 rfl
    have e_4 := i_le.mp (show (450 : Int32) ≤ (F 74) from c_1)
    unfold cb_X8_addFunction_96
    refine WP.ret ?_
    exact ⟨hI, (KB.rf : KB F G F G), (rfl : KT F F), (rfl : KO F F), (rfl : KK F F), trivial⟩
  · skip
    have l_5 : (450 : Int32).toInt = 450 := rfl
    have q_6 := hI.r 74 rfl
    have e_7 := mt i_le.mpr (show ¬ ((450 : Int32) ≤ (F 74)) from c_1)
    unfold cb_X8_addFunction_10
    refine WP.ix (show vp_in (F 74) 450 from vp_in_iff.mpr ⟨by omega, by omega⟩) ?_
    have j_8 : CI F (gup G 77 (F 74).toNatClampNeg x1) := CI.g (by decide) hI
    unfold cb_X8_addFunction_20
    have q_9 := i_rng x2
    refine WP.bind (cs_X11_truth hfu x2 F (gup G 77 (F 74).toNatClampNeg x1) j_8 hz_x2) ?_
    rintro r10 _ _ ⟨rfl, rfl, hp10⟩
    dsimp only
    unfold cb_X8_addFunction_32
    refine WP.ix (show vp_in (F 74) 450 from vp_in_iff.mpr ⟨by omega, by omega⟩) ?_
    have j_11 : CI F (gup (gup G 77 (F 74).toNatClampNeg x1) 82 (F 74).toNatClampNeg r10) := CI.g (by decide) j_8
    unfold cb_X8_addFunction_33
    refine WP.ix (show vp_in (F 74) 450 from vp_in_iff.mpr ⟨by omega, by omega⟩) ?_
    have q_13 := hI.r 85 rfl
    have j_12 : CI F (gup (gup (gup G 77 (F 74).toNatClampNeg x1) 82 (F 74).toNatClampNeg r10) 83 (F 74).toNatClampNeg (F 85)) := CI.g83 j_11 ⟨by omega, by omega⟩
    unfold cb_X8_addFunction_46
    refine WP.ix (show vp_in (F 74) 450 from vp_in_iff.mpr ⟨by omega, by omega⟩) ?_
    have j_14 : CI F (gup (gup (gup (gup G 77 (F 74).toNatClampNeg x1) 82 (F 74).toNatClampNeg r10) 83 (F 74).toNatClampNeg (F 85)) 78 (F 74).toNatClampNeg (0 : Int32)) := CI.g (by decide) j_12
    unfold cb_X8_addFunction_56
    refine WP.ix (show vp_in (F 74) 450 from vp_in_iff.mpr ⟨by omega, by omega⟩) ?_
    have j_15 : CI F (gup (gup (gup (gup (gup G 77 (F 74).toNatClampNeg x1) 82 (F 74).toNatClampNeg r10) 83 (F 74).toNatClampNeg (F 85)) 78 (F 74).toNatClampNeg (0 : Int32)) 81 (F 74).toNatClampNeg (0 : Int32)) := CI.g (by decide) j_14
    unfold cb_X8_addFunction_66
    refine WP.ix (show vp_in (F 74) 450 from vp_in_iff.mpr ⟨by omega, by omega⟩) ?_
    have j_16 : CI F (gup (gup (gup (gup (gup (gup G 77 (F 74).toNatClampNeg x1) 82 (F 74).toNatClampNeg r10) 83 (F 74).toNatClampNeg (F 85)) 78 (F 74).toNatClampNeg (0 : Int32)) 81 (F 74).toNatClampNeg (0 : Int32)) 79 (F 74).toNatClampNeg (4 : Int32)) := CI.g (by decide) j_15
    unfold cb_X8_addFunction_76
    refine WP.ix (show vp_in (F 74) 450 from vp_in_iff.mpr ⟨by omega, by omega⟩) ?_
    have j_17 : CI F (gup (gup (gup (gup (gup (gup (gup G 77 (F 74).toNatClampNeg x1) 82 (F 74).toNatClampNeg r10) 83 (F 74).toNatClampNeg (F 85)) 78 (F 74).toNatClampNeg (0 : Int32)) 81 (F 74).toNatClampNeg (0 : Int32)) 79 (F 74).toNatClampNeg (4 : Int32)) 80 (F 74).toNatClampNeg (0 : Int32)) := CI.g (by decide) j_16
    unfold cb_X8_addFunction_86
    first | have e_18 : ((F 74) + (1 : Int32)).toInt = (F 74).toInt + (1) := i_addn (F 74) rfl (by omega) (by omega) | have e_19 := i_rng ((F 74) + (1 : Int32))
    have j_20 : CI (fup F 74 ((F 74) + (1 : Int32))) (gup (gup (gup (gup (gup (gup (gup G 77 (F 74).toNatClampNeg x1) 82 (F 74).toNatClampNeg r10) 83 (F 74).toNatClampNeg (F 85)) 78 (F 74).toNatClampNeg (0 : Int32)) 81 (F 74).toNatClampNeg (0 : Int32)) 79 (F 74).toNatClampNeg (4 : Int32)) 80 (F 74).toNatClampNeg (0 : Int32)) := CI.rg (k := 74) (x := ((F 74) + (1 : Int32))) rfl (by decide) (by decide) j_17 ⟨by omega, by omega⟩
    unfold cb_X8_addFunction_96
    refine WP.ret ?_
    exact ⟨j_20, (KB.f (by decide) (KB.g (by decide) (KB.g (by decide) (KB.g (by decide) (KB.g (by decide) (KB.g (by decide) (KB.g (by decide) (KB.g (by decide) (KB.rf : KB F G F G))))))))), (KT.f (by decide) (rfl : KT F F)), (KO.f (by decide) (rfl : KO F F)), (KK.f (by decide) (rfl : KK F F)), trivial⟩
theorem cs_X5_enterFunction {fu : Nat} (hfu : 8589934592 ≤ fu) (x1 : Int32) (F : PF) (G : PG) (hI : CI F G) (hz_x1 : x1 = 0 ∨ x1 = 1) : WP (cf_X5_enterFunction fu x1 F G) (fun r' F' G' => CI F' G' ∧ KB F G F' G' ∧ KT F F' ∧ KO F F' ∧ KK F F' ∧ True) := by
  have q_x1 := b_rng hz_x1
  unfold cf_X5_enterFunction
  unfold cb_X5_enterFunction_0
  have q_1 := i_rng x1
  refine WP.bz (show x1 = 0 ∨ x1 = 1 from hz_x1) ?_
  have q_2 := b_rng (show x1 = 0 ∨ x1 = 1 from hz_x1)
  have j_3 : CI (fup F 48 x1) G := CI.rg (k := 48) (x := x1) rfl (by decide) (by decide) hI ⟨by omega, by omega⟩
  unfold cb_X5_enterFunction_5
  have l_4 : (0 : Int32).toInt = 0 := rfl
  have j_5 : CI (fup (fup F 48 x1) 49 (0 : Int32)) G := CI.fr rfl j_3
  unfold cb_X5_enterFunction_10
  have j_6 : CI (fup (fup (fup F 48 x1) 49 (0 : Int32)) 50 (0 : Int32)) G := CI.fr rfl j_5
  unfold cb_X5_enterFunction_15
  refine WP.bind (cs_X5_enter hfu (fup (fup (fup F 48 x1) 49 (0 : Int32)) 50 (0 : Int32)) G j_6) ?_
  rintro r7 F7 G7 ⟨hI7, hB7, hT7, hO7, hK7, hp7⟩
  dsimp only
  have q_8 := hI.r 10 rfl
  have q_9 := hI7.r 10 rfl
  have e_10 : (F7 10).toInt = (F 10).toInt := hO7
  unfold cb_X5_enterFunction_19
  refine WP.ret ?_
  exact ⟨hI7, (KB.tr (KB.f (by decide) (KB.f (by decide) (KB.f (by decide) (KB.rf : KB F G F G)))) hB7), (KT.tr (KT.f (by decide) (KT.f (by decide) (KT.f (by decide) (rfl : KT F F)))) hT7), (KO.tr (KO.f (by decide) (KO.f (by decide) (KO.f (by decide) (rfl : KO F F)))) hO7), (KK.tr (KK.f (by decide) (KK.f (by decide) (KK.f (by decide) (rfl : KK F F)))) hK7), trivial⟩
theorem cs_X5_announce {fu : Nat} (hfu : 8589934592 ≤ fu) (x1 : Int32) (x2 : Int32) (x3 : Int32) (F : PF) (G : PG) (hI : CI F G) : WP (cf_X5_announce fu x1 x2 x3 F G) (fun r' F' G' => CI F' G' ∧ KB F G F' G' ∧ KT F F' ∧ KO F F' ∧ KK F F' ∧ True) := by
  unfold cf_X5_announce
  unfold cb_X5_announce_0
  have q_1 := i_rng x1
  refine WP.bind (cs_X5_known hfu x1 F G hI) ?_
  rintro r2 _ _ ⟨rfl, rfl, hp2⟩
  dsimp only
  unfold cb_X5_announce_5
  refine WP.ite (fun c_3 => ?_) (fun c_3 => ?_)
  · skip
    have q_4 := i_rng r2
    have l_5 : (-1 : Int32).toInt = -1 := rfl
    have e_6 := i_eq.mp (show r2 = (-1 : Int32) from c_3)
    unfold cb_X5_announce_9
    have q_7 := i_rng x2
    have l_8 : (4 : Int32).toInt = 4 := rfl
    have q_9 := i_rng x3
    have l_10 : (0 : Int32).toInt = 0 := rfl
    refine WP.bind (cs_X5_install hfu x1 x2 (4 : Int32) x3 (0 : Int32) F G hI) ?_
    rintro r11 F11 G11 ⟨hI11, hB11, hT11, hO11, hK11, hp11⟩
    dsimp only
    have q_12 := hI.r 10 rfl
    have q_13 := hI11.r 10 rfl
    have e_14 : (F11 10).toInt = (F 10).toInt := hO11
    unfold cb_X5_announce_18
    refine WP.ret ?_
    exact ⟨hI11, (KB.tr (KB.rf : KB F G F G) hB11), (KT.tr (rfl : KT F F) hT11), (KO.tr (rfl : KO F F) hO11), (KK.tr (rfl : KK F F) hK11), trivial⟩
  · skip
    have q_15 := i_rng r2
    have l_16 : (-1 : Int32).toInt = -1 := rfl
    have e_17 := mt i_eq.mpr (show ¬ (r2 = (-1 : Int32)) from c_3)
    unfold cb_X5_announce_18
    refine WP.ret ?_
    exact ⟨hI, (KB.rf : KB F G F G), (rfl : KT F F), (rfl : KO F F), (rfl : KK F F), trivial⟩
theorem cs_X5_tellFunction {fu : Nat} (hfu : 8589934592 ≤ fu) (x1 : Int32) (x2 : Int32) (x3 : Int32) (F : PF) (G : PG) (hI : CI F G) : WP (cf_X5_tellFunction fu x1 x2 x3 F G) (fun r' F' G' => CI F' G' ∧ KB F G F' G' ∧ KT F F' ∧ KO F F' ∧ KK F F' ∧ True) := by
  unfold cf_X5_tellFunction
  unfold cb_X5_tellFunction_0
  have q_1 := i_rng x1
  refine WP.bind (cs_X5_known hfu x1 F G hI) ?_
  rintro r2 _ _ ⟨rfl, rfl, hp2⟩
  dsimp only
  unfold cb_X5_tellFunction_5
  have q_3 := i_rng r2
  refine WP.bind (cs_X5_kind hfu r2 F G hI) ?_
  rintro r4 _ _ ⟨rfl, rfl, hp4⟩
  dsimp only
  have q_5 := i_rng r4
  unfold cb_X5_tellFunction_13
  refine WP.ite (fun c_6 => ?_) (fun c_6 => ?_)
  · skip
    have l_7 : (4 : Int32).toInt = 4 := rfl
    have e_8 := i_eq.mp (show r4 = (4 : Int32) from c_6)
    unfold cb_X5_tellFunction_17
    refine WP.bind (cs_X5_value hfu r2 F G hI) ?_
    rintro r9 _ _ ⟨rfl, rfl, hp9⟩
    dsimp only
    unfold cb_X5_tellFunction_23
    refine WP.ite (fun c_10 => ?_) (fun c_10 => ?_)
    · skip
      have q_11 := i_rng r9
      have q_12 := i_rng x3
      have e_13 := i_eq.mp (show r9 = x3 from c_10)
      unfold cb_X5_tellFunction_33
      refine WP.ite (fun c_14 => ?_) (fun c_14 => ?_)
      · skip
        have l_15 : (40 : Int32).toInt = 40 := rfl
        have e_16 := i_lt.mp (show x3 < (40 : Int32) from c_14)
        unfold cb_X5_tellFunction_46
        refine WP.ret ?_
        exact ⟨hI, (KB.rf : KB F G F G), (rfl : KT F F), (rfl : KO F F), (rfl : KK F F), trivial⟩
      · skip
        have l_17 : (40 : Int32).toInt = 40 := rfl
        have e_18 := mt i_lt.mpr (show ¬ (x3 < (40 : Int32)) from c_14)
        unfold cb_X5_tellFunction_39
        have l_19 : (8 : Int32).toInt = 8 := rfl
        have q_20 := i_rng x2
        refine WP.bind (cs_X5_note hfu (8 : Int32) x2 F G hI) ?_
        rintro r21 F21 G21 ⟨hI21, hB21, hT21, hO21, hK21, hp21⟩
        dsimp only
        have q_22 := hI.r 10 rfl
        have q_23 := hI21.r 10 rfl
        have e_24 : (F21 10).toInt = (F 10).toInt := hO21
        unfold cb_X5_tellFunction_46
        refine WP.ret ?_
        exact ⟨hI21, (KB.tr (KB.rf : KB F G F G) hB21), (KT.tr (rfl : KT F F) hT21), (KO.tr (rfl : KO F F) hO21), (KK.tr (rfl : KK F F) hK21), trivial⟩
    · skip
      have q_25 := i_rng r9
      have q_26 := i_rng x3
      have e_27 := mt i_eq.mpr (show ¬ (r9 = x3) from c_10)
      unfold cb_X5_tellFunction_27
      have l_28 : (1 : Int32).toInt = 1 := rfl
      have q_29 := i_rng x2
      refine WP.bind (cs_X5_note hfu (1 : Int32) x2 F G hI) ?_
      rintro r30 F30 G30 ⟨hI30, hB30, hT30, hO30, hK30, hp30⟩
      dsimp only
      have q_31 := hI.r 10 rfl
      have q_32 := hI30.r 10 rfl
      have e_33 : (F30 10).toInt = (F 10).toInt := hO30
      unfold cb_X5_tellFunction_33
      refine WP.ite (fun c_34 => ?_) (fun c_34 => ?_)
      · skip
        have l_35 : (40 : Int32).toInt = 40 := rfl
        have e_36 := i_lt.mp (show x3 < (40 : Int32) from c_34)
        unfold cb_X5_tellFunction_46
        refine WP.ret ?_
        exact ⟨hI30, (KB.tr (KB.rf : KB F G F G) hB30), (KT.tr (rfl : KT F F) hT30), (KO.tr (rfl : KO F F) hO30), (KK.tr (rfl : KK F F) hK30), trivial⟩
      · skip
        have l_37 : (40 : Int32).toInt = 40 := rfl
        have e_38 := mt i_lt.mpr (show ¬ (x3 < (40 : Int32)) from c_34)
        unfold cb_X5_tellFunction_39
        have l_39 : (8 : Int32).toInt = 8 := rfl
        refine WP.bind (cs_X5_note hfu (8 : Int32) x2 F30 G30 hI30) ?_
        rintro r40 F40 G40 ⟨hI40, hB40, hT40, hO40, hK40, hp40⟩
        dsimp only
        have q_41 := hI40.r 10 rfl
        have e_42 : (F40 10).toInt = (F30 10).toInt := hO40
        unfold cb_X5_tellFunction_46
        refine WP.ret ?_
        exact ⟨hI40, (KB.tr (KB.tr (KB.rf : KB F G F G) hB30) hB40), (KT.tr (KT.tr (rfl : KT F F) hT30) hT40), (KO.tr (KO.tr (rfl : KO F F) hO30) hO40), (KK.tr (KK.tr (rfl : KK F F) hK30) hK40), trivial⟩
  · skip
    have l_43 : (4 : Int32).toInt = 4 := rfl
    have e_44 := mt i_eq.mpr (show ¬ (r4 = (4 : Int32)) from c_6)
    unfold cb_X5_tellFunction_27
    have l_45 : (1 : Int32).toInt = 1 := rfl
    have q_46 := i_rng x2
    refine WP.bind (cs_X5_note hfu (1 : Int32) x2 F G hI) ?_
    rintro r47 F47 G47 ⟨hI47, hB47, hT47, hO47, hK47, hp47⟩
    dsimp only
    have q_48 := hI.r 10 rfl
    have q_49 := hI47.r 10 rfl
    have e_50 : (F47 10).toInt = (F 10).toInt := hO47
    unfold cb_X5_tellFunction_33
    refine WP.ite (fun c_51 => ?_) (fun c_51 => ?_)
    · skip
      have q_52 := i_rng x3
      have l_53 : (40 : Int32).toInt = 40 := rfl
      have e_54 := i_lt.mp (show x3 < (40 : Int32) from c_51)
      unfold cb_X5_tellFunction_46
      refine WP.ret ?_
      exact ⟨hI47, (KB.tr (KB.rf : KB F G F G) hB47), (KT.tr (rfl : KT F F) hT47), (KO.tr (rfl : KO F F) hO47), (KK.tr (rfl : KK F F) hK47), trivial⟩
    · skip
      have q_55 := i_rng x3
      have l_56 : (40 : Int32).toInt = 40 := rfl
      have e_57 := mt i_lt.mpr (show ¬ (x3 < (40 : Int32)) from c_51)
      unfold cb_X5_tellFunction_39
      have l_58 : (8 : Int32).toInt = 8 := rfl
      refine WP.bind (cs_X5_note hfu (8 : Int32) x2 F47 G47 hI47) ?_
      rintro r59 F59 G59 ⟨hI59, hB59, hT59, hO59, hK59, hp59⟩
      dsimp only
      have q_60 := hI59.r 10 rfl
      have e_61 : (F59 10).toInt = (F47 10).toInt := hO59
      unfold cb_X5_tellFunction_46
      refine WP.ret ?_
      exact ⟨hI59, (KB.tr (KB.tr (KB.rf : KB F G F G) hB47) hB59), (KT.tr (KT.tr (rfl : KT F F) hT47) hT59), (KO.tr (KO.tr (rfl : KO F F) hO47) hO59), (KK.tr (KK.tr (rfl : KK F F) hK47) hK59), trivial⟩
theorem cs_X4_startFunction {fu : Nat} (hfu : 8589934592 ≤ fu) (x1 : Int32) (x2 : Int32) (x3 : Int32) (F : PF) (G : PG) (hI : CI F G) (hz_x3 : x3 = 0 ∨ x3 = 1) : WP (cf_X4_startFunction fu x1 x2 x3 F G) (fun r' F' G' => CI F' G' ∧ KB F G F' G' ∧ KT F F' ∧ KO F F' ∧ KK F F' ∧ True) := by
  have q_x3 := b_rng hz_x3
  unfold cf_X4_startFunction
  unfold cb_X4_startFunction_0
  refine WP.ite (fun c_1 => ?_) (fun c_1 => ?_)
  · skip
    have q_2 := hI.r 45 rfl
    have l_3 : (0 : Int32).toInt = 0 := rfl
    have e_4 := i_eq.mp (show (F 45) = (0 : Int32) from c_1)
    unfold cb_X4_startFunction_26
    have q_5 := i_rng x2
    have q_6 := i_rng x3
    refine WP.bind (cs_X8_addFunction hfu x2 x3 F G hI hz_x3) ?_
    rintro r7 F7 G7 ⟨hI7, hB7, hT7, hO7, hK7, hp7⟩
    dsimp only
    have q_8 := hI.r 10 rfl
    have q_9 := hI7.r 10 rfl
    have e_10 : (F7 10).toInt = (F 10).toInt := hO7
    unfold cb_X4_startFunction_35
    have q_11 := i_rng x1
    have q_12 := i_rng (F7 28)
    refine WP.bind (cs_X5_announce hfu x1 x2 (F7 28) F7 G7 hI7) ?_
    rintro r13 F13 G13 ⟨hI13, hB13, hT13, hO13, hK13, hp13⟩
    dsimp only
    have q_14 := hI13.r 10 rfl
    have e_15 : (F13 10).toInt = (F7 10).toInt := hO13
    unfold cb_X4_startFunction_48
    refine WP.ite (fun c_16 => ?_) (fun c_16 => ?_)
    · skip
      have q_17 := i_rng (F13 27)
      have e_18 := i_eq.mp (show x1 = (F13 27) from c_16)
      unfold cb_X4_startFunction_56
      refine WP.ite (fun c_19 => ?_) (fun c_19 => ?_)
      · skip
        have q_20 := i_rng (F13 76)
        have l_21 : (-1 : Int32).toInt = -1 := rfl
        have e_22 := i_eq.mp (show (F13 76) = (-1 : Int32) from c_19)
        unfold cb_X4_startFunction_67
        have q_23 := i_rng (F13 28)
        have j_24 : CI (fup F13 76 (F13 28)) G13 := CI.fr rfl hI13
        unfold cb_X4_startFunction_78
        refine WP.bind (cs_X8_has hfu (F13 28) (fup F13 76 (F13 28)) G13 j_24) ?_
        rintro r25 _ _ ⟨rfl, rfl, hp25⟩
        dsimp only
        have q_26 := b_rng (hp25.1)
        unfold cb_X4_startFunction_89
        refine WP.ite (fun c_27 => ?_) (fun c_27 => ?_)
        · skip
          have e_28 := i_eq.mp (show r25 = (0 : Int32) from c_27)
          unfold cb_X4_startFunction_111
          refine WP.bind (cs_X5_enterFunction hfu x3 (fup F13 76 (F13 28)) G13 j_24 hz_x3) ?_
          rintro r29 F29 G29 ⟨hI29, hB29, hT29, hO29, hK29, hp29⟩
          dsimp only
          have q_30 := hI29.r 10 rfl
          have e_31 : (F29 10).toInt = (F13 10).toInt := hO29
          unfold cb_X4_startFunction_119
          refine WP.ret ?_
          exact ⟨hI29, (KB.tr (KB.f (by decide) (KB.tr (KB.tr (KB.rf : KB F G F G) hB7) hB13)) hB29), (KT.tr (KT.f (by decide) (KT.tr (KT.tr (rfl : KT F F) hT7) hT13)) hT29), (KO.tr (KO.f (by decide) (KO.tr (KO.tr (rfl : KO F F) hO7) hO13)) hO29), (KK.tr (KK.f (by decide) (KK.tr (KK.tr (rfl : KK F F) hK7) hK13)) hK29), trivial⟩
        · skip
          have e_32 := mt i_eq.mpr (show ¬ (r25 = (0 : Int32)) from c_27)
          unfold cb_X4_startFunction_92
          refine WP.ix (show vp_in (F13 28) 450 from vp_in_iff.mpr ⟨by omega, by omega⟩) ?_
          have j_33 : CI (fup F13 76 (F13 28)) (gup G13 80 (F13 28).toNatClampNeg (F13 6)) := CI.g (by decide) j_24
          unfold cb_X4_startFunction_111
          refine WP.bind (cs_X5_enterFunction hfu x3 (fup F13 76 (F13 28)) (gup G13 80 (F13 28).toNatClampNeg (F13 6)) j_33 hz_x3) ?_
          rintro r34 F34 G34 ⟨hI34, hB34, hT34, hO34, hK34, hp34⟩
          dsimp only
          have q_35 := hI34.r 10 rfl
          have e_36 : (F34 10).toInt = (F13 10).toInt := hO34
          unfold cb_X4_startFunction_119
          refine WP.ret ?_
          exact ⟨hI34, (KB.tr (KB.g (by decide) (KB.f (by decide) (KB.tr (KB.tr (KB.rf : KB F G F G) hB7) hB13))) hB34), (KT.tr (KT.f (by decide) (KT.tr (KT.tr (rfl : KT F F) hT7) hT13)) hT34), (KO.tr (KO.f (by decide) (KO.tr (KO.tr (rfl : KO F F) hO7) hO13)) hO34), (KK.tr (KK.f (by decide) (KK.tr (KK.tr (rfl : KK F F) hK7) hK13)) hK34), trivial⟩
      · skip
        have q_37 := i_rng (F13 76)
        have l_38 : (-1 : Int32).toInt = -1 := rfl
        have e_39 := mt i_eq.mpr (show ¬ ((F13 76) = (-1 : Int32)) from c_19)
        unfold cb_X4_startFunction_78
        have q_40 := i_rng (F13 28)
        refine WP.bind (cs_X8_has hfu (F13 28) F13 G13 hI13) ?_
        rintro r41 _ _ ⟨rfl, rfl, hp41⟩
        dsimp only
        have q_42 := b_rng (hp41.1)
        unfold cb_X4_startFunction_89
        refine WP.ite (fun c_43 => ?_) (fun c_43 => ?_)
        · skip
          have e_44 := i_eq.mp (show r41 = (0 : Int32) from c_43)
          unfold cb_X4_startFunction_111
          refine WP.bind (cs_X5_enterFunction hfu x3 F13 G13 hI13 hz_x3) ?_
          rintro r45 F45 G45 ⟨hI45, hB45, hT45, hO45, hK45, hp45⟩
          dsimp only
          have q_46 := hI45.r 10 rfl
          have e_47 : (F45 10).toInt = (F13 10).toInt := hO45
          unfold cb_X4_startFunction_119
          refine WP.ret ?_
          exact ⟨hI45, (KB.tr (KB.tr (KB.tr (KB.rf : KB F G F G) hB7) hB13) hB45), (KT.tr (KT.tr (KT.tr (rfl : KT F F) hT7) hT13) hT45), (KO.tr (KO.tr (KO.tr (rfl : KO F F) hO7) hO13) hO45), (KK.tr (KK.tr (KK.tr (rfl : KK F F) hK7) hK13) hK45), trivial⟩
        · skip
          have e_48 := mt i_eq.mpr (show ¬ (r41 = (0 : Int32)) from c_43)
          unfold cb_X4_startFunction_92
          refine WP.ix (show vp_in (F13 28) 450 from vp_in_iff.mpr ⟨by omega, by omega⟩) ?_
          have j_49 : CI F13 (gup G13 80 (F13 28).toNatClampNeg (F13 6)) := CI.g (by decide) hI13
          unfold cb_X4_startFunction_111
          refine WP.bind (cs_X5_enterFunction hfu x3 F13 (gup G13 80 (F13 28).toNatClampNeg (F13 6)) j_49 hz_x3) ?_
          rintro r50 F50 G50 ⟨hI50, hB50, hT50, hO50, hK50, hp50⟩
          dsimp only
          have q_51 := hI50.r 10 rfl
          have e_52 : (F50 10).toInt = (F13 10).toInt := hO50
          unfold cb_X4_startFunction_119
          refine WP.ret ?_
          exact ⟨hI50, (KB.tr (KB.g (by decide) (KB.tr (KB.tr (KB.rf : KB F G F G) hB7) hB13)) hB50), (KT.tr (KT.tr (KT.tr (rfl : KT F F) hT7) hT13) hT50), (KO.tr (KO.tr (KO.tr (rfl : KO F F) hO7) hO13) hO50), (KK.tr (KK.tr (KK.tr (rfl : KK F F) hK7) hK13) hK50), trivial⟩
    · skip
      have q_53 := i_rng (F13 27)
      have e_54 := mt i_eq.mpr (show ¬ (x1 = (F13 27)) from c_16)
      unfold cb_X4_startFunction_78
      have q_55 := i_rng (F13 28)
      refine WP.bind (cs_X8_has hfu (F13 28) F13 G13 hI13) ?_
      rintro r56 _ _ ⟨rfl, rfl, hp56⟩
      dsimp only
      have q_57 := b_rng (hp56.1)
      unfold cb_X4_startFunction_89
      refine WP.ite (fun c_58 => ?_) (fun c_58 => ?_)
      · skip
        have e_59 := i_eq.mp (show r56 = (0 : Int32) from c_58)
        unfold cb_X4_startFunction_111
        refine WP.bind (cs_X5_enterFunction hfu x3 F13 G13 hI13 hz_x3) ?_
        rintro r60 F60 G60 ⟨hI60, hB60, hT60, hO60, hK60, hp60⟩
        dsimp only
        have q_61 := hI60.r 10 rfl
        have e_62 : (F60 10).toInt = (F13 10).toInt := hO60
        unfold cb_X4_startFunction_119
        refine WP.ret ?_
        exact ⟨hI60, (KB.tr (KB.tr (KB.tr (KB.rf : KB F G F G) hB7) hB13) hB60), (KT.tr (KT.tr (KT.tr (rfl : KT F F) hT7) hT13) hT60), (KO.tr (KO.tr (KO.tr (rfl : KO F F) hO7) hO13) hO60), (KK.tr (KK.tr (KK.tr (rfl : KK F F) hK7) hK13) hK60), trivial⟩
      · skip
        have e_63 := mt i_eq.mpr (show ¬ (r56 = (0 : Int32)) from c_58)
        unfold cb_X4_startFunction_92
        refine WP.ix (show vp_in (F13 28) 450 from vp_in_iff.mpr ⟨by omega, by omega⟩) ?_
        have j_64 : CI F13 (gup G13 80 (F13 28).toNatClampNeg (F13 6)) := CI.g (by decide) hI13
        unfold cb_X4_startFunction_111
        refine WP.bind (cs_X5_enterFunction hfu x3 F13 (gup G13 80 (F13 28).toNatClampNeg (F13 6)) j_64 hz_x3) ?_
        rintro r65 F65 G65 ⟨hI65, hB65, hT65, hO65, hK65, hp65⟩
        dsimp only
        have q_66 := hI65.r 10 rfl
        have e_67 : (F65 10).toInt = (F13 10).toInt := hO65
        unfold cb_X4_startFunction_119
        refine WP.ret ?_
        exact ⟨hI65, (KB.tr (KB.g (by decide) (KB.tr (KB.tr (KB.rf : KB F G F G) hB7) hB13)) hB65), (KT.tr (KT.tr (KT.tr (rfl : KT F F) hT7) hT13) hT65), (KO.tr (KO.tr (KO.tr (rfl : KO F F) hO7) hO13) hO65), (KK.tr (KK.tr (KK.tr (rfl : KK F F) hK7) hK13) hK65), trivial⟩
  · skip
    have q_68 := hI.r 45 rfl
    have l_69 : (0 : Int32).toInt = 0 := rfl
    have e_70 := mt i_eq.mpr (show ¬ ((F 45) = (0 : Int32)) from c_1)
    unfold cb_X4_startFunction_10
    have q_71 := i_rng x1
    have q_72 := i_rng x2
    have q_73 := i_rng (F 28)
    refine WP.bind (cs_X5_tellFunction hfu x1 x2 (F 28) F G hI) ?_
    rintro r74 F74 G74 ⟨hI74, hB74, hT74, hO74, hK74, hp74⟩
    dsimp only
    have q_75 := hI.r 10 rfl
    have q_76 := hI74.r 10 rfl
    have e_77 : (F74 10).toInt = (F 10).toInt := hO74
    unfold cb_X4_startFunction_23
    unfold cb_X4_startFunction_78
    have q_78 := i_rng (F74 28)
    refine WP.bind (cs_X8_has hfu (F74 28) F74 G74 hI74) ?_
    rintro r79 _ _ ⟨rfl, rfl, hp79⟩
    dsimp only
    have q_80 := b_rng (hp79.1)
    unfold cb_X4_startFunction_89
    refine WP.ite (fun c_81 => ?_) (fun c_81 => ?_)
    · skip
      have e_82 := i_eq.mp (show r79 = (0 : Int32) from c_81)
      unfold cb_X4_startFunction_111
      have q_83 := i_rng x3
      refine WP.bind (cs_X5_enterFunction hfu x3 F74 G74 hI74 hz_x3) ?_
      rintro r84 F84 G84 ⟨hI84, hB84, hT84, hO84, hK84, hp84⟩
      dsimp only
      have q_85 := hI84.r 10 rfl
      have e_86 : (F84 10).toInt = (F74 10).toInt := hO84
      unfold cb_X4_startFunction_119
      refine WP.ret ?_
      exact ⟨hI84, (KB.tr (KB.tr (KB.rf : KB F G F G) hB74) hB84), (KT.tr (KT.tr (rfl : KT F F) hT74) hT84), (KO.tr (KO.tr (rfl : KO F F) hO74) hO84), (KK.tr (KK.tr (rfl : KK F F) hK74) hK84), trivial⟩
    · skip
      have e_87 := mt i_eq.mpr (show ¬ (r79 = (0 : Int32)) from c_81)
      unfold cb_X4_startFunction_92
      refine WP.ix (show vp_in (F74 28) 450 from vp_in_iff.mpr ⟨by omega, by omega⟩) ?_
      have j_88 : CI F74 (gup G74 80 (F74 28).toNatClampNeg (F74 6)) := CI.g (by decide) hI74
      unfold cb_X4_startFunction_111
      have q_89 := i_rng x3
      refine WP.bind (cs_X5_enterFunction hfu x3 F74 (gup G74 80 (F74 28).toNatClampNeg (F74 6)) j_88 hz_x3) ?_
      rintro r90 F90 G90 ⟨hI90, hB90, hT90, hO90, hK90, hp90⟩
      dsimp only
      have q_91 := hI90.r 10 rfl
      have e_92 : (F90 10).toInt = (F74 10).toInt := hO90
      unfold cb_X4_startFunction_119
      refine WP.ret ?_
      exact ⟨hI90, (KB.tr (KB.g (by decide) (KB.tr (KB.rf : KB F G F G) hB74)) hB90), (KT.tr (KT.tr (rfl : KT F F) hT74) hT90), (KO.tr (KO.tr (rfl : KO F F) hO74) hO90), (KK.tr (KK.tr (rfl : KK F F) hK74) hK90), trivial⟩
theorem cs_X4_start {fu : Nat} (hfu : 8589934592 ≤ fu) (x1 : Int32) (F : PF) (G : PG) (hI : CI F G) (hz_x1 : x1 = 0 ∨ x1 = 1) : WP (cf_X4_start fu x1 F G) (fun r' F' G' => CI F' G' ∧ KB F G F' G' ∧ KT F F' ∧ ((F' 10).toInt = 0)) := by
  have q_x1 := b_rng hz_x1
  unfold cf_X4_start
  unfold cb_X4_start_0
  have l_1 : (0 : Int32).toInt = 0 := rfl
  have j_2 : CI (fup F 28 (0 : Int32)) G := CI.fr rfl hI
  unfold cb_X4_start_5
  have j_3 : CI (fup (fup F 28 (0 : Int32)) 29 (0 : Int32)) G := CI.fr rfl j_2
  unfold cb_X4_start_10
  have l_4 : (-1 : Int32).toInt = -1 := rfl
  have j_5 : CI (fup (fup (fup F 28 (0 : Int32)) 29 (0 : Int32)) 30 (-1 : Int32)) G := CI.fr rfl j_3
  unfold cb_X4_start_15
  have j_6 : CI (fup (fup (fup (fup F 28 (0 : Int32)) 29 (0 : Int32)) 30 (-1 : Int32)) 31 (-1 : Int32)) G := CI.fr rfl j_5
  unfold cb_X4_start_20
  have j_7 : CI (fup (fup (fup (fup (fup F 28 (0 : Int32)) 29 (0 : Int32)) 30 (-1 : Int32)) 31 (-1 : Int32)) 42 (0 : Int32)) G := CI.fr rfl j_6
  unfold cb_X4_start_28
  have q_8 := i_rng x1
  refine WP.bz (show x1 = 0 ∨ x1 = 1 from hz_x1) ?_
  have q_9 := b_rng (show x1 = 0 ∨ x1 = 1 from hz_x1)
  have j_10 : CI (fup (fup (fup (fup (fup (fup F 28 (0 : Int32)) 29 (0 : Int32)) 30 (-1 : Int32)) 31 (-1 : Int32)) 42 (0 : Int32)) 45 x1) G := CI.rg (k := 45) (x := x1) rfl (by decide) (by decide) j_7 ⟨by omega, by omega⟩
  unfold cb_X4_start_36
  refine WP.bz (show x1 = 0 ∨ x1 = 1 from hz_x1) ?_
  have q_11 := b_rng (show x1 = 0 ∨ x1 = 1 from hz_x1)
  have j_12 : CI (fup (fup (fup (fup (fup (fup (fup F 28 (0 : Int32)) 29 (0 : Int32)) 30 (-1 : Int32)) 31 (-1 : Int32)) 42 (0 : Int32)) 45 x1) 7 x1) G := CI.rg (k := 7) (x := x1) rfl (by decide) (by decide) j_10 ⟨by omega, by omega⟩
  unfold cb_X4_start_44
  refine WP.bind (cs_X3_start hfu (fup (fup (fup (fup (fup (fup (fup F 28 (0 : Int32)) 29 (0 : Int32)) 30 (-1 : Int32)) 31 (-1 : Int32)) 42 (0 : Int32)) 45 x1) 7 x1) G j_12) ?_
  rintro r13 F13 G13 ⟨hI13, hB13, hT13, hO13, hK13, hp13⟩
  dsimp only
  have q_14 := hI.r 10 rfl
  have q_15 := hI13.r 10 rfl
  have e_16 : (F13 10).toInt = (F 10).toInt := hO13
  unfold cb_X4_start_51
  refine WP.bind (cs_X2_start hfu F13 G13 hI13) ?_
  rintro r17 F17 G17 ⟨hI17, hB17, hT17, hp17⟩
  dsimp only
  have q_18 := hI17.r 10 rfl
  have e_19 : (F17 10).toInt = 0 := hp17
  unfold cb_X4_start_58
  refine WP.ret ?_
  exact ⟨hI17, (KB.tr (KB.tr (KB.f (by decide) (KB.f (by decide) (KB.f (by decide) (KB.f (by decide) (KB.f (by decide) (KB.f (by decide) (KB.f (by decide) (KB.rf : KB F G F G)))))))) hB13) hB17), (KT.tr (KT.tr (KT.f (by decide) (KT.f (by decide) (KT.f (by decide) (KT.f (by decide) (KT.f (by decide) (KT.f (by decide) (KT.f (by decide) (rfl : KT F F)))))))) hT13) hT17), (show (F17 10).toInt = 0 by omega)⟩
theorem cs_X4_globalInt {fu : Nat} (hfu : 8589934592 ≤ fu) (x1 : Int32) (x2 : Int32) (F : PF) (G : PG) (hI : CI F G) : WP (cf_X4_globalInt fu x1 x2 F G) (fun r' F' G' => CI F' G' ∧ KB F G F' G' ∧ KT F F' ∧ KO F F' ∧ True) := by
  unfold cf_X4_globalInt
  unfold cb_X4_globalInt_0
  refine WP.ite (fun c_1 => ?_) (fun c_1 => ?_)
  · skip
    have q_2 := i_rng (F 11)
    have l_3 : (29 : Int32).toInt = 29 := rfl
    have e_4 := i_eq.mp (show (F 11) = (29 : Int32) from c_1)
    unfold cb_X4_globalInt_14
    refine WP.bind (cs_X2_next hfu F G hI) ?_
    rintro r5 F5 G5 ⟨hI5, hB5, hT5, hO5, hp5⟩
    dsimp only
    have q_6 := hI.r 10 rfl
    have q_7 := hI5.r 10 rfl
    have e_8 : (F5 10).toInt = (F 10).toInt := hO5
    unfold cb_X4_globalInt_21
    refine WP.bind (cs_X3_constant hfu F5 G5 hI5) ?_
    rintro r9 F9 G9 ⟨hI9, hB9, hT9, hO9, hp9⟩
    dsimp only
    have q_10 := hI9.r 10 rfl
    have e_11 : (F9 10).toInt = (F5 10).toInt := hO9
    unfold cb_X4_globalInt_28
    unfold cb_X4_globalInt_29
    have l_12 : (26 : Int32).toInt = 26 := rfl
    refine WP.bind (cs_X2_expect hfu (26 : Int32) F9 G9 hI9 (show (26 : Int32).toInt ≠ -2 by omega)) ?_
    rintro r13 F13 G13 ⟨hI13, hB13, hT13, hO13, hS13, hp13⟩
    dsimp only
    have q_14 := hI13.r 10 rfl
    have e_15 : (F13 10).toInt = (F9 10).toInt := hO13
    unfold cb_X4_globalInt_38
    have l_16 : (1 : Int32).toInt = 1 := rfl
    have q_17 := i_rng x2
    refine WP.bind (cs_X5_globalRoom hfu (1 : Int32) x2 F13 G13 hI13) ?_
    rintro r18 F18 G18 ⟨hI18, hB18, hT18, hO18, hK18, hp18⟩
    dsimp only
    have q_19 := hI18.r 10 rfl
    have e_20 : (F18 10).toInt = (F13 10).toInt := hO18
    unfold cb_X4_globalInt_47
    have q_21 := i_rng r18
    have q_22 := i_rng r9
    refine WP.bind (cs_X8_tellInt hfu r18 r9 F18 G18 hI18) ?_
    rintro r23 F23 G23 ⟨hI23, hB23, hT23, hO23, hK23, hp23⟩
    dsimp only
    have q_24 := hI23.r 10 rfl
    have e_25 : (F23 10).toInt = (F18 10).toInt := hO23
    unfold cb_X4_globalInt_59
    have q_26 := i_rng x1
    have l_27 : (0 : Int32).toInt = 0 := rfl
    refine WP.bind (cs_X5_tell hfu x1 x2 (1 : Int32) r18 (0 : Int32) F23 G23 hI23) ?_
    rintro r28 F28 G28 ⟨hI28, hB28, hT28, hO28, hK28, hp28⟩
    dsimp only
    have q_29 := hI28.r 10 rfl
    have e_30 : (F28 10).toInt = (F23 10).toInt := hO28
    unfold cb_X4_globalInt_72
    refine WP.ret ?_
    exact ⟨hI28, (KB.tr (KB.tr (KB.tr (KB.tr (KB.tr (KB.tr (KB.rf : KB F G F G) hB5) hB9) hB13) hB18) hB23) hB28), (KT.tr (KT.tr (KT.tr (KT.tr (KT.tr (KT.tr (rfl : KT F F) hT5) hT9) hT13) hT18) hT23) hT28), (KO.tr (KO.tr (KO.tr (KO.tr (KO.tr (KO.tr (rfl : KO F F) hO5) hO9) hO13) hO18) hO23) hO28), trivial⟩
  · skip
    have q_31 := i_rng (F 11)
    have l_32 : (29 : Int32).toInt = 29 := rfl
    have e_33 := mt i_eq.mpr (show ¬ ((F 11) = (29 : Int32)) from c_1)
    unfold cb_X4_globalInt_29
    have l_34 : (26 : Int32).toInt = 26 := rfl
    refine WP.bind (cs_X2_expect hfu (26 : Int32) F G hI (show (26 : Int32).toInt ≠ -2 by omega)) ?_
    rintro r35 F35 G35 ⟨hI35, hB35, hT35, hO35, hS35, hp35⟩
    dsimp only
    have q_36 := hI.r 10 rfl
    have q_37 := hI35.r 10 rfl
    have e_38 : (F35 10).toInt = (F 10).toInt := hO35
    unfold cb_X4_globalInt_38
    have l_39 : (1 : Int32).toInt = 1 := rfl
    have q_40 := i_rng x2
    refine WP.bind (cs_X5_globalRoom hfu (1 : Int32) x2 F35 G35 hI35) ?_
    rintro r41 F41 G41 ⟨hI41, hB41, hT41, hO41, hK41, hp41⟩
    dsimp only
    have q_42 := hI41.r 10 rfl
    have e_43 : (F41 10).toInt = (F35 10).toInt := hO41
    unfold cb_X4_globalInt_47
    have q_44 := i_rng r41
    have l_45 : (0 : Int32).toInt = 0 := rfl
    refine WP.bind (cs_X8_tellInt hfu r41 (0 : Int32) F41 G41 hI41) ?_
    rintro r46 F46 G46 ⟨hI46, hB46, hT46, hO46, hK46, hp46⟩
    dsimp only
    have q_47 := hI46.r 10 rfl
    have e_48 : (F46 10).toInt = (F41 10).toInt := hO46
    unfold cb_X4_globalInt_59
    have q_49 := i_rng x1
    refine WP.bind (cs_X5_tell hfu x1 x2 (1 : Int32) r41 (0 : Int32) F46 G46 hI46) ?_
    rintro r50 F50 G50 ⟨hI50, hB50, hT50, hO50, hK50, hp50⟩
    dsimp only
    have q_51 := hI50.r 10 rfl
    have e_52 : (F50 10).toInt = (F46 10).toInt := hO50
    unfold cb_X4_globalInt_72
    refine WP.ret ?_
    exact ⟨hI50, (KB.tr (KB.tr (KB.tr (KB.tr (KB.rf : KB F G F G) hB35) hB41) hB46) hB50), (KT.tr (KT.tr (KT.tr (KT.tr (rfl : KT F F) hT35) hT41) hT46) hT50), (KO.tr (KO.tr (KO.tr (KO.tr (rfl : KO F F) hO35) hO41) hO46) hO50), trivial⟩
theorem cs_X4_constTold {fu : Nat} (hfu : 8589934592 ≤ fu) (x1 : Int32) (x2 : Int32) (F : PF) (G : PG) (hI : CI F G) : WP (cf_X4_constTold fu x1 x2 F G) (fun r' F' G' => CI F' G' ∧ KB F G F' G' ∧ KT F F' ∧ KO F F' ∧ True) := by
  unfold cf_X4_constTold
  unfold cb_X4_constTold_0
  have l_1 : (29 : Int32).toInt = 29 := rfl
  refine WP.bind (cs_X2_expect hfu (29 : Int32) F G hI (show (29 : Int32).toInt ≠ -2 by omega)) ?_
  rintro r2 F2 G2 ⟨hI2, hB2, hT2, hO2, hS2, hp2⟩
  dsimp only
  have q_3 := hI.r 10 rfl
  have q_4 := hI2.r 10 rfl
  have e_5 : (F2 10).toInt = (F 10).toInt := hO2
  unfold cb_X4_constTold_9
  refine WP.bind (cs_X3_constant hfu F2 G2 hI2) ?_
  rintro r6 F6 G6 ⟨hI6, hB6, hT6, hO6, hp6⟩
  dsimp only
  have q_7 := hI6.r 10 rfl
  have e_8 : (F6 10).toInt = (F2 10).toInt := hO6
  unfold cb_X4_constTold_16
  have l_9 : (26 : Int32).toInt = 26 := rfl
  refine WP.bind (cs_X2_expect hfu (26 : Int32) F6 G6 hI6 (show (26 : Int32).toInt ≠ -2 by omega)) ?_
  rintro r10 F10 G10 ⟨hI10, hB10, hT10, hO10, hS10, hp10⟩
  dsimp only
  have q_11 := hI10.r 10 rfl
  have e_12 : (F10 10).toInt = (F6 10).toInt := hO10
  unfold cb_X4_constTold_26
  have q_13 := i_rng x1
  have q_14 := i_rng x2
  have l_15 : (0 : Int32).toInt = 0 := rfl
  have q_16 := i_rng r6
  refine WP.bind (cs_X5_tell hfu x1 x2 (0 : Int32) r6 (0 : Int32) F10 G10 hI10) ?_
  rintro r17 F17 G17 ⟨hI17, hB17, hT17, hO17, hK17, hp17⟩
  dsimp only
  have q_18 := hI17.r 10 rfl
  have e_19 : (F17 10).toInt = (F10 10).toInt := hO17
  unfold cb_X4_constTold_38
  refine WP.ret ?_
  exact ⟨hI17, (KB.tr (KB.tr (KB.tr (KB.tr (KB.rf : KB F G F G) hB2) hB6) hB10) hB17), (KT.tr (KT.tr (KT.tr (KT.tr (rfl : KT F F) hT2) hT6) hT10) hT17), (KO.tr (KO.tr (KO.tr (KO.tr (rfl : KO F F) hO2) hO6) hO10) hO17), trivial⟩
theorem cz_X4_walk_7 {fu : Nat} (hfu : 8589934592 ≤ fu) {F0 : PF} {G0 : PG} : ∀ (n : Nat) (x1 : Int32) (x2 : Int32) (F : PF) (G : PG) (hI : CI F G) (hB : KB F0 G0 F G) (hT : KT F0 F) (i_0 : 0 ≤ (F 10).toInt ∨ (F 11).toInt = -2) (hn : (2147483647 - x2.toInt).toNat < n), WP (cl_X4_walk_7 fu n x1 x2 F G) (fun r' F' G' => CI F' G' ∧ KB F0 G0 F' G' ∧ KT F0 F' ∧ True) := by
  intro n
  induction n with
  | zero =>
    intro x1 x2 F G hI hB hT i_0 hn
    exact absurd hn (Nat.not_lt_zero _)
  | succ n ihn =>
    intro x1 x2 F G hI hB hT i_0 hn
    show WP (cb_X4_walk_7 fu (cl_X4_walk_7 fu n)  x1 x2 F G) _
    unfold cb_X4_walk_7
    refine WP.ite (fun c_1 => ?_) (fun c_1 => ?_)
    · skip
      have l_2 : (4001 : Int32).toInt = 4001 := rfl
      have q_3 := i_rng x2
      have e_4 := i_le.mp (show (4001 : Int32) ≤ x2 from c_1)
      unfold cb_X4_walk_251
      refine WP.ite (fun c_5 => ?_) (fun c_5 => ?_)
      · skip
        have q_6 := i_rng (F 76)
        have l_7 : (-1 : Int32).toInt = -1 := rfl
        have e_8 := i_eq.mp (show (F 76) = (-1 : Int32) from c_5)
        unfold cb_X4_walk_262
        have l_9 : (9 : Int32).toInt = 9 := rfl
        have q_10 := i_rng (F 13)
        refine WP.bind (cs_X5_note hfu (9 : Int32) (F 13) F G hI) ?_
        rintro r11 F11 G11 ⟨hI11, hB11, hT11, hO11, hK11, hp11⟩
        dsimp only
        have q_12 := i_rng (F 11)
        have q_13 := i_rng (F11 11)
        have e_14 : (F11 11).toInt = (F 11).toInt := congrArg Int32.toInt hK11
        have q_15 := hI.r 10 rfl
        have q_16 := hI11.r 10 rfl
        have e_17 : (F11 10).toInt = (F 10).toInt := hO11
        unfold cb_X4_walk_278
        refine WP.ite (fun c_18 => ?_) (fun c_18 => ?_)
        · skip
          have q_19 := i_rng x1
          have l_20 : (0 : Int32).toInt = 0 := rfl
          have e_21 := i_eq.mp (show x1 = (0 : Int32) from c_18)
          unfold cb_X4_walk_292
          unfold cb_X4_walk_299
          refine WP.ret ?_
          exact ⟨hI11, (KB.tr hB hB11), (KT.tr hT hT11), trivial⟩
        · skip
          have q_22 := i_rng x1
          have l_23 : (0 : Int32).toInt = 0 := rfl
          have e_24 := mt i_eq.mpr (show ¬ (x1 = (0 : Int32)) from c_18)
          unfold cb_X4_walk_282
          refine WP.bind (cs_X5_fault hfu F11 G11 hI11) ?_
          rintro r25 _ _ ⟨rfl, rfl, hp25⟩
          dsimp only
          unfold cb_X4_walk_289
          unfold cb_X4_walk_299
          refine WP.ret ?_
          exact ⟨hI11, (KB.tr hB hB11), (KT.tr hT hT11), trivial⟩
      · skip
        have q_26 := i_rng (F 76)
        have l_27 : (-1 : Int32).toInt = -1 := rfl
        have e_28 := mt i_eq.mpr (show ¬ ((F 76) = (-1 : Int32)) from c_5)
        unfold cb_X4_walk_278
        refine WP.ite (fun c_29 => ?_) (fun c_29 => ?_)
        · skip
          have q_30 := i_rng x1
          have l_31 : (0 : Int32).toInt = 0 := rfl
          have e_32 := i_eq.mp (show x1 = (0 : Int32) from c_29)
          unfold cb_X4_walk_292
          unfold cb_X4_walk_299
          refine WP.ret ?_
          exact ⟨hI, hB, hT, trivial⟩
        · skip
          have q_33 := i_rng x1
          have l_34 : (0 : Int32).toInt = 0 := rfl
          have e_35 := mt i_eq.mpr (show ¬ (x1 = (0 : Int32)) from c_29)
          unfold cb_X4_walk_282
          refine WP.bind (cs_X5_fault hfu F G hI) ?_
          rintro r36 _ _ ⟨rfl, rfl, hp36⟩
          dsimp only
          unfold cb_X4_walk_289
          unfold cb_X4_walk_299
          refine WP.ret ?_
          exact ⟨hI, hB, hT, trivial⟩
    · skip
      have l_37 : (4001 : Int32).toInt = 4001 := rfl
      have q_38 := i_rng x2
      have e_39 := mt i_le.mpr (show ¬ ((4001 : Int32) ≤ x2) from c_1)
      unfold cb_X4_walk_14
      refine WP.ite (fun c_40 => ?_) (fun c_40 => ?_)
      · skip
        have q_41 := i_rng (F 11)
        have l_42 : (0 : Int32).toInt = 0 := rfl
        have e_43 := i_eq.mp (show (F 11) = (0 : Int32) from c_40)
        unfold cb_X4_walk_251
        refine WP.ite (fun c_44 => ?_) (fun c_44 => ?_)
        · skip
          have q_45 := i_rng (F 76)
          have l_46 : (-1 : Int32).toInt = -1 := rfl
          have e_47 := i_eq.mp (show (F 76) = (-1 : Int32) from c_44)
          unfold cb_X4_walk_262
          have l_48 : (9 : Int32).toInt = 9 := rfl
          have q_49 := i_rng (F 13)
          refine WP.bind (cs_X5_note hfu (9 : Int32) (F 13) F G hI) ?_
          rintro r50 F50 G50 ⟨hI50, hB50, hT50, hO50, hK50, hp50⟩
          dsimp only
          have q_51 := i_rng (F50 11)
          have e_52 : (F50 11).toInt = (F 11).toInt := congrArg Int32.toInt hK50
          have q_53 := hI.r 10 rfl
          have q_54 := hI50.r 10 rfl
          have e_55 : (F50 10).toInt = (F 10).toInt := hO50
          unfold cb_X4_walk_278
          refine WP.ite (fun c_56 => ?_) (fun c_56 => ?_)
          · skip
            have q_57 := i_rng x1
            have e_58 := i_eq.mp (show x1 = (0 : Int32) from c_56)
            unfold cb_X4_walk_292
            unfold cb_X4_walk_299
            refine WP.ret ?_
            exact ⟨hI50, (KB.tr hB hB50), (KT.tr hT hT50), trivial⟩
          · skip
            have q_59 := i_rng x1
            have e_60 := mt i_eq.mpr (show ¬ (x1 = (0 : Int32)) from c_56)
            unfold cb_X4_walk_282
            refine WP.bind (cs_X5_fault hfu F50 G50 hI50) ?_
            rintro r61 _ _ ⟨rfl, rfl, hp61⟩
            dsimp only
            unfold cb_X4_walk_289
            unfold cb_X4_walk_299
            refine WP.ret ?_
            exact ⟨hI50, (KB.tr hB hB50), (KT.tr hT hT50), trivial⟩
        · skip
          have q_62 := i_rng (F 76)
          have l_63 : (-1 : Int32).toInt = -1 := rfl
          have e_64 := mt i_eq.mpr (show ¬ ((F 76) = (-1 : Int32)) from c_44)
          unfold cb_X4_walk_278
          refine WP.ite (fun c_65 => ?_) (fun c_65 => ?_)
          · skip
            have q_66 := i_rng x1
            have e_67 := i_eq.mp (show x1 = (0 : Int32) from c_65)
            unfold cb_X4_walk_292
            unfold cb_X4_walk_299
            refine WP.ret ?_
            exact ⟨hI, hB, hT, trivial⟩
          · skip
            have q_68 := i_rng x1
            have e_69 := mt i_eq.mpr (show ¬ (x1 = (0 : Int32)) from c_65)
            unfold cb_X4_walk_282
            refine WP.bind (cs_X5_fault hfu F G hI) ?_
            rintro r70 _ _ ⟨rfl, rfl, hp70⟩
            dsimp only
            unfold cb_X4_walk_289
            unfold cb_X4_walk_299
            refine WP.ret ?_
            exact ⟨hI, hB, hT, trivial⟩
      · skip
        have q_71 := i_rng (F 11)
        have l_72 : (0 : Int32).toInt = 0 := rfl
        have e_73 := mt i_eq.mpr (show ¬ ((F 11) = (0 : Int32)) from c_40)
        unfold cb_X4_walk_24
        refine WP.ite (fun c_74 => ?_) (fun c_74 => ?_)
        · skip
          have l_75 : (-2 : Int32).toInt = -2 := rfl
          have e_76 := i_eq.mp (show (F 11) = (-2 : Int32) from c_74)
          unfold cb_X4_walk_251
          refine WP.ite (fun c_77 => ?_) (fun c_77 => ?_)
          · skip
            have q_78 := i_rng (F 76)
            have l_79 : (-1 : Int32).toInt = -1 := rfl
            have e_80 := i_eq.mp (show (F 76) = (-1 : Int32) from c_77)
            unfold cb_X4_walk_262
            have l_81 : (9 : Int32).toInt = 9 := rfl
            have q_82 := i_rng (F 13)
            refine WP.bind (cs_X5_note hfu (9 : Int32) (F 13) F G hI) ?_
            rintro r83 F83 G83 ⟨hI83, hB83, hT83, hO83, hK83, hp83⟩
            dsimp only
            have q_84 := i_rng (F83 11)
            have e_85 : (F83 11).toInt = (F 11).toInt := congrArg Int32.toInt hK83
            have q_86 := hI.r 10 rfl
            have q_87 := hI83.r 10 rfl
            have e_88 : (F83 10).toInt = (F 10).toInt := hO83
            unfold cb_X4_walk_278
            refine WP.ite (fun c_89 => ?_) (fun c_89 => ?_)
            · skip
              have q_90 := i_rng x1
              have e_91 := i_eq.mp (show x1 = (0 : Int32) from c_89)
              unfold cb_X4_walk_292
              unfold cb_X4_walk_299
              refine WP.ret ?_
              exact ⟨hI83, (KB.tr hB hB83), (KT.tr hT hT83), trivial⟩
            · skip
              have q_92 := i_rng x1
              have e_93 := mt i_eq.mpr (show ¬ (x1 = (0 : Int32)) from c_89)
              unfold cb_X4_walk_282
              refine WP.bind (cs_X5_fault hfu F83 G83 hI83) ?_
              rintro r94 _ _ ⟨rfl, rfl, hp94⟩
              dsimp only
              unfold cb_X4_walk_289
              unfold cb_X4_walk_299
              refine WP.ret ?_
              exact ⟨hI83, (KB.tr hB hB83), (KT.tr hT hT83), trivial⟩
          · skip
            have q_95 := i_rng (F 76)
            have l_96 : (-1 : Int32).toInt = -1 := rfl
            have e_97 := mt i_eq.mpr (show ¬ ((F 76) = (-1 : Int32)) from c_77)
            unfold cb_X4_walk_278
            refine WP.ite (fun c_98 => ?_) (fun c_98 => ?_)
            · skip
              have q_99 := i_rng x1
              have e_100 := i_eq.mp (show x1 = (0 : Int32) from c_98)
              unfold cb_X4_walk_292
              unfold cb_X4_walk_299
              refine WP.ret ?_
              exact ⟨hI, hB, hT, trivial⟩
            · skip
              have q_101 := i_rng x1
              have e_102 := mt i_eq.mpr (show ¬ (x1 = (0 : Int32)) from c_98)
              unfold cb_X4_walk_282
              refine WP.bind (cs_X5_fault hfu F G hI) ?_
              rintro r103 _ _ ⟨rfl, rfl, hp103⟩
              dsimp only
              unfold cb_X4_walk_289
              unfold cb_X4_walk_299
              refine WP.ret ?_
              exact ⟨hI, hB, hT, trivial⟩
        · skip
          have l_104 : (-2 : Int32).toInt = -2 := rfl
          have e_105 := mt i_eq.mpr (show ¬ ((F 11) = (-2 : Int32)) from c_74)
          unfold cb_X4_walk_36
          refine WP.ite (fun c_106 => ?_) (fun c_106 => ?_)
          · skip
            have l_107 : (7 : Int32).toInt = 7 := rfl
            have e_108 := i_eq.mp (show (F 11) = (7 : Int32) from c_106)
            unfold cb_X4_walk_48
            unfold cb_X4_walk_53
            refine WP.ite (fun c_109 => absurd c_109 (by decide)) (fun _ => ?_)
            unfold cb_X4_walk_58
            refine WP.bind (cs_X2_next hfu F G hI) ?_
            rintro r110 F110 G110 ⟨hI110, hB110, hT110, hO110, hp110⟩
            dsimp only
            have q_111 := hI.r 10 rfl
            have q_112 := hI110.r 10 rfl
            have e_113 : (F110 10).toInt = (F 10).toInt := hO110
            unfold cb_X4_walk_65
            have l_114 : (1 : Int32).toInt = 1 := rfl
            refine WP.bind (cs_X4_kindWord hfu (1 : Int32) F110 G110 hI110 (by decide)) ?_
            rintro r115 F115 G115 ⟨hI115, hB115, hT115, hO115, hp115⟩
            dsimp only
            have q_116 := hI115.r 10 rfl
            have e_117 : (F115 10).toInt = (F110 10).toInt := hO115
            unfold cb_X4_walk_70
            have l_118 : (2 : Int32).toInt = 2 := rfl
            refine WP.bind (cs_X2_expect hfu (2 : Int32) F115 G115 hI115 (show (2 : Int32).toInt ≠ -2 by omega)) ?_
            rintro r119 F119 G119 ⟨hI119, hB119, hT119, hO119, hS119, hp119⟩
            dsimp only
            have q_120 := i_rng (F115 11)
            have q_121 := i_rng (F119 11)
            have e_122 : (F115 11).toInt = -2 → (F119 11).toInt = -2 := hS119
            have q_123 := hI119.r 10 rfl
            have e_124 : (F119 10).toInt = (F115 10).toInt := hO119
            unfold cb_X4_walk_98
            refine WP.ite (fun c_125 => absurd c_125 (by decide)) (fun _ => ?_)
            unfold cb_X4_walk_102
            have q_126 := i_rng (F115 12)
            have q_127 := i_rng (F115 13)
            refine WP.bind (cs_X4_constTold hfu (F115 12) (F115 13) F119 G119 hI119) ?_
            rintro r128 F128 G128 ⟨hI128, hB128, hT128, hO128, hp128⟩
            dsimp only
            have q_129 := hI128.r 10 rfl
            have e_130 : (F128 10).toInt = (F119 10).toInt := hO128
            unfold cb_X4_walk_110
            unfold cb_X4_walk_245
            have q_131 := i_rng x1
            first | have e_132 : (x2 + (1 : Int32)).toInt = x2.toInt + (1) := i_addn x2 rfl (by omega) (by omega) | have e_133 := i_rng (x2 + (1 : Int32))
            have q_134 := i_rng (F128 11)
            exact ihn x1 (x2 + (1 : Int32)) F128 G128 hI128 (KB.tr (KB.tr (KB.tr (KB.tr hB hB110) hB115) hB119) hB128) (KT.tr (KT.tr (KT.tr (KT.tr hT hT110) hT115) hT119) hT128) (show 0 ≤ (F128 10).toInt ∨ (F128 11).toInt = -2 by omega) (by omega)
          · skip
            have l_135 : (7 : Int32).toInt = 7 := rfl
            have e_136 := mt i_eq.mpr (show ¬ ((F 11) = (7 : Int32)) from c_106)
            unfold cb_X4_walk_52
            unfold cb_X4_walk_53
            refine WP.ite (fun _ => ?_) (fun c_137 => absurd (by decide) c_137)
            unfold cb_X4_walk_65
            refine WP.bind (cs_X4_kindWord hfu (0 : Int32) F G hI (by decide)) ?_
            rintro r138 F138 G138 ⟨hI138, hB138, hT138, hO138, hp138⟩
            dsimp only
            have q_139 := hI.r 10 rfl
            have q_140 := hI138.r 10 rfl
            have e_141 : (F138 10).toInt = (F 10).toInt := hO138
            unfold cb_X4_walk_70
            have l_142 : (2 : Int32).toInt = 2 := rfl
            refine WP.bind (cs_X2_expect hfu (2 : Int32) F138 G138 hI138 (show (2 : Int32).toInt ≠ -2 by omega)) ?_
            rintro r143 F143 G143 ⟨hI143, hB143, hT143, hO143, hS143, hp143⟩
            dsimp only
            have q_144 := i_rng (F138 11)
            have q_145 := i_rng (F143 11)
            have e_146 : (F138 11).toInt = -2 → (F143 11).toInt = -2 := hS143
            have q_147 := hI143.r 10 rfl
            have e_148 : (F143 10).toInt = (F138 10).toInt := hO143
            unfold cb_X4_walk_98
            refine WP.ite (fun _ => ?_) (fun c_149 => absurd (by decide) c_149)
            unfold cb_X4_walk_113
            refine WP.ite (fun c_150 => ?_) (fun c_150 => ?_)
            · skip
              have l_151 : (19 : Int32).toInt = 19 := rfl
              have e_152 := i_eq.mp (show (F143 11) = (19 : Int32) from c_150)
              unfold cb_X4_walk_125
              refine WP.ite (fun c_153 => ?_) (fun c_153 => ?_)
              · skip
                have q_154 := i_rng r138
                have l_155 : (5 : Int32).toInt = 5 := rfl
                have e_156 := i_eq.mp (show r138 = (5 : Int32) from c_153)
                unfold cb_X4_walk_179
                refine WP.ite (fun c_157 => ?_) (fun c_157 => ?_)
                · skip
                  have l_158 : (21 : Int32).toInt = 21 := rfl
                  have e_159 := i_eq.mp (show (F143 11) = (21 : Int32) from c_157)
                  unfold cb_X4_walk_191
                  refine WP.ite (fun c_160 => ?_) (fun c_160 => ?_)
                  · skip
                    have l_161 : (6 : Int32).toInt = 6 := rfl
                    have e_162 := i_eq.mp (show r138 = (6 : Int32) from c_160)
                    unfold cb_X4_walk_220
                    refine WP.ite (fun c_163 => ?_) (fun c_163 => ?_)
                    · skip
                      have l_164 : (4 : Int32).toInt = 4 := rfl
                      have e_165 := i_eq.mp (show r138 = (4 : Int32) from c_163)
                      unfold cb_X4_walk_226
                      have q_166 := i_rng (F138 12)
                      have q_167 := i_rng (F138 13)
                      refine WP.bind (cs_X4_globalInt hfu (F138 12) (F138 13) F143 G143 hI143) ?_
                      rintro r168 F168 G168 ⟨hI168, hB168, hT168, hO168, hp168⟩
                      dsimp only
                      have q_169 := hI168.r 10 rfl
                      have e_170 : (F168 10).toInt = (F143 10).toInt := hO168
                      unfold cb_X4_walk_234
                      unfold cb_X4_walk_245
                      have q_171 := i_rng x1
                      first | have e_172 : (x2 + (1 : Int32)).toInt = x2.toInt + (1) := i_addn x2 rfl (by omega) (by omega) | have e_173 := i_rng (x2 + (1 : Int32))
                      have q_174 := i_rng (F168 11)
                      exact ihn x1 (x2 + (1 : Int32)) F168 G168 hI168 (KB.tr (KB.tr (KB.tr hB hB138) hB143) hB168) (KT.tr (KT.tr (KT.tr hT hT138) hT143) hT168) (show 0 ≤ (F168 10).toInt ∨ (F168 11).toInt = -2 by omega) (by omega)
                    · skip
                      have l_175 : (4 : Int32).toInt = 4 := rfl
                      have e_176 := mt i_eq.mpr (show ¬ (r138 = (4 : Int32)) from c_163)
                      unfold cb_X4_walk_237
                      refine WP.bind (cs_X2_fail hfu (2 : Int32) F143 G143 hI143) ?_
                      rintro r177 F177 G177 ⟨hI177, hB177, hT177, hO177, hp177⟩
                      dsimp only
                      have q_178 := hI177.r 10 rfl
                      have e_179 : (F177 10).toInt = (F143 10).toInt := hO177
                      have q_180 := i_rng (F177 11)
                      have e_181 : (F177 11).toInt = -2 := hp177
                      unfold cb_X4_walk_245
                      have q_182 := i_rng x1
                      first | have e_183 : (x2 + (1 : Int32)).toInt = x2.toInt + (1) := i_addn x2 rfl (by omega) (by omega) | have e_184 := i_rng (x2 + (1 : Int32))
                      exact ihn x1 (x2 + (1 : Int32)) F177 G177 hI177 (KB.tr (KB.tr (KB.tr hB hB138) hB143) hB177) (KT.tr (KT.tr (KT.tr hT hT138) hT143) hT177) (show 0 ≤ (F177 10).toInt ∨ (F177 11).toInt = -2 by omega) (by omega)
                  · skip
                    have l_185 : (6 : Int32).toInt = 6 := rfl
                    have e_186 := mt i_eq.mpr (show ¬ (r138 = (6 : Int32)) from c_160)
                    unfold cb_X4_walk_198
                    refine WP.ite (fun c_187 => ?_) (fun c_187 => ?_)
                    · skip
                      have l_188 : (4 : Int32).toInt = 4 := rfl
                      have e_189 := i_eq.mp (show r138 = (4 : Int32) from c_187)
                      unfold cb_X4_walk_209
                      unfold cb_X4_walk_214
                      have q_190 := i_rng (F138 12)
                      have q_191 := i_rng (F138 13)
                      refine WP.bind (cs_X4_globalArray hfu (F138 12) (F138 13) (2 : Int32) F143 G143 hI143) ?_
                      rintro r192 F192 G192 ⟨hI192, hB192, hT192, hO192, hp192⟩
                      dsimp only
                      have q_193 := hI192.r 10 rfl
                      have e_194 : (F192 10).toInt = (F143 10).toInt := hO192
                      unfold cb_X4_walk_217
                      unfold cb_X4_walk_245
                      have q_195 := i_rng x1
                      first | have e_196 : (x2 + (1 : Int32)).toInt = x2.toInt + (1) := i_addn x2 rfl (by omega) (by omega) | have e_197 := i_rng (x2 + (1 : Int32))
                      have q_198 := i_rng (F192 11)
                      exact ihn x1 (x2 + (1 : Int32)) F192 G192 hI192 (KB.tr (KB.tr (KB.tr hB hB138) hB143) hB192) (KT.tr (KT.tr (KT.tr hT hT138) hT143) hT192) (show 0 ≤ (F192 10).toInt ∨ (F192 11).toInt = -2 by omega) (by omega)
                    · skip
                      have l_199 : (4 : Int32).toInt = 4 := rfl
                      have e_200 := mt i_eq.mpr (show ¬ (r138 = (4 : Int32)) from c_187)
                      unfold cb_X4_walk_213
                      unfold cb_X4_walk_214
                      have q_201 := i_rng (F138 12)
                      have q_202 := i_rng (F138 13)
                      have l_203 : (3 : Int32).toInt = 3 := rfl
                      refine WP.bind (cs_X4_globalArray hfu (F138 12) (F138 13) (3 : Int32) F143 G143 hI143) ?_
                      rintro r204 F204 G204 ⟨hI204, hB204, hT204, hO204, hp204⟩
                      dsimp only
                      have q_205 := hI204.r 10 rfl
                      have e_206 : (F204 10).toInt = (F143 10).toInt := hO204
                      unfold cb_X4_walk_217
                      unfold cb_X4_walk_245
                      have q_207 := i_rng x1
                      first | have e_208 : (x2 + (1 : Int32)).toInt = x2.toInt + (1) := i_addn x2 rfl (by omega) (by omega) | have e_209 := i_rng (x2 + (1 : Int32))
                      have q_210 := i_rng (F204 11)
                      exact ihn x1 (x2 + (1 : Int32)) F204 G204 hI204 (KB.tr (KB.tr (KB.tr hB hB138) hB143) hB204) (KT.tr (KT.tr (KT.tr hT hT138) hT143) hT204) (show 0 ≤ (F204 10).toInt ∨ (F204 11).toInt = -2 by omega) (by omega)
                · skip
                  have l_211 : (21 : Int32).toInt = 21 := rfl
                  have e_212 := mt i_eq.mpr (show ¬ ((F143 11) = (21 : Int32)) from c_157)
                  unfold cb_X4_walk_220
                  refine WP.ite (fun c_213 => ?_) (fun c_213 => ?_)
                  · skip
                    have l_214 : (4 : Int32).toInt = 4 := rfl
                    have e_215 := i_eq.mp (show r138 = (4 : Int32) from c_213)
                    unfold cb_X4_walk_226
                    have q_216 := i_rng (F138 12)
                    have q_217 := i_rng (F138 13)
                    refine WP.bind (cs_X4_globalInt hfu (F138 12) (F138 13) F143 G143 hI143) ?_
                    rintro r218 F218 G218 ⟨hI218, hB218, hT218, hO218, hp218⟩
                    dsimp only
                    have q_219 := hI218.r 10 rfl
                    have e_220 : (F218 10).toInt = (F143 10).toInt := hO218
                    unfold cb_X4_walk_234
                    unfold cb_X4_walk_245
                    have q_221 := i_rng x1
                    first | have e_222 : (x2 + (1 : Int32)).toInt = x2.toInt + (1) := i_addn x2 rfl (by omega) (by omega) | have e_223 := i_rng (x2 + (1 : Int32))
                    have q_224 := i_rng (F218 11)
                    exact ihn x1 (x2 + (1 : Int32)) F218 G218 hI218 (KB.tr (KB.tr (KB.tr hB hB138) hB143) hB218) (KT.tr (KT.tr (KT.tr hT hT138) hT143) hT218) (show 0 ≤ (F218 10).toInt ∨ (F218 11).toInt = -2 by omega) (by omega)
                  · skip
                    have l_225 : (4 : Int32).toInt = 4 := rfl
                    have e_226 := mt i_eq.mpr (show ¬ (r138 = (4 : Int32)) from c_213)
                    unfold cb_X4_walk_237
                    refine WP.bind (cs_X2_fail hfu (2 : Int32) F143 G143 hI143) ?_
                    rintro r227 F227 G227 ⟨hI227, hB227, hT227, hO227, hp227⟩
                    dsimp only
                    have q_228 := hI227.r 10 rfl
                    have e_229 : (F227 10).toInt = (F143 10).toInt := hO227
                    have q_230 := i_rng (F227 11)
                    have e_231 : (F227 11).toInt = -2 := hp227
                    unfold cb_X4_walk_245
                    have q_232 := i_rng x1
                    first | have e_233 : (x2 + (1 : Int32)).toInt = x2.toInt + (1) := i_addn x2 rfl (by omega) (by omega) | have e_234 := i_rng (x2 + (1 : Int32))
                    exact ihn x1 (x2 + (1 : Int32)) F227 G227 hI227 (KB.tr (KB.tr (KB.tr hB hB138) hB143) hB227) (KT.tr (KT.tr (KT.tr hT hT138) hT143) hT227) (show 0 ≤ (F227 10).toInt ∨ (F227 11).toInt = -2 by omega) (by omega)
              · skip
                have q_235 := i_rng r138
                have l_236 : (5 : Int32).toInt = 5 := rfl
                have e_237 := mt i_eq.mpr (show ¬ (r138 = (5 : Int32)) from c_153)
                unfold cb_X4_walk_131
                refine WP.ite (fun c_238 => ?_) (fun c_238 => ?_)
                · skip
                  have l_239 : (4 : Int32).toInt = 4 := rfl
                  have e_240 := i_eq.mp (show r138 = (4 : Int32) from c_238)
                  unfold cb_X4_walk_142
                  unfold cb_X4_walk_147
                  have q_241 := i_rng (F138 12)
                  have q_242 := i_rng (F138 13)
                  have l_243 : (1 : Int32).toInt = 1 := rfl
                  refine WP.bind (cs_X4_startFunction hfu (F138 12) (F138 13) (1 : Int32) F143 G143 hI143 (by decide)) ?_
                  rintro r244 F244 G244 ⟨hI244, hB244, hT244, hO244, hK244, hp244⟩
                  dsimp only
                  have q_245 := i_rng (F244 11)
                  have e_246 : (F244 11).toInt = (F143 11).toInt := congrArg Int32.toInt hK244
                  have q_247 := hI244.r 10 rfl
                  have e_248 : (F244 10).toInt = (F143 10).toInt := hO244
                  unfold cb_X4_walk_150
                  refine WP.ite (fun c_249 => ?_) (fun c_249 => ?_)
                  · skip
                    have q_250 := i_rng (F244 27)
                    have e_251 := i_eq.mp (show (F138 12) = (F244 27) from c_249)
                    unfold cb_X4_walk_160
                    unfold cb_X4_walk_165
                    refine WP.bind (cs_X4_formals hfu (1 : Int32) F244 G244 hI244 (by decide)) ?_
                    rintro r252 F252 G252 ⟨hI252, hB252, hT252, hO252, hp252⟩
                    dsimp only
                    have q_253 := hI252.r 10 rfl
                    have e_254 : (F252 10).toInt = (F244 10).toInt := hO252
                    unfold cb_X4_walk_168
                    refine WP.bind (cs_X4_block hfu F252 G252 hI252 (show 0 ≤ (F252 10).toInt by omega)) ?_
                    rintro r255 F255 G255 ⟨hI255, hB255, hT255, hS255, hp255⟩
                    dsimp only
                    have q_256 := i_rng (F252 11)
                    have q_257 := i_rng (F255 11)
                    have e_258 : (F252 11).toInt = -2 → (F255 11).toInt = -2 := hS255
                    have q_259 := hI255.r 10 rfl
                    have e_260 : (F255 10).toInt = (F252 10).toInt ∨ ((F255 10).toInt = (F252 10).toInt - 1 ∧ (F255 11).toInt = -2 ∧ (F252 11).toInt ≠ -2) := hp255
                    unfold cb_X4_walk_172
                    refine WP.bind (cs_X4_endFunction hfu F255 G255 hI255) ?_
                    rintro r261 F261 G261 ⟨hI261, hB261, hT261, hO261, hK261, hp261⟩
                    dsimp only
                    have q_262 := i_rng (F261 11)
                    have e_263 : (F261 11).toInt = (F255 11).toInt := congrArg Int32.toInt hK261
                    have q_264 := hI261.r 10 rfl
                    have e_265 : (F261 10).toInt = (F255 10).toInt := hO261
                    unfold cb_X4_walk_176
                    unfold cb_X4_walk_245
                    have q_266 := i_rng x1
                    first | have e_267 : (x2 + (1 : Int32)).toInt = x2.toInt + (1) := i_addn x2 rfl (by omega) (by omega) | have e_268 := i_rng (x2 + (1 : Int32))
                    exact ihn x1 (x2 + (1 : Int32)) F261 G261 hI261 (KB.tr (KB.tr (KB.tr (KB.tr (KB.tr (KB.tr hB hB138) hB143) hB244) hB252) hB255) hB261) (KT.tr (KT.tr (KT.tr (KT.tr (KT.tr (KT.tr hT hT138) hT143) hT244) hT252) hT255) hT261) (show 0 ≤ (F261 10).toInt ∨ (F261 11).toInt = -2 by omega) (by omega)
                  · skip
                    have q_269 := i_rng (F244 27)
                    have e_270 := mt i_eq.mpr (show ¬ ((F138 12) = (F244 27)) from c_249)
                    unfold cb_X4_walk_164
                    unfold cb_X4_walk_165
                    refine WP.bind (cs_X4_formals hfu (0 : Int32) F244 G244 hI244 (by decide)) ?_
                    rintro r271 F271 G271 ⟨hI271, hB271, hT271, hO271, hp271⟩
                    dsimp only
                    have q_272 := hI271.r 10 rfl
                    have e_273 : (F271 10).toInt = (F244 10).toInt := hO271
                    unfold cb_X4_walk_168
                    refine WP.bind (cs_X4_block hfu F271 G271 hI271 (show 0 ≤ (F271 10).toInt by omega)) ?_
                    rintro r274 F274 G274 ⟨hI274, hB274, hT274, hS274, hp274⟩
                    dsimp only
                    have q_275 := i_rng (F271 11)
                    have q_276 := i_rng (F274 11)
                    have e_277 : (F271 11).toInt = -2 → (F274 11).toInt = -2 := hS274
                    have q_278 := hI274.r 10 rfl
                    have e_279 : (F274 10).toInt = (F271 10).toInt ∨ ((F274 10).toInt = (F271 10).toInt - 1 ∧ (F274 11).toInt = -2 ∧ (F271 11).toInt ≠ -2) := hp274
                    unfold cb_X4_walk_172
                    refine WP.bind (cs_X4_endFunction hfu F274 G274 hI274) ?_
                    rintro r280 F280 G280 ⟨hI280, hB280, hT280, hO280, hK280, hp280⟩
                    dsimp only
                    have q_281 := i_rng (F280 11)
                    have e_282 : (F280 11).toInt = (F274 11).toInt := congrArg Int32.toInt hK280
                    have q_283 := hI280.r 10 rfl
                    have e_284 : (F280 10).toInt = (F274 10).toInt := hO280
                    unfold cb_X4_walk_176
                    unfold cb_X4_walk_245
                    have q_285 := i_rng x1
                    first | have e_286 : (x2 + (1 : Int32)).toInt = x2.toInt + (1) := i_addn x2 rfl (by omega) (by omega) | have e_287 := i_rng (x2 + (1 : Int32))
                    exact ihn x1 (x2 + (1 : Int32)) F280 G280 hI280 (KB.tr (KB.tr (KB.tr (KB.tr (KB.tr (KB.tr hB hB138) hB143) hB244) hB271) hB274) hB280) (KT.tr (KT.tr (KT.tr (KT.tr (KT.tr (KT.tr hT hT138) hT143) hT244) hT271) hT274) hT280) (show 0 ≤ (F280 10).toInt ∨ (F280 11).toInt = -2 by omega) (by omega)
                · skip
                  have l_288 : (4 : Int32).toInt = 4 := rfl
                  have e_289 := mt i_eq.mpr (show ¬ (r138 = (4 : Int32)) from c_238)
                  unfold cb_X4_walk_146
                  unfold cb_X4_walk_147
                  have q_290 := i_rng (F138 12)
                  have q_291 := i_rng (F138 13)
                  refine WP.bind (cs_X4_startFunction hfu (F138 12) (F138 13) (0 : Int32) F143 G143 hI143 (by decide)) ?_
                  rintro r292 F292 G292 ⟨hI292, hB292, hT292, hO292, hK292, hp292⟩
                  dsimp only
                  have q_293 := i_rng (F292 11)
                  have e_294 : (F292 11).toInt = (F143 11).toInt := congrArg Int32.toInt hK292
                  have q_295 := hI292.r 10 rfl
                  have e_296 : (F292 10).toInt = (F143 10).toInt := hO292
                  unfold cb_X4_walk_150
                  refine WP.ite (fun c_297 => ?_) (fun c_297 => ?_)
                  · skip
                    have q_298 := i_rng (F292 27)
                    have e_299 := i_eq.mp (show (F138 12) = (F292 27) from c_297)
                    unfold cb_X4_walk_160
                    unfold cb_X4_walk_165
                    have l_300 : (1 : Int32).toInt = 1 := rfl
                    refine WP.bind (cs_X4_formals hfu (1 : Int32) F292 G292 hI292 (by decide)) ?_
                    rintro r301 F301 G301 ⟨hI301, hB301, hT301, hO301, hp301⟩
                    dsimp only
                    have q_302 := hI301.r 10 rfl
                    have e_303 : (F301 10).toInt = (F292 10).toInt := hO301
                    unfold cb_X4_walk_168
                    refine WP.bind (cs_X4_block hfu F301 G301 hI301 (show 0 ≤ (F301 10).toInt by omega)) ?_
                    rintro r304 F304 G304 ⟨hI304, hB304, hT304, hS304, hp304⟩
                    dsimp only
                    have q_305 := i_rng (F301 11)
                    have q_306 := i_rng (F304 11)
                    have e_307 : (F301 11).toInt = -2 → (F304 11).toInt = -2 := hS304
                    have q_308 := hI304.r 10 rfl
                    have e_309 : (F304 10).toInt = (F301 10).toInt ∨ ((F304 10).toInt = (F301 10).toInt - 1 ∧ (F304 11).toInt = -2 ∧ (F301 11).toInt ≠ -2) := hp304
                    unfold cb_X4_walk_172
                    refine WP.bind (cs_X4_endFunction hfu F304 G304 hI304) ?_
                    rintro r310 F310 G310 ⟨hI310, hB310, hT310, hO310, hK310, hp310⟩
                    dsimp only
                    have q_311 := i_rng (F310 11)
                    have e_312 : (F310 11).toInt = (F304 11).toInt := congrArg Int32.toInt hK310
                    have q_313 := hI310.r 10 rfl
                    have e_314 : (F310 10).toInt = (F304 10).toInt := hO310
                    unfold cb_X4_walk_176
                    unfold cb_X4_walk_245
                    have q_315 := i_rng x1
                    first | have e_316 : (x2 + (1 : Int32)).toInt = x2.toInt + (1) := i_addn x2 rfl (by omega) (by omega) | have e_317 := i_rng (x2 + (1 : Int32))
                    exact ihn x1 (x2 + (1 : Int32)) F310 G310 hI310 (KB.tr (KB.tr (KB.tr (KB.tr (KB.tr (KB.tr hB hB138) hB143) hB292) hB301) hB304) hB310) (KT.tr (KT.tr (KT.tr (KT.tr (KT.tr (KT.tr hT hT138) hT143) hT292) hT301) hT304) hT310) (show 0 ≤ (F310 10).toInt ∨ (F310 11).toInt = -2 by omega) (by omega)
                  · skip
                    have q_318 := i_rng (F292 27)
                    have e_319 := mt i_eq.mpr (show ¬ ((F138 12) = (F292 27)) from c_297)
                    unfold cb_X4_walk_164
                    unfold cb_X4_walk_165
                    refine WP.bind (cs_X4_formals hfu (0 : Int32) F292 G292 hI292 (by decide)) ?_
                    rintro r320 F320 G320 ⟨hI320, hB320, hT320, hO320, hp320⟩
                    dsimp only
                    have q_321 := hI320.r 10 rfl
                    have e_322 : (F320 10).toInt = (F292 10).toInt := hO320
                    unfold cb_X4_walk_168
                    refine WP.bind (cs_X4_block hfu F320 G320 hI320 (show 0 ≤ (F320 10).toInt by omega)) ?_
                    rintro r323 F323 G323 ⟨hI323, hB323, hT323, hS323, hp323⟩
                    dsimp only
                    have q_324 := i_rng (F320 11)
                    have q_325 := i_rng (F323 11)
                    have e_326 : (F320 11).toInt = -2 → (F323 11).toInt = -2 := hS323
                    have q_327 := hI323.r 10 rfl
                    have e_328 : (F323 10).toInt = (F320 10).toInt ∨ ((F323 10).toInt = (F320 10).toInt - 1 ∧ (F323 11).toInt = -2 ∧ (F320 11).toInt ≠ -2) := hp323
                    unfold cb_X4_walk_172
                    refine WP.bind (cs_X4_endFunction hfu F323 G323 hI323) ?_
                    rintro r329 F329 G329 ⟨hI329, hB329, hT329, hO329, hK329, hp329⟩
                    dsimp only
                    have q_330 := i_rng (F329 11)
                    have e_331 : (F329 11).toInt = (F323 11).toInt := congrArg Int32.toInt hK329
                    have q_332 := hI329.r 10 rfl
                    have e_333 : (F329 10).toInt = (F323 10).toInt := hO329
                    unfold cb_X4_walk_176
                    unfold cb_X4_walk_245
                    have q_334 := i_rng x1
                    first | have e_335 : (x2 + (1 : Int32)).toInt = x2.toInt + (1) := i_addn x2 rfl (by omega) (by omega) | have e_336 := i_rng (x2 + (1 : Int32))
                    exact ihn x1 (x2 + (1 : Int32)) F329 G329 hI329 (KB.tr (KB.tr (KB.tr (KB.tr (KB.tr (KB.tr hB hB138) hB143) hB292) hB320) hB323) hB329) (KT.tr (KT.tr (KT.tr (KT.tr (KT.tr (KT.tr hT hT138) hT143) hT292) hT320) hT323) hT329) (show 0 ≤ (F329 10).toInt ∨ (F329 11).toInt = -2 by omega) (by omega)
            · skip
              have l_337 : (19 : Int32).toInt = 19 := rfl
              have e_338 := mt i_eq.mpr (show ¬ ((F143 11) = (19 : Int32)) from c_150)
              unfold cb_X4_walk_179
              refine WP.ite (fun c_339 => ?_) (fun c_339 => ?_)
              · skip
                have l_340 : (21 : Int32).toInt = 21 := rfl
                have e_341 := i_eq.mp (show (F143 11) = (21 : Int32) from c_339)
                unfold cb_X4_walk_191
                refine WP.ite (fun c_342 => ?_) (fun c_342 => ?_)
                · skip
                  have q_343 := i_rng r138
                  have l_344 : (6 : Int32).toInt = 6 := rfl
                  have e_345 := i_eq.mp (show r138 = (6 : Int32) from c_342)
                  unfold cb_X4_walk_220
                  refine WP.ite (fun c_346 => ?_) (fun c_346 => ?_)
                  · skip
                    have l_347 : (4 : Int32).toInt = 4 := rfl
                    have e_348 := i_eq.mp (show r138 = (4 : Int32) from c_346)
                    unfold cb_X4_walk_226
                    have q_349 := i_rng (F138 12)
                    have q_350 := i_rng (F138 13)
                    refine WP.bind (cs_X4_globalInt hfu (F138 12) (F138 13) F143 G143 hI143) ?_
                    rintro r351 F351 G351 ⟨hI351, hB351, hT351, hO351, hp351⟩
                    dsimp only
                    have q_352 := hI351.r 10 rfl
                    have e_353 : (F351 10).toInt = (F143 10).toInt := hO351
                    unfold cb_X4_walk_234
                    unfold cb_X4_walk_245
                    have q_354 := i_rng x1
                    first | have e_355 : (x2 + (1 : Int32)).toInt = x2.toInt + (1) := i_addn x2 rfl (by omega) (by omega) | have e_356 := i_rng (x2 + (1 : Int32))
                    have q_357 := i_rng (F351 11)
                    exact ihn x1 (x2 + (1 : Int32)) F351 G351 hI351 (KB.tr (KB.tr (KB.tr hB hB138) hB143) hB351) (KT.tr (KT.tr (KT.tr hT hT138) hT143) hT351) (show 0 ≤ (F351 10).toInt ∨ (F351 11).toInt = -2 by omega) (by omega)
                  · skip
                    have l_358 : (4 : Int32).toInt = 4 := rfl
                    have e_359 := mt i_eq.mpr (show ¬ (r138 = (4 : Int32)) from c_346)
                    unfold cb_X4_walk_237
                    refine WP.bind (cs_X2_fail hfu (2 : Int32) F143 G143 hI143) ?_
                    rintro r360 F360 G360 ⟨hI360, hB360, hT360, hO360, hp360⟩
                    dsimp only
                    have q_361 := hI360.r 10 rfl
                    have e_362 : (F360 10).toInt = (F143 10).toInt := hO360
                    have q_363 := i_rng (F360 11)
                    have e_364 : (F360 11).toInt = -2 := hp360
                    unfold cb_X4_walk_245
                    have q_365 := i_rng x1
                    first | have e_366 : (x2 + (1 : Int32)).toInt = x2.toInt + (1) := i_addn x2 rfl (by omega) (by omega) | have e_367 := i_rng (x2 + (1 : Int32))
                    exact ihn x1 (x2 + (1 : Int32)) F360 G360 hI360 (KB.tr (KB.tr (KB.tr hB hB138) hB143) hB360) (KT.tr (KT.tr (KT.tr hT hT138) hT143) hT360) (show 0 ≤ (F360 10).toInt ∨ (F360 11).toInt = -2 by omega) (by omega)
                · skip
                  have q_368 := i_rng r138
                  have l_369 : (6 : Int32).toInt = 6 := rfl
                  have e_370 := mt i_eq.mpr (show ¬ (r138 = (6 : Int32)) from c_342)
                  unfold cb_X4_walk_198
                  refine WP.ite (fun c_371 => ?_) (fun c_371 => ?_)
                  · skip
                    have l_372 : (4 : Int32).toInt = 4 := rfl
                    have e_373 := i_eq.mp (show r138 = (4 : Int32) from c_371)
                    unfold cb_X4_walk_209
                    unfold cb_X4_walk_214
                    have q_374 := i_rng (F138 12)
                    have q_375 := i_rng (F138 13)
                    refine WP.bind (cs_X4_globalArray hfu (F138 12) (F138 13) (2 : Int32) F143 G143 hI143) ?_
                    rintro r376 F376 G376 ⟨hI376, hB376, hT376, hO376, hp376⟩
                    dsimp only
                    have q_377 := hI376.r 10 rfl
                    have e_378 : (F376 10).toInt = (F143 10).toInt := hO376
                    unfold cb_X4_walk_217
                    unfold cb_X4_walk_245
                    have q_379 := i_rng x1
                    first | have e_380 : (x2 + (1 : Int32)).toInt = x2.toInt + (1) := i_addn x2 rfl (by omega) (by omega) | have e_381 := i_rng (x2 + (1 : Int32))
                    have q_382 := i_rng (F376 11)
                    exact ihn x1 (x2 + (1 : Int32)) F376 G376 hI376 (KB.tr (KB.tr (KB.tr hB hB138) hB143) hB376) (KT.tr (KT.tr (KT.tr hT hT138) hT143) hT376) (show 0 ≤ (F376 10).toInt ∨ (F376 11).toInt = -2 by omega) (by omega)
                  · skip
                    have l_383 : (4 : Int32).toInt = 4 := rfl
                    have e_384 := mt i_eq.mpr (show ¬ (r138 = (4 : Int32)) from c_371)
                    unfold cb_X4_walk_213
                    unfold cb_X4_walk_214
                    have q_385 := i_rng (F138 12)
                    have q_386 := i_rng (F138 13)
                    have l_387 : (3 : Int32).toInt = 3 := rfl
                    refine WP.bind (cs_X4_globalArray hfu (F138 12) (F138 13) (3 : Int32) F143 G143 hI143) ?_
                    rintro r388 F388 G388 ⟨hI388, hB388, hT388, hO388, hp388⟩
                    dsimp only
                    have q_389 := hI388.r 10 rfl
                    have e_390 : (F388 10).toInt = (F143 10).toInt := hO388
                    unfold cb_X4_walk_217
                    unfold cb_X4_walk_245
                    have q_391 := i_rng x1
                    first | have e_392 : (x2 + (1 : Int32)).toInt = x2.toInt + (1) := i_addn x2 rfl (by omega) (by omega) | have e_393 := i_rng (x2 + (1 : Int32))
                    have q_394 := i_rng (F388 11)
                    exact ihn x1 (x2 + (1 : Int32)) F388 G388 hI388 (KB.tr (KB.tr (KB.tr hB hB138) hB143) hB388) (KT.tr (KT.tr (KT.tr hT hT138) hT143) hT388) (show 0 ≤ (F388 10).toInt ∨ (F388 11).toInt = -2 by omega) (by omega)
              · skip
                have l_395 : (21 : Int32).toInt = 21 := rfl
                have e_396 := mt i_eq.mpr (show ¬ ((F143 11) = (21 : Int32)) from c_339)
                unfold cb_X4_walk_220
                refine WP.ite (fun c_397 => ?_) (fun c_397 => ?_)
                · skip
                  have q_398 := i_rng r138
                  have l_399 : (4 : Int32).toInt = 4 := rfl
                  have e_400 := i_eq.mp (show r138 = (4 : Int32) from c_397)
                  unfold cb_X4_walk_226
                  have q_401 := i_rng (F138 12)
                  have q_402 := i_rng (F138 13)
                  refine WP.bind (cs_X4_globalInt hfu (F138 12) (F138 13) F143 G143 hI143) ?_
                  rintro r403 F403 G403 ⟨hI403, hB403, hT403, hO403, hp403⟩
                  dsimp only
                  have q_404 := hI403.r 10 rfl
                  have e_405 : (F403 10).toInt = (F143 10).toInt := hO403
                  unfold cb_X4_walk_234
                  unfold cb_X4_walk_245
                  have q_406 := i_rng x1
                  first | have e_407 : (x2 + (1 : Int32)).toInt = x2.toInt + (1) := i_addn x2 rfl (by omega) (by omega) | have e_408 := i_rng (x2 + (1 : Int32))
                  have q_409 := i_rng (F403 11)
                  exact ihn x1 (x2 + (1 : Int32)) F403 G403 hI403 (KB.tr (KB.tr (KB.tr hB hB138) hB143) hB403) (KT.tr (KT.tr (KT.tr hT hT138) hT143) hT403) (show 0 ≤ (F403 10).toInt ∨ (F403 11).toInt = -2 by omega) (by omega)
                · skip
                  have q_410 := i_rng r138
                  have l_411 : (4 : Int32).toInt = 4 := rfl
                  have e_412 := mt i_eq.mpr (show ¬ (r138 = (4 : Int32)) from c_397)
                  unfold cb_X4_walk_237
                  refine WP.bind (cs_X2_fail hfu (2 : Int32) F143 G143 hI143) ?_
                  rintro r413 F413 G413 ⟨hI413, hB413, hT413, hO413, hp413⟩
                  dsimp only
                  have q_414 := hI413.r 10 rfl
                  have e_415 : (F413 10).toInt = (F143 10).toInt := hO413
                  have q_416 := i_rng (F413 11)
                  have e_417 : (F413 11).toInt = -2 := hp413
                  unfold cb_X4_walk_245
                  have q_418 := i_rng x1
                  first | have e_419 : (x2 + (1 : Int32)).toInt = x2.toInt + (1) := i_addn x2 rfl (by omega) (by omega) | have e_420 := i_rng (x2 + (1 : Int32))
                  exact ihn x1 (x2 + (1 : Int32)) F413 G413 hI413 (KB.tr (KB.tr (KB.tr hB hB138) hB143) hB413) (KT.tr (KT.tr (KT.tr hT hT138) hT143) hT413) (show 0 ≤ (F413 10).toInt ∨ (F413 11).toInt = -2 by omega) (by omega)
theorem cs_X4_walk {fu : Nat} (hfu : 8589934592 ≤ fu) (x1 : Int32) (F : PF) (G : PG) (hI : CI F G) (hz_x1 : x1 = 0 ∨ x1 = 1) : WP (cf_X4_walk fu x1 F G) (fun r' F' G' => CI F' G' ∧ KB F G F' G' ∧ KT F F' ∧ True) := by
  have q_x1 := b_rng hz_x1
  unfold cf_X4_walk
  unfold cb_X4_walk_0
  have q_1 := i_rng x1
  refine WP.bind (cs_X4_start hfu x1 F G hI hz_x1) ?_
  rintro r2 F2 G2 ⟨hI2, hB2, hT2, hp2⟩
  dsimp only
  have q_3 := hI.r 10 rfl
  have q_4 := hI2.r 10 rfl
  have e_5 : (F2 10).toInt = 0 := hp2
  unfold cb_X4_walk_5
  have l_6 : (0 : Int32).toInt = 0 := rfl
  have q_7 := i_rng (F2 11)
  exact cz_X4_walk_7 (F0 := F) (G0 := G) hfu fu x1 (0 : Int32) F2 G2 hI2 (KB.tr (KB.rf : KB F G F G) hB2) (KT.tr (rfl : KT F F) hT2) (show 0 ≤ (F2 10).toInt ∨ (F2 11).toInt = -2 by omega) (by omega)
theorem cs_X6_forget {fu : Nat} (hfu : 8589934592 ≤ fu) (F : PF) (G : PG) (hI : CI F G) : WP (cf_X6_forget fu F G) (fun r' F' G' => CI F' G' ∧ KB F G F' G' ∧ KT F F' ∧ KO F F' ∧ KK F F' ∧ True) := by
  unfold cf_X6_forget
  unfold cb_X6_forget_0
  have l_1 : (0 : Int32).toInt = 0 := rfl
  have j_2 : CI (fup F 63 (0 : Int32)) G := CI.fr rfl hI
  unfold cb_X6_forget_5
  have j_3 : CI (fup (fup F 63 (0 : Int32)) 64 (0 : Int32)) G := CI.fr rfl j_2
  unfold cb_X6_forget_10
  have j_4 : CI (fup (fup (fup F 63 (0 : Int32)) 64 (0 : Int32)) 65 (0 : Int32)) G := CI.fr rfl j_3
  unfold cb_X6_forget_15
  have l_5 : (-1 : Int32).toInt = -1 := rfl
  have j_6 : CI (fup (fup (fup (fup F 63 (0 : Int32)) 64 (0 : Int32)) 65 (0 : Int32)) 66 (-1 : Int32)) G := CI.fr rfl j_4
  unfold cb_X6_forget_20
  have j_7 : CI (fup (fup (fup (fup (fup F 63 (0 : Int32)) 64 (0 : Int32)) 65 (0 : Int32)) 66 (-1 : Int32)) 67 (0 : Int32)) G := CI.fr rfl j_6
  unfold cb_X6_forget_25
  have q_9 := hI.xx
  have j_8 : CI (fup (fup (fup (fup (fup (fup F 63 (0 : Int32)) 64 (0 : Int32)) 65 (0 : Int32)) 66 (-1 : Int32)) 67 (0 : Int32)) 56 (0 : Int32)) G := CI.top j_7 (by omega) (show (0 : Int32).toInt ≤ (xn F : Int) by omega)
  unfold cb_X6_forget_30
  have l_10 : (2000 : Int32).toInt = 2000 := rfl
  have j_11 : CI (fup (fup (fup (fup (fup (fup (fup F 63 (0 : Int32)) 64 (0 : Int32)) 65 (0 : Int32)) 66 (-1 : Int32)) 67 (0 : Int32)) 56 (0 : Int32)) 59 (2000 : Int32)) G := CI.fr rfl j_8
  unfold cb_X6_forget_37
  have j_12 : CI (fup (fup (fup (fup (fup (fup (fup (fup F 63 (0 : Int32)) 64 (0 : Int32)) 65 (0 : Int32)) 66 (-1 : Int32)) 67 (0 : Int32)) 56 (0 : Int32)) 59 (2000 : Int32)) 60 (0 : Int32)) G := CI.rg (k := 60) (x := (0 : Int32)) rfl (by decide) (by decide) j_11 ⟨by omega, by omega⟩
  unfold cb_X6_forget_42
  refine WP.ret ?_
  exact ⟨j_12, (KB.f (by decide) (KB.f (by decide) (KB.f (by decide) (KB.f (by decide) (KB.f (by decide) (KB.f (by decide) (KB.f (by decide) (KB.f (by decide) (KB.rf : KB F G F G))))))))), (KT.f (by decide) (KT.f (by decide) (KT.f (by decide) (KT.f (by decide) (KT.f (by decide) (KT.f (by decide) (KT.f (by decide) (KT.f (by decide) (rfl : KT F F))))))))), (KO.f (by decide) (KO.f (by decide) (KO.f (by decide) (KO.f (by decide) (KO.f (by decide) (KO.f (by decide) (KO.f (by decide) (KO.f (by decide) (rfl : KO F F))))))))), (KK.f (by decide) (KK.f (by decide) (KK.f (by decide) (KK.f (by decide) (KK.f (by decide) (KK.f (by decide) (KK.f (by decide) (KK.f (by decide) (rfl : KK F F))))))))), trivial⟩
theorem cs_X6_startAnew {fu : Nat} (hfu : 8589934592 ≤ fu) (x1 : Int32) (F : PF) (G : PG) (hI : CI F G) : WP (cf_X6_startAnew fu x1 F G) (fun r' F' G' => CI F' G' ∧ KB F G F' G' ∧ KT F F' ∧ KO F F' ∧ KK F F' ∧ True) := by
  unfold cf_X6_startAnew
  unfold cb_X6_startAnew_0
  refine WP.bind (cs_X6_forget hfu F G hI) ?_
  rintro r1 F1 G1 ⟨hI1, hB1, hT1, hO1, hK1, hp1⟩
  dsimp only
  have q_2 := hI.r 10 rfl
  have q_3 := hI1.r 10 rfl
  have e_4 : (F1 10).toInt = (F 10).toInt := hO1
  unfold cb_X6_startAnew_4
  have l_5 : (1 : Int32).toInt = 1 := rfl
  have j_6 : CI (fup F1 63 (1 : Int32)) G1 := CI.fr rfl hI1
  unfold cb_X6_startAnew_9
  have q_7 := i_rng x1
  have j_8 : CI (fup (fup F1 63 (1 : Int32)) 67 x1) G1 := CI.fr rfl j_6
  unfold cb_X6_startAnew_14
  have j_9 : CI (fup (fup F1 63 (1 : Int32)) 67 x1) (gcp G1 86 54) := CI.gc (by decide) j_8
  unfold cb_X6_startAnew_33
  refine WP.ret ?_
  exact ⟨j_9, (KB.gc (by decide) (KB.f (by decide) (KB.f (by decide) (KB.tr (KB.rf : KB F G F G) hB1)))), (KT.f (by decide) (KT.f (by decide) (KT.tr (rfl : KT F F) hT1))), (KO.f (by decide) (KO.f (by decide) (KO.tr (rfl : KO F F) hO1))), (KK.f (by decide) (KK.f (by decide) (KK.tr (rfl : KK F F) hK1))), trivial⟩
theorem cs_X6_depth {fu : Nat} (hfu : 8589934592 ≤ fu) (F : PF) (G : PG) (hI : CI F G) : WP (cf_X6_depth fu F G) (fun r' F' G' => F = F' ∧ G = G' ∧ True) := by
  unfold cf_X6_depth
  unfold cb_X6_depth_0
  refine WP.ret ?_
  exact ⟨rfl, rfl, trivial⟩
theorem cs_X6_held {fu : Nat} (hfu : 8589934592 ≤ fu) (x1 : Int32) (F : PF) (G : PG) (hI : CI F G) : WP (cf_X6_held fu x1 F G) (fun r' F' G' => F = F' ∧ G = G' ∧ True) := by
  unfold cf_X6_held
  unfold cb_X6_held_0
  refine WP.ite (fun c_1 => ?_) (fun c_1 => ?_)
  · skip
    have q_2 := i_rng x1
    have l_3 : (0 : Int32).toInt = 0 := rfl
    have e_4 := i_lt.mp (show x1 < (0 : Int32) from c_1)
    unfold cb_X6_held_11
    unfold cb_X6_held_21
    refine WP.ret ?_
    exact ⟨rfl, rfl, trivial⟩
  · skip
    have q_5 := i_rng x1
    have l_6 : (0 : Int32).toInt = 0 := rfl
    have e_7 := mt i_lt.mpr (show ¬ (x1 < (0 : Int32)) from c_1)
    unfold cb_X6_held_4
    refine WP.ite (fun c_8 => ?_) (fun c_8 => ?_)
    · skip
      have l_9 : (4000 : Int32).toInt = 4000 := rfl
      have e_10 := i_lt.mp (show x1 < (4000 : Int32) from c_8)
      unfold cb_X6_held_15
      refine WP.ix (show vp_in x1 4000 from vp_in_iff.mpr ⟨by omega, by omega⟩) ?_
      unfold cb_X6_held_21
      refine WP.ret ?_
      exact ⟨rfl, rfl, trivial⟩
    · skip
      have l_11 : (4000 : Int32).toInt = 4000 := rfl
      have e_12 := mt i_lt.mpr (show ¬ (x1 < (4000 : Int32)) from c_8)
      unfold cb_X6_held_11
      unfold cb_X6_held_21
      refine WP.ret ?_
      exact ⟨rfl, rfl, trivial⟩
theorem cs_X6_hold {fu : Nat} (hfu : 8589934592 ≤ fu) (x1 : Int32) (x2 : Int32) (F : PF) (G : PG) (hI : CI F G) : WP (cf_X6_hold fu x1 x2 F G) (fun r' F' G' => CI F' G' ∧ KB F G F' G' ∧ KT F F' ∧ KO F F' ∧ KK F F' ∧ True) := by
  unfold cf_X6_hold
  unfold cb_X6_hold_0
  refine WP.ite (fun c_1 => ?_) (fun c_1 => ?_)
  · skip
    have q_2 := i_rng x1
    have l_3 : (0 : Int32).toInt = 0 := rfl
    have e_4 := i_lt.mp (show x1 < (0 : Int32) from c_1)
    unfold cb_X6_hold_18
    refine WP.ret ?_
    exact ⟨hI, (KB.rf : KB F G F G), (rfl : KT F F), (rfl : KO F F), (rfl : KK F F), trivial⟩
  · skip
    have q_5 := i_rng x1
    have l_6 : (0 : Int32).toInt = 0 := rfl
    have e_7 := mt i_lt.mpr (show ¬ (x1 < (0 : Int32)) from c_1)
    unfold cb_X6_hold_4
    refine WP.ite (fun c_8 => ?_) (fun c_8 => ?_)
    · skip
      have l_9 : (4000 : Int32).toInt = 4000 := rfl
      have e_10 := i_le.mp (show (4000 : Int32) ≤ x1 from c_8)
      unfold cb_X6_hold_18
      refine WP.ret ?_
      exact ⟨hI, (KB.rf : KB F G F G), (rfl : KT F F), (rfl : KO F F), (rfl : KK F F), trivial⟩
    · skip
      have l_11 : (4000 : Int32).toInt = 4000 := rfl
      have e_12 := mt i_le.mpr (show ¬ ((4000 : Int32) ≤ x1) from c_8)
      unfold cb_X6_hold_11
      refine WP.ix (show vp_in x1 4000 from vp_in_iff.mpr ⟨by omega, by omega⟩) ?_
      have j_13 : CI F (gup G 54 x1.toNatClampNeg x2) := CI.g (by decide) hI
      unfold cb_X6_hold_18
      refine WP.ret ?_
      exact ⟨j_13, (KB.g (by decide) (KB.rf : KB F G F G)), (rfl : KT F F), (rfl : KO F F), (rfl : KK F F), trivial⟩
theorem cz_X6_clear_2 {fu : Nat} (hfu : 8589934592 ≤ fu) {F0 : PF} {G0 : PG} : ∀ (n : Nat) (x1 : Int32) (x2 : Int32) (x3 : Int32) (F : PF) (G : PG) (hI : CI F G) (hB : KB F0 G0 F G) (hT : KT F0 F) (hO : KO F0 F) (hK : KK F0 F) (hn : (2147483647 - x3.toInt).toNat < n), WP (cl_X6_clear_2 fu n x1 x2 x3 F G) (fun r' F' G' => CI F' G' ∧ KB F0 G0 F' G' ∧ KT F0 F' ∧ KO F0 F' ∧ KK F0 F' ∧ True) := by
  intro n
  induction n with
  | zero =>
    intro x1 x2 x3 F G hI hB hT hO hK hn
    exact absurd hn (Nat.not_lt_zero _)
  | succ n ihn =>
    intro x1 x2 x3 F G hI hB hT hO hK hn
    show WP (cb_X6_clear_2 fu (cl_X6_clear_2 fu n)  x1 x2 x3 F G) _
    unfold cb_X6_clear_2
    refine WP.ite (fun c_1 => ?_) (fun c_1 => ?_)
    · skip
      have q_2 := i_rng x2
      have q_3 := i_rng x3
      have e_4 := i_le.mp (show x2 ≤ x3 from c_1)
      unfold cb_X6_clear_28
      refine WP.ret ?_
      exact ⟨hI, hB, hT, hO, hK, trivial⟩
    · skip
      have q_5 := i_rng x2
      have q_6 := i_rng x3
      have e_7 := mt i_le.mpr (show ¬ (x2 ≤ x3) from c_1)
      unfold cb_X6_clear_7
      refine WP.ite (fun c_8 => ?_) (fun c_8 => ?_)
      · skip
        have l_9 : (200 : Int32).toInt = 200 := rfl
        have e_10 := i_le.mp (show (200 : Int32) ≤ x3 from c_8)
        unfold cb_X6_clear_28
        refine WP.ret ?_
        exact ⟨hI, hB, hT, hO, hK, trivial⟩
      · skip
        have l_11 : (200 : Int32).toInt = 200 := rfl
        have e_12 := mt i_le.mpr (show ¬ ((200 : Int32) ≤ x3) from c_8)
        unfold cb_X6_clear_14
        have q_13 := i_rng x1
        first | have e_14 : (x1 + x3).toInt = x1.toInt + (x3.toInt) := i_addn x1 rfl (by omega) (by omega) | have e_15 := i_rng (x1 + x3)
        have l_16 : (0 : Int32).toInt = 0 := rfl
        refine WP.bind (cs_X6_hold hfu (x1 + x3) (0 : Int32) F G hI) ?_
        rintro r17 F17 G17 ⟨hI17, hB17, hT17, hO17, hK17, hp17⟩
        dsimp only
        have q_18 := hI.r 10 rfl
        have q_19 := hI17.r 10 rfl
        have e_20 : (F17 10).toInt = (F 10).toInt := hO17
        unfold cb_X6_clear_22
        first | have e_21 : (x3 + (1 : Int32)).toInt = x3.toInt + (1) := i_addn x3 rfl (by omega) (by omega) | have e_22 := i_rng (x3 + (1 : Int32))
        exact ihn x1 x2 (x3 + (1 : Int32)) F17 G17 hI17 (KB.tr hB hB17) (KT.tr hT hT17) (KO.tr hO hO17) (KK.tr hK hK17) (by omega)
theorem cs_X6_clear {fu : Nat} (hfu : 8589934592 ≤ fu) (x1 : Int32) (x2 : Int32) (F : PF) (G : PG) (hI : CI F G) : WP (cf_X6_clear fu x1 x2 F G) (fun r' F' G' => CI F' G' ∧ KB F G F' G' ∧ KT F F' ∧ KO F F' ∧ KK F F' ∧ True) := by
  unfold cf_X6_clear
  unfold cb_X6_clear_0
  have q_1 := i_rng x1
  have q_2 := i_rng x2
  have l_3 : (0 : Int32).toInt = 0 := rfl
  exact cz_X6_clear_2 (F0 := F) (G0 := G) hfu fu x1 x2 (0 : Int32) F G hI (KB.rf : KB F G F G) (rfl : KT F F) (rfl : KO F F) (rfl : KK F F) (by omega)
