theorem cz_X4_formals_33 {fu : Nat} (hfu : 8589934592 ≤ fu) {F0 : PF} {G0 : PG} : ∀ (n : Nat) (x1 : Int32) (x2 : Int32) (x3 : Int32) (F : PF) (G : PG) (hI : CI F G) (hB : KB F0 G0 F G) (hT : KT F0 F) (i_0 : (F 10).toInt = (F0 10).toInt + 1) (i_1 : 0 ≤ (F0 10).toInt) (i_2 : x1 = 0 ∨ x1 = 1) (hn : (2147483647 - x3.toInt).toNat < n), WP (cl_X4_formals_33 fu n x1 x2 x3 F G) (fun r' F' G' => CI F' G' ∧ KB F0 G0 F' G' ∧ KT F0 F' ∧ KO F0 F' ∧ True) := by
  intro n
  induction n with
  | zero =>
    intro x1 x2 x3 F G hI hB hT i_0 i_1 i_2 hn
    exact absurd hn (Nat.not_lt_zero _)
  | succ n ihn =>
    intro x1 x2 x3 F G hI hB hT i_0 i_1 i_2 hn
    show WP (cb_X4_formals_33 fu (cl_X4_formals_33 fu n)  x1 x2 x3 F G) _
    have q_x1 := b_rng i_2
    unfold cb_X4_formals_33
    refine WP.ite (fun c_1 => ?_) (fun c_1 => ?_)
    · skip
      have l_2 : (4001 : Int32).toInt = 4001 := rfl
      have q_3 := i_rng x3
      have e_4 := i_le.mp (show (4001 : Int32) ≤ x3 from c_1)
      unfold cb_X4_formals_85
      have l_5 : (20 : Int32).toInt = 20 := rfl
      have q_6 := hI.r 10 rfl
      refine WP.bind (cs_X2_closesWith hfu (20 : Int32) F G hI (show 1 ≤ (F 10).toInt by omega)) ?_
      rintro r7 F7 G7 ⟨hI7, hB7, hT7, hp7⟩
      dsimp only
      have q_8 := hI7.r 10 rfl
      have e_9 : (F7 10).toInt = (F 10).toInt - 1 := hp7
      unfold cb_X4_formals_94
      refine WP.ret ?_
      have q_10 := i_rng (F0 10)
      exact ⟨hI7, (KB.tr hB hB7), (KT.tr hT hT7), (show (F7 10).toInt = (F0 10).toInt by omega), trivial⟩
    · skip
      have l_11 : (4001 : Int32).toInt = 4001 := rfl
      have q_12 := i_rng x3
      have e_13 := mt i_le.mpr (show ¬ ((4001 : Int32) ≤ x3) from c_1)
      unfold cb_X4_formals_40
      refine WP.ite (fun c_14 => ?_) (fun c_14 => ?_)
      · skip
        have q_15 := i_rng x2
        have l_16 : (0 : Int32).toInt = 0 := rfl
        have e_17 := i_eq.mp (show x2 = (0 : Int32) from c_14)
        unfold cb_X4_formals_85
        have l_18 : (20 : Int32).toInt = 20 := rfl
        have q_19 := hI.r 10 rfl
        refine WP.bind (cs_X2_closesWith hfu (20 : Int32) F G hI (show 1 ≤ (F 10).toInt by omega)) ?_
        rintro r20 F20 G20 ⟨hI20, hB20, hT20, hp20⟩
        dsimp only
        have q_21 := hI20.r 10 rfl
        have e_22 : (F20 10).toInt = (F 10).toInt - 1 := hp20
        unfold cb_X4_formals_94
        refine WP.ret ?_
        have q_23 := i_rng (F0 10)
        exact ⟨hI20, (KB.tr hB hB20), (KT.tr hT hT20), (show (F20 10).toInt = (F0 10).toInt by omega), trivial⟩
      · skip
        have q_24 := i_rng x2
        have l_25 : (0 : Int32).toInt = 0 := rfl
        have e_26 := mt i_eq.mpr (show ¬ (x2 = (0 : Int32)) from c_14)
        unfold cb_X4_formals_44
        refine WP.bind (cs_X4_formal hfu x3 x1 F G hI i_2) ?_
        rintro r27 F27 G27 ⟨hI27, hB27, hT27, hO27, hp27⟩
        dsimp only
        have q_28 := hI.r 10 rfl
        have q_29 := hI27.r 10 rfl
        have e_30 : (F27 10).toInt = (F 10).toInt := hO27
        unfold cb_X4_formals_50
        refine WP.ite (fun c_31 => ?_) (fun c_31 => ?_)
        · skip
          have q_32 := i_rng (F27 11)
          have l_33 : (25 : Int32).toInt = 25 := rfl
          have e_34 := i_eq.mp (show (F27 11) = (25 : Int32) from c_31)
          unfold cb_X4_formals_62
          unfold cb_X4_formals_67
          refine WP.ite (fun c_35 => absurd c_35 (by decide)) (fun _ => ?_)
          unfold cb_X4_formals_72
          refine WP.bind (cs_X2_next hfu F27 G27 hI27) ?_
          rintro r36 F36 G36 ⟨hI36, hB36, hT36, hO36, hp36⟩
          dsimp only
          have q_37 := hI36.r 10 rfl
          have e_38 : (F36 10).toInt = (F27 10).toInt := hO36
          unfold cb_X4_formals_79
          have l_39 : (1 : Int32).toInt = 1 := rfl
          obtain ⟨k_40, e_41, e_42⟩ := i_add x3 (1 : Int32)
          exact ihn x1 (1 : Int32) (x3 + (1 : Int32)) F36 G36 hI36 (KB.tr (KB.tr hB hB27) hB36) (KT.tr (KT.tr hT hT27) hT36) (show (F36 10).toInt = (F0 10).toInt + 1 by omega) (show 0 ≤ (F0 10).toInt by omega) i_2 (by omega)
        · skip
          have q_43 := i_rng (F27 11)
          have l_44 : (25 : Int32).toInt = 25 := rfl
          have e_45 := mt i_eq.mpr (show ¬ ((F27 11) = (25 : Int32)) from c_31)
          unfold cb_X4_formals_66
          unfold cb_X4_formals_67
          refine WP.ite (fun _ => ?_) (fun c_46 => absurd (by decide) c_46)
          unfold cb_X4_formals_79
          have l_47 : (1 : Int32).toInt = 1 := rfl
          obtain ⟨k_48, e_49, e_50⟩ := i_add x3 (1 : Int32)
          exact ihn x1 (0 : Int32) (x3 + (1 : Int32)) F27 G27 hI27 (KB.tr hB hB27) (KT.tr hT hT27) (show (F27 10).toInt = (F0 10).toInt + 1 by omega) (show 0 ≤ (F0 10).toInt by omega) i_2 (by omega)
theorem cs_X4_formals {fu : Nat} (hfu : 8589934592 ≤ fu) (x1 : Int32) (F : PF) (G : PG) (hI : CI F G) (hz_x1 : x1 = 0 ∨ x1 = 1) : WP (cf_X4_formals fu x1 F G) (fun r' F' G' => CI F' G' ∧ KB F G F' G' ∧ KT F F' ∧ KO F F' ∧ True) := by
  have q_x1 := b_rng hz_x1
  unfold cf_X4_formals
  unfold cb_X4_formals_0
  have l_1 : (19 : Int32).toInt = 19 := rfl
  refine WP.bind (cs_X2_opens hfu (19 : Int32) F G hI) ?_
  rintro r2 F2 G2 ⟨hI2, hB2, hT2, hp2⟩
  dsimp only
  have q_3 := b_rng (hp2.1)
  have q_4 := hI.r 10 rfl
  have q_5 := hI2.r 10 rfl
  have e_6 : r2.toInt = 1 → (F2 10).toInt = (F 10).toInt + 1 ∧ (F 10).toInt < 40 := hp2.2.1
  have e_7 : r2.toInt = 0 → (F2 10).toInt = (F 10).toInt := hp2.2.2
  unfold cb_X4_formals_9
  refine WP.ite (fun c_8 => ?_) (fun c_8 => ?_)
  · skip
    have l_9 : (0 : Int32).toInt = 0 := rfl
    have e_10 := i_eq.mp (show r2 = (0 : Int32) from c_8)
    unfold cb_X4_formals_12
    refine WP.ret ?_
    exact ⟨hI2, (KB.tr (KB.rf : KB F G F G) hB2), (KT.tr (rfl : KT F F) hT2), (show (F2 10).toInt = (F 10).toInt by omega), trivial⟩
  · skip
    have l_11 : (0 : Int32).toInt = 0 := rfl
    have e_12 := mt i_eq.mpr (show ¬ (r2 = (0 : Int32)) from c_8)
    unfold cb_X4_formals_13
    refine WP.ite (fun c_13 => ?_) (fun c_13 => ?_)
    · skip
      have q_14 := i_rng (F2 11)
      have l_15 : (20 : Int32).toInt = 20 := rfl
      have e_16 := i_eq.mp (show (F2 11) = (20 : Int32) from c_13)
      unfold cb_X4_formals_29
      unfold cb_X4_formals_30
      have q_17 := i_rng x1
      exact cz_X4_formals_33 (F0 := F) (G0 := G) hfu fu x1 (0 : Int32) (0 : Int32) F2 G2 hI2 (KB.tr (KB.rf : KB F G F G) hB2) (KT.tr (rfl : KT F F) hT2) (show (F2 10).toInt = (F 10).toInt + 1 by omega) (show 0 ≤ (F 10).toInt by omega) hz_x1 (by omega)
    · skip
      have q_18 := i_rng (F2 11)
      have l_19 : (20 : Int32).toInt = 20 := rfl
      have e_20 := mt i_eq.mpr (show ¬ ((F2 11) = (20 : Int32)) from c_13)
      unfold cb_X4_formals_25
      unfold cb_X4_formals_30
      have q_21 := i_rng x1
      have l_22 : (1 : Int32).toInt = 1 := rfl
      exact cz_X4_formals_33 (F0 := F) (G0 := G) hfu fu x1 (1 : Int32) (0 : Int32) F2 G2 hI2 (KB.tr (KB.rf : KB F G F G) hB2) (KT.tr (rfl : KT F F) hT2) (show (F2 10).toInt = (F 10).toInt + 1 by omega) (show 0 ≤ (F 10).toInt by omega) hz_x1 (by omega)
theorem cs_X5_globalRoom {fu : Nat} (hfu : 8589934592 ≤ fu) (x1 : Int32) (x2 : Int32) (F : PF) (G : PG) (hI : CI F G) : WP (cf_X5_globalRoom fu x1 x2 F G) (fun r' F' G' => CI F' G' ∧ KB F G F' G' ∧ KT F F' ∧ KO F F' ∧ True) := by
  unfold cf_X5_globalRoom
  unfold cb_X5_globalRoom_0
  refine WP.ite (fun c_1 => ?_) (fun c_1 => ?_)
  · skip
    have q_2 := hI.r 45 rfl
    have l_3 : (0 : Int32).toInt = 0 := rfl
    have e_4 := i_eq.mp (show (F 45) = (0 : Int32) from c_1)
    unfold cb_X5_globalRoom_48
    refine WP.ret ?_
    exact ⟨hI, (KB.rf : KB F G F G), (rfl : KT F F), (rfl : KO F F), trivial⟩
  · skip
    have q_5 := hI.r 45 rfl
    have l_6 : (0 : Int32).toInt = 0 := rfl
    have e_7 := mt i_eq.mpr (show ¬ ((F 45) = (0 : Int32)) from c_1)
    unfold cb_X5_globalRoom_15
    have q_8 := i_rng (F 75)
    have q_9 := i_rng x1
    obtain ⟨k_10, e_11, e_12⟩ := i_add (F 75) x1
    have j_13 : CI (fup F 75 ((F 75) + x1)) G := CI.fr rfl hI
    unfold cb_X5_globalRoom_28
    refine WP.ite (fun c_14 => ?_) (fun c_14 => ?_)
    · skip
      have l_15 : (2000 : Int32).toInt = 2000 := rfl
      have e_16 := i_le.mp (show ((F 75) + x1) ≤ (2000 : Int32) from c_14)
      unfold cb_X5_globalRoom_48
      refine WP.ret ?_
      exact ⟨j_13, (KB.f (by decide) (KB.rf : KB F G F G)), (KT.f (by decide) (rfl : KT F F)), (KO.f (by decide) (rfl : KO F F)), trivial⟩
    · skip
      have l_17 : (2000 : Int32).toInt = 2000 := rfl
      have e_18 := mt i_le.mpr (show ¬ (((F 75) + x1) ≤ (2000 : Int32)) from c_14)
      unfold cb_X5_globalRoom_41
      have l_19 : (8 : Int32).toInt = 8 := rfl
      have q_20 := i_rng x2
      refine WP.bind (cs_X5_note hfu (8 : Int32) x2 (fup F 75 ((F 75) + x1)) G j_13) ?_
      rintro r21 F21 G21 ⟨hI21, hB21, hT21, hO21, hp21⟩
      dsimp only
      have q_22 := hI.r 10 rfl
      have q_23 := hI21.r 10 rfl
      have e_24 : (F21 10).toInt = (F 10).toInt := hO21
      unfold cb_X5_globalRoom_48
      refine WP.ret ?_
      exact ⟨hI21, (KB.tr (KB.f (by decide) (KB.rf : KB F G F G)) hB21), (KT.tr (KT.f (by decide) (rfl : KT F F)) hT21), (KO.tr (KO.f (by decide) (rfl : KO F F)) hO21), trivial⟩
theorem cs_X8_tellInt {fu : Nat} (hfu : 8589934592 ≤ fu) (x1 : Int32) (x2 : Int32) (F : PF) (G : PG) (hI : CI F G) : WP (cf_X8_tellInt fu x1 x2 F G) (fun r' F' G' => CI F' G' ∧ KB F G F' G' ∧ KT F F' ∧ KO F F' ∧ True) := by
  unfold cf_X8_tellInt
  unfold cb_X8_tellInt_0
  refine WP.ite (fun c_1 => ?_) (fun c_1 => ?_)
  · skip
    have q_2 := i_rng x1
    have l_3 : (0 : Int32).toInt = 0 := rfl
    have e_4 := i_lt.mp (show x1 < (0 : Int32) from c_1)
    unfold cb_X8_tellInt_18
    refine WP.ret ?_
    exact ⟨hI, (KB.rf : KB F G F G), (rfl : KT F F), (rfl : KO F F), trivial⟩
  · skip
    have q_5 := i_rng x1
    have l_6 : (0 : Int32).toInt = 0 := rfl
    have e_7 := mt i_lt.mpr (show ¬ (x1 < (0 : Int32)) from c_1)
    unfold cb_X8_tellInt_4
    refine WP.ite (fun c_8 => ?_) (fun c_8 => ?_)
    · skip
      have l_9 : (2000 : Int32).toInt = 2000 := rfl
      have e_10 := i_le.mp (show (2000 : Int32) ≤ x1 from c_8)
      unfold cb_X8_tellInt_18
      refine WP.ret ?_
      exact ⟨hI, (KB.rf : KB F G F G), (rfl : KT F F), (rfl : KO F F), trivial⟩
    · skip
      have l_11 : (2000 : Int32).toInt = 2000 := rfl
      have e_12 := mt i_le.mpr (show ¬ ((2000 : Int32) ≤ x1) from c_8)
      unfold cb_X8_tellInt_11
      refine WP.ix (show vp_in x1 2000 from vp_in_iff.mpr ⟨by omega, by omega⟩) ?_
      have j_13 : CI F (gup G 86 x1.toNatClampNeg x2) := CI.g (by decide) hI
      unfold cb_X8_tellInt_18
      refine WP.ret ?_
      exact ⟨j_13, (KB.g (by decide) (KB.rf : KB F G F G)), (rfl : KT F F), (rfl : KO F F), trivial⟩
theorem cs_X4_globalInt {fu : Nat} (hfu : 8589934592 ≤ fu) (x1 : Int32) (x2 : Int32) (F : PF) (G : PG) (hI : CI F G) : WP (cf_X4_globalInt fu x1 x2 F G) (fun r' F' G' => CI F' G' ∧ KB F G F' G' ∧ KT F F' ∧ KO F F' ∧ True) := by
  unfold cf_X4_globalInt
  unfold cb_X4_globalInt_0
  refine WP.ite (fun c_1 => ?_) (fun c_1 => ?_)
  · skip
    have q_2 := i_rng (F 11)
    have l_3 : (29 : Int32).toInt = 29 := rfl
    have e_4 := i_eq.mp (show (F 11) = (29 : Int32) from c_1)
    unfold cb_X4_globalInt_14
    refine WP.bind (cs_X2_next hfu F G hI) ?_
    rintro r5 F5 G5 ⟨hI5, hB5, hT5, hO5, hp5⟩
    dsimp only
    have q_6 := hI.r 10 rfl
    have q_7 := hI5.r 10 rfl
    have e_8 : (F5 10).toInt = (F 10).toInt := hO5
    unfold cb_X4_globalInt_21
    refine WP.bind (cs_X3_constant hfu F5 G5 hI5) ?_
    rintro r9 F9 G9 ⟨hI9, hB9, hT9, hO9, hp9⟩
    dsimp only
    have q_10 := hI9.r 10 rfl
    have e_11 : (F9 10).toInt = (F5 10).toInt := hO9
    unfold cb_X4_globalInt_28
    unfold cb_X4_globalInt_29
    have l_12 : (26 : Int32).toInt = 26 := rfl
    refine WP.bind (cs_X2_expect hfu (26 : Int32) F9 G9 hI9) ?_
    rintro r13 F13 G13 ⟨hI13, hB13, hT13, hO13, hp13⟩
    dsimp only
    have q_14 := hI13.r 10 rfl
    have e_15 : (F13 10).toInt = (F9 10).toInt := hO13
    unfold cb_X4_globalInt_38
    have l_16 : (1 : Int32).toInt = 1 := rfl
    have q_17 := i_rng x2
    refine WP.bind (cs_X5_globalRoom hfu (1 : Int32) x2 F13 G13 hI13) ?_
    rintro r18 F18 G18 ⟨hI18, hB18, hT18, hO18, hp18⟩
    dsimp only
    have q_19 := hI18.r 10 rfl
    have e_20 : (F18 10).toInt = (F13 10).toInt := hO18
    unfold cb_X4_globalInt_47
    have q_21 := i_rng r18
    have q_22 := i_rng r9
    refine WP.bind (cs_X8_tellInt hfu r18 r9 F18 G18 hI18) ?_
    rintro r23 F23 G23 ⟨hI23, hB23, hT23, hO23, hp23⟩
    dsimp only
    have q_24 := hI23.r 10 rfl
    have e_25 : (F23 10).toInt = (F18 10).toInt := hO23
    unfold cb_X4_globalInt_59
    have q_26 := i_rng x1
    have l_27 : (0 : Int32).toInt = 0 := rfl
    refine WP.bind (cs_X5_tell hfu x1 x2 (1 : Int32) r18 (0 : Int32) F23 G23 hI23) ?_
    rintro r28 F28 G28 ⟨hI28, hB28, hT28, hO28, hp28⟩
    dsimp only
    have q_29 := hI28.r 10 rfl
    have e_30 : (F28 10).toInt = (F23 10).toInt := hO28
    unfold cb_X4_globalInt_72
    refine WP.ret ?_
    exact ⟨hI28, (KB.tr (KB.tr (KB.tr (KB.tr (KB.tr (KB.tr (KB.rf : KB F G F G) hB5) hB9) hB13) hB18) hB23) hB28), (KT.tr (KT.tr (KT.tr (KT.tr (KT.tr (KT.tr (rfl : KT F F) hT5) hT9) hT13) hT18) hT23) hT28), (KO.tr (KO.tr (KO.tr (KO.tr (KO.tr (KO.tr (rfl : KO F F) hO5) hO9) hO13) hO18) hO23) hO28), trivial⟩
  · skip
    have q_31 := i_rng (F 11)
    have l_32 : (29 : Int32).toInt = 29 := rfl
    have e_33 := mt i_eq.mpr (show ¬ ((F 11) = (29 : Int32)) from c_1)
    unfold cb_X4_globalInt_29
    have l_34 : (26 : Int32).toInt = 26 := rfl
    refine WP.bind (cs_X2_expect hfu (26 : Int32) F G hI) ?_
    rintro r35 F35 G35 ⟨hI35, hB35, hT35, hO35, hp35⟩
    dsimp only
    have q_36 := hI.r 10 rfl
    have q_37 := hI35.r 10 rfl
    have e_38 : (F35 10).toInt = (F 10).toInt := hO35
    unfold cb_X4_globalInt_38
    have l_39 : (1 : Int32).toInt = 1 := rfl
    have q_40 := i_rng x2
    refine WP.bind (cs_X5_globalRoom hfu (1 : Int32) x2 F35 G35 hI35) ?_
    rintro r41 F41 G41 ⟨hI41, hB41, hT41, hO41, hp41⟩
    dsimp only
    have q_42 := hI41.r 10 rfl
    have e_43 : (F41 10).toInt = (F35 10).toInt := hO41
    unfold cb_X4_globalInt_47
    have q_44 := i_rng r41
    have l_45 : (0 : Int32).toInt = 0 := rfl
    refine WP.bind (cs_X8_tellInt hfu r41 (0 : Int32) F41 G41 hI41) ?_
    rintro r46 F46 G46 ⟨hI46, hB46, hT46, hO46, hp46⟩
    dsimp only
    have q_47 := hI46.r 10 rfl
    have e_48 : (F46 10).toInt = (F41 10).toInt := hO46
    unfold cb_X4_globalInt_59
    have q_49 := i_rng x1
    refine WP.bind (cs_X5_tell hfu x1 x2 (1 : Int32) r41 (0 : Int32) F46 G46 hI46) ?_
    rintro r50 F50 G50 ⟨hI50, hB50, hT50, hO50, hp50⟩
    dsimp only
    have q_51 := hI50.r 10 rfl
    have e_52 : (F50 10).toInt = (F46 10).toInt := hO50
    unfold cb_X4_globalInt_72
    refine WP.ret ?_
    exact ⟨hI50, (KB.tr (KB.tr (KB.tr (KB.tr (KB.rf : KB F G F G) hB35) hB41) hB46) hB50), (KT.tr (KT.tr (KT.tr (KT.tr (rfl : KT F F) hT35) hT41) hT46) hT50), (KO.tr (KO.tr (KO.tr (KO.tr (rfl : KO F F) hO35) hO41) hO46) hO50), trivial⟩
theorem cs_X4_constTold {fu : Nat} (hfu : 8589934592 ≤ fu) (x1 : Int32) (x2 : Int32) (F : PF) (G : PG) (hI : CI F G) : WP (cf_X4_constTold fu x1 x2 F G) (fun r' F' G' => CI F' G' ∧ KB F G F' G' ∧ KT F F' ∧ KO F F' ∧ True) := by
  unfold cf_X4_constTold
  unfold cb_X4_constTold_0
  have l_1 : (29 : Int32).toInt = 29 := rfl
  refine WP.bind (cs_X2_expect hfu (29 : Int32) F G hI) ?_
  rintro r2 F2 G2 ⟨hI2, hB2, hT2, hO2, hp2⟩
  dsimp only
  have q_3 := hI.r 10 rfl
  have q_4 := hI2.r 10 rfl
  have e_5 : (F2 10).toInt = (F 10).toInt := hO2
  unfold cb_X4_constTold_9
  refine WP.bind (cs_X3_constant hfu F2 G2 hI2) ?_
  rintro r6 F6 G6 ⟨hI6, hB6, hT6, hO6, hp6⟩
  dsimp only
  have q_7 := hI6.r 10 rfl
  have e_8 : (F6 10).toInt = (F2 10).toInt := hO6
  unfold cb_X4_constTold_16
  have l_9 : (26 : Int32).toInt = 26 := rfl
  refine WP.bind (cs_X2_expect hfu (26 : Int32) F6 G6 hI6) ?_
  rintro r10 F10 G10 ⟨hI10, hB10, hT10, hO10, hp10⟩
  dsimp only
  have q_11 := hI10.r 10 rfl
  have e_12 : (F10 10).toInt = (F6 10).toInt := hO10
  unfold cb_X4_constTold_26
  have q_13 := i_rng x1
  have q_14 := i_rng x2
  have l_15 : (0 : Int32).toInt = 0 := rfl
  have q_16 := i_rng r6
  refine WP.bind (cs_X5_tell hfu x1 x2 (0 : Int32) r6 (0 : Int32) F10 G10 hI10) ?_
  rintro r17 F17 G17 ⟨hI17, hB17, hT17, hO17, hp17⟩
  dsimp only
  have q_18 := hI17.r 10 rfl
  have e_19 : (F17 10).toInt = (F10 10).toInt := hO17
  unfold cb_X4_constTold_38
  refine WP.ret ?_
  exact ⟨hI17, (KB.tr (KB.tr (KB.tr (KB.tr (KB.rf : KB F G F G) hB2) hB6) hB10) hB17), (KT.tr (KT.tr (KT.tr (KT.tr (rfl : KT F F) hT2) hT6) hT10) hT17), (KO.tr (KO.tr (KO.tr (KO.tr (rfl : KO F F) hO2) hO6) hO10) hO17), trivial⟩
theorem cs_X5_fault {fu : Nat} (hfu : 8589934592 ≤ fu) (F : PF) (G : PG) (hI : CI F G) : WP (cf_X5_fault fu F G) (fun r' F' G' => F = F' ∧ G = G' ∧ True) := by
  unfold cf_X5_fault
  unfold cb_X5_fault_0
  refine WP.ite (fun c_1 => ?_) (fun c_1 => ?_)
  · skip
    have q_2 := i_rng (F 43)
    have l_3 : (4000 : Int32).toInt = 4000 := rfl
    have e_4 := i_le.mp (show (F 43) ≤ (4000 : Int32) from c_1)
    unfold cb_X5_fault_14
    have q_5 := hI.r 44 rfl
    refine WP.ix (show vp_in (F 44) 10 from vp_in_iff.mpr ⟨by omega, by omega⟩) ?_
    unfold cb_X5_fault_30
    refine WP.ret ?_
    exact ⟨rfl, rfl, trivial⟩
  · skip
    have q_6 := i_rng (F 43)
    have l_7 : (4000 : Int32).toInt = 4000 := rfl
    have e_8 := mt i_le.mpr (show ¬ ((F 43) ≤ (4000 : Int32)) from c_1)
    unfold cb_X5_fault_10
    unfold cb_X5_fault_30
    refine WP.ret ?_
    exact ⟨rfl, rfl, trivial⟩
theorem cs_X8_firstWord {fu : Nat} (hfu : 8589934592 ≤ fu) (x1 : Int32) (F : PF) (G : PG) (hI : CI F G) : WP (cf_X8_firstWord fu x1 F G) (fun r' F' G' => F = F' ∧ G = G' ∧ True) := by
  unfold cf_X8_firstWord
  unfold cb_X8_firstWord_0
  refine WP.ite (fun c_1 => ?_) (fun c_1 => ?_)
  · skip
    have q_2 := i_rng x1
    have l_3 : (0 : Int32).toInt = 0 := rfl
    have e_4 := i_lt.mp (show x1 < (0 : Int32) from c_1)
    unfold cb_X8_firstWord_11
    unfold cb_X8_firstWord_21
    refine WP.ret ?_
    exact ⟨rfl, rfl, trivial⟩
  · skip
    have q_5 := i_rng x1
    have l_6 : (0 : Int32).toInt = 0 := rfl
    have e_7 := mt i_lt.mpr (show ¬ (x1 < (0 : Int32)) from c_1)
    unfold cb_X8_firstWord_4
    refine WP.ite (fun c_8 => ?_) (fun c_8 => ?_)
    · skip
      have l_9 : (2000 : Int32).toInt = 2000 := rfl
      have e_10 := i_lt.mp (show x1 < (2000 : Int32) from c_8)
      unfold cb_X8_firstWord_15
      refine WP.ix (show vp_in x1 2000 from vp_in_iff.mpr ⟨by omega, by omega⟩) ?_
      unfold cb_X8_firstWord_21
      refine WP.ret ?_
      exact ⟨rfl, rfl, trivial⟩
    · skip
      have l_11 : (2000 : Int32).toInt = 2000 := rfl
      have e_12 := mt i_lt.mpr (show ¬ (x1 < (2000 : Int32)) from c_8)
      unfold cb_X8_firstWord_11
      unfold cb_X8_firstWord_21
      refine WP.ret ?_
      exact ⟨rfl, rfl, trivial⟩
theorem cs_X8_tellByte {fu : Nat} (hfu : 8589934592 ≤ fu) (x1 : Int32) (x2 : Int32) (x3 : Int32) (F : PF) (G : PG) (hI : CI F G) : WP (cf_X8_tellByte fu x1 x2 x3 F G) (fun r' F' G' => CI F' G' ∧ KB F G F' G' ∧ KT F F' ∧ KO F F' ∧ True) := by
  unfold cf_X8_tellByte
  unfold cb_X8_tellByte_0
  have q_1 := i_rng x1
  have q_2 := i_rng x2
  have l_3 : (2 : Int32).toInt = 2 := rfl
  have e_5 : ((x2 >>> ((2 : Int32) &&& 31))).toInt = x2.toInt / 4 := i_shr 2 (by decide)
  obtain ⟨k_6, e_7, e_8⟩ := i_add x1 (x2 >>> ((2 : Int32) &&& 31))
  refine WP.bind (cs_X8_firstWord hfu (x1 + (x2 >>> ((2 : Int32) &&& 31))) F G hI) ?_
  rintro r9 _ _ ⟨rfl, rfl, hp9⟩
  dsimp only
  unfold cb_X8_tellByte_24
  have q_10 := i_rng r9
  have l_11 : (255 : Int32).toInt = 255 := rfl
  have l_12 : (3 : Int32).toInt = 3 := rfl
  have e_14 := i_and x2 (m := 3) 2 (by decide) (by decide)
  have l_15 : (8 : Int32).toInt = 8 := rfl
  have q_17 := i_rng ((x2 &&& (3 : Int32)) * (8 : Int32))
  have q_19 := i_rng ((255 : Int32) <<< (((x2 &&& (3 : Int32)) * (8 : Int32)) &&& 31))
  have l_20 : (-1 : Int32).toInt = -1 := rfl
  have q_22 := i_rng (((255 : Int32) <<< (((x2 &&& (3 : Int32)) * (8 : Int32)) &&& 31)) ^^^ (-1 : Int32))
  have q_24 := i_rng (r9 &&& (((255 : Int32) <<< (((x2 &&& (3 : Int32)) * (8 : Int32)) &&& 31)) ^^^ (-1 : Int32)))
  have q_25 := i_rng x3
  have e_27 := i_and x3 (m := 255) 8 (by decide) (by decide)
  have q_29 := i_rng ((x3 &&& (255 : Int32)) <<< (((x2 &&& (3 : Int32)) * (8 : Int32)) &&& 31))
  have q_31 := i_rng ((r9 &&& (((255 : Int32) <<< (((x2 &&& (3 : Int32)) * (8 : Int32)) &&& 31)) ^^^ (-1 : Int32))) ||| ((x3 &&& (255 : Int32)) <<< (((x2 &&& (3 : Int32)) * (8 : Int32)) &&& 31)))
  refine WP.bind (cs_X8_tellInt hfu (x1 + (x2 >>> ((2 : Int32) &&& 31))) ((r9 &&& (((255 : Int32) <<< (((x2 &&& (3 : Int32)) * (8 : Int32)) &&& 31)) ^^^ (-1 : Int32))) ||| ((x3 &&& (255 : Int32)) <<< (((x2 &&& (3 : Int32)) * (8 : Int32)) &&& 31))) F G hI) ?_
  rintro r32 F32 G32 ⟨hI32, hB32, hT32, hO32, hp32⟩
  dsimp only
  have q_33 := hI.r 10 rfl
  have q_34 := hI32.r 10 rfl
  have e_35 : (F32 10).toInt = (F 10).toInt := hO32
  unfold cb_X8_tellByte_45
  refine WP.ret ?_
  exact ⟨hI32, (KB.tr (KB.rf : KB F G F G) hB32), (KT.tr (rfl : KT F F) hT32), (KO.tr (rfl : KO F F) hO32), trivial⟩
theorem cz_X4_elements_19 {fu : Nat} (hfu : 8589934592 ≤ fu) {F0 : PF} {G0 : PG} : ∀ (n : Nat) (x1 : Int32) (x2 : Int32) (x3 : Int32) (x4 : Int32) (x5 : Int32) (F : PF) (G : PG) (hI : CI F G) (hB : KB F0 G0 F G) (hT : KT F0 F) (i_0 : (F 10).toInt = (F0 10).toInt + 1) (i_1 : 0 ≤ (F0 10).toInt) (hn : (2147483647 - x5.toInt).toNat < n), WP (cl_X4_elements_19 fu n x1 x2 x3 x4 x5 F G) (fun r' F' G' => CI F' G' ∧ KB F0 G0 F' G' ∧ KT F0 F' ∧ KO F0 F' ∧ True) := by
  intro n
  induction n with
  | zero =>
    intro x1 x2 x3 x4 x5 F G hI hB hT i_0 i_1 hn
    exact absurd hn (Nat.not_lt_zero _)
  | succ n ihn =>
    intro x1 x2 x3 x4 x5 F G hI hB hT i_0 i_1 hn
    show WP (cb_X4_elements_19 fu (cl_X4_elements_19 fu n)  x1 x2 x3 x4 x5 F G) _
    unfold cb_X4_elements_19
    refine WP.ite (fun c_1 => ?_) (fun c_1 => ?_)
    · skip
      have l_2 : (4001 : Int32).toInt = 4001 := rfl
      have q_3 := i_rng x5
      have e_4 := i_le.mp (show (4001 : Int32) ≤ x5 from c_1)
      unfold cb_X4_elements_140
      have l_5 : (24 : Int32).toInt = 24 := rfl
      have q_6 := hI.r 10 rfl
      refine WP.bind (cs_X2_closesWith hfu (24 : Int32) F G hI (show 1 ≤ (F 10).toInt by omega)) ?_
      rintro r7 F7 G7 ⟨hI7, hB7, hT7, hp7⟩
      dsimp only
      have q_8 := hI7.r 10 rfl
      have e_9 : (F7 10).toInt = (F 10).toInt - 1 := hp7
      unfold cb_X4_elements_149
      refine WP.ret ?_
      have q_10 := i_rng (F0 10)
      exact ⟨hI7, (KB.tr hB hB7), (KT.tr hT hT7), (show (F7 10).toInt = (F0 10).toInt by omega), trivial⟩
    · skip
      have l_11 : (4001 : Int32).toInt = 4001 := rfl
      have q_12 := i_rng x5
      have e_13 := mt i_le.mpr (show ¬ ((4001 : Int32) ≤ x5) from c_1)
      unfold cb_X4_elements_27
      refine WP.ite (fun c_14 => ?_) (fun c_14 => ?_)
      · skip
        have q_15 := i_rng x4
        have l_16 : (0 : Int32).toInt = 0 := rfl
        have e_17 := i_eq.mp (show x4 = (0 : Int32) from c_14)
        unfold cb_X4_elements_140
        have l_18 : (24 : Int32).toInt = 24 := rfl
        have q_19 := hI.r 10 rfl
        refine WP.bind (cs_X2_closesWith hfu (24 : Int32) F G hI (show 1 ≤ (F 10).toInt by omega)) ?_
        rintro r20 F20 G20 ⟨hI20, hB20, hT20, hp20⟩
        dsimp only
        have q_21 := hI20.r 10 rfl
        have e_22 : (F20 10).toInt = (F 10).toInt - 1 := hp20
        unfold cb_X4_elements_149
        refine WP.ret ?_
        have q_23 := i_rng (F0 10)
        exact ⟨hI20, (KB.tr hB hB20), (KT.tr hT hT20), (show (F20 10).toInt = (F0 10).toInt by omega), trivial⟩
      · skip
        have q_24 := i_rng x4
        have l_25 : (0 : Int32).toInt = 0 := rfl
        have e_26 := mt i_eq.mpr (show ¬ (x4 = (0 : Int32)) from c_14)
        unfold cb_X4_elements_32
        refine WP.bind (cs_X3_constant hfu F G hI) ?_
        rintro r27 F27 G27 ⟨hI27, hB27, hT27, hO27, hp27⟩
        dsimp only
        have q_28 := hI.r 10 rfl
        have q_29 := hI27.r 10 rfl
        have e_30 : (F27 10).toInt = (F 10).toInt := hO27
        unfold cb_X4_elements_48
        refine WP.ite (fun c_31 => ?_) (fun c_31 => ?_)
        · skip
          have q_32 := i_rng x3
          have e_33 := i_lt.mp (show x5 < x3 from c_31)
          unfold cb_X4_elements_70
          refine WP.ite (fun c_34 => ?_) (fun c_34 => ?_)
          · skip
            have q_35 := i_rng x1
            have l_36 : (2 : Int32).toInt = 2 := rfl
            have e_37 := i_eq.mp (show x1 = (2 : Int32) from c_34)
            unfold cb_X4_elements_75
            have q_38 := i_rng x2
            obtain ⟨k_39, e_40, e_41⟩ := i_add x2 x5
            have q_42 := i_rng r27
            refine WP.bind (cs_X8_tellInt hfu (x2 + x5) r27 F27 G27 hI27) ?_
            rintro r43 F43 G43 ⟨hI43, hB43, hT43, hO43, hp43⟩
            dsimp only
            have q_44 := hI43.r 10 rfl
            have e_45 : (F43 10).toInt = (F27 10).toInt := hO43
            unfold cb_X4_elements_88
            unfold cb_X4_elements_103
            refine WP.ite (fun c_46 => ?_) (fun c_46 => ?_)
            · skip
              have q_47 := i_rng (F43 11)
              have l_48 : (25 : Int32).toInt = 25 := rfl
              have e_49 := i_eq.mp (show (F43 11) = (25 : Int32) from c_46)
              unfold cb_X4_elements_115
              unfold cb_X4_elements_120
              refine WP.ite (fun c_50 => absurd c_50 (by decide)) (fun _ => ?_)
              unfold cb_X4_elements_127
              refine WP.bind (cs_X2_next hfu F43 G43 hI43) ?_
              rintro r51 F51 G51 ⟨hI51, hB51, hT51, hO51, hp51⟩
              dsimp only
              have q_52 := hI51.r 10 rfl
              have e_53 : (F51 10).toInt = (F43 10).toInt := hO51
              unfold cb_X4_elements_134
              have l_54 : (1 : Int32).toInt = 1 := rfl
              obtain ⟨k_55, e_56, e_57⟩ := i_add x5 (1 : Int32)
              exact ihn x1 x2 x3 (1 : Int32) (x5 + (1 : Int32)) F51 G51 hI51 (KB.tr (KB.tr (KB.tr hB hB27) hB43) hB51) (KT.tr (KT.tr (KT.tr hT hT27) hT43) hT51) (show (F51 10).toInt = (F0 10).toInt + 1 by omega) (show 0 ≤ (F0 10).toInt by omega) (by omega)
            · skip
              have q_58 := i_rng (F43 11)
              have l_59 : (25 : Int32).toInt = 25 := rfl
              have e_60 := mt i_eq.mpr (show ¬ ((F43 11) = (25 : Int32)) from c_46)
              unfold cb_X4_elements_119
              unfold cb_X4_elements_120
              refine WP.ite (fun _ => ?_) (fun c_61 => absurd (by decide) c_61)
              unfold cb_X4_elements_134
              have l_62 : (1 : Int32).toInt = 1 := rfl
              obtain ⟨k_63, e_64, e_65⟩ := i_add x5 (1 : Int32)
              exact ihn x1 x2 x3 (0 : Int32) (x5 + (1 : Int32)) F43 G43 hI43 (KB.tr (KB.tr hB hB27) hB43) (KT.tr (KT.tr hT hT27) hT43) (show (F43 10).toInt = (F0 10).toInt + 1 by omega) (show 0 ≤ (F0 10).toInt by omega) (by omega)
          · skip
            have q_66 := i_rng x1
            have l_67 : (2 : Int32).toInt = 2 := rfl
            have e_68 := mt i_eq.mpr (show ¬ (x1 = (2 : Int32)) from c_34)
            unfold cb_X4_elements_91
            have q_69 := i_rng x2
            have q_70 := i_rng r27
            refine WP.bind (cs_X8_tellByte hfu x2 x5 r27 F27 G27 hI27) ?_
            rintro r71 F71 G71 ⟨hI71, hB71, hT71, hO71, hp71⟩
            dsimp only
            have q_72 := hI71.r 10 rfl
            have e_73 : (F71 10).toInt = (F27 10).toInt := hO71
            unfold cb_X4_elements_103
            refine WP.ite (fun c_74 => ?_) (fun c_74 => ?_)
            · skip
              have q_75 := i_rng (F71 11)
              have l_76 : (25 : Int32).toInt = 25 := rfl
              have e_77 := i_eq.mp (show (F71 11) = (25 : Int32) from c_74)
              unfold cb_X4_elements_115
              unfold cb_X4_elements_120
              refine WP.ite (fun c_78 => absurd c_78 (by decide)) (fun _ => ?_)
              unfold cb_X4_elements_127
              refine WP.bind (cs_X2_next hfu F71 G71 hI71) ?_
              rintro r79 F79 G79 ⟨hI79, hB79, hT79, hO79, hp79⟩
              dsimp only
              have q_80 := hI79.r 10 rfl
              have e_81 : (F79 10).toInt = (F71 10).toInt := hO79
              unfold cb_X4_elements_134
              have l_82 : (1 : Int32).toInt = 1 := rfl
              obtain ⟨k_83, e_84, e_85⟩ := i_add x5 (1 : Int32)
              exact ihn x1 x2 x3 (1 : Int32) (x5 + (1 : Int32)) F79 G79 hI79 (KB.tr (KB.tr (KB.tr hB hB27) hB71) hB79) (KT.tr (KT.tr (KT.tr hT hT27) hT71) hT79) (show (F79 10).toInt = (F0 10).toInt + 1 by omega) (show 0 ≤ (F0 10).toInt by omega) (by omega)
            · skip
              have q_86 := i_rng (F71 11)
              have l_87 : (25 : Int32).toInt = 25 := rfl
              have e_88 := mt i_eq.mpr (show ¬ ((F71 11) = (25 : Int32)) from c_74)
              unfold cb_X4_elements_119
              unfold cb_X4_elements_120
              refine WP.ite (fun _ => ?_) (fun c_89 => absurd (by decide) c_89)
              unfold cb_X4_elements_134
              have l_90 : (1 : Int32).toInt = 1 := rfl
              obtain ⟨k_91, e_92, e_93⟩ := i_add x5 (1 : Int32)
              exact ihn x1 x2 x3 (0 : Int32) (x5 + (1 : Int32)) F71 G71 hI71 (KB.tr (KB.tr hB hB27) hB71) (KT.tr (KT.tr hT hT27) hT71) (show (F71 10).toInt = (F0 10).toInt + 1 by omega) (show 0 ≤ (F0 10).toInt by omega) (by omega)
        · skip
          have q_94 := i_rng x3
          have e_95 := mt i_lt.mpr (show ¬ (x5 < x3) from c_31)
          unfold cb_X4_elements_56
          have l_96 : (7 : Int32).toInt = 7 := rfl
          have q_97 := i_rng (F 13)
          refine WP.bind (cs_X5_note hfu (7 : Int32) (F 13) F27 G27 hI27) ?_
          rintro r98 F98 G98 ⟨hI98, hB98, hT98, hO98, hp98⟩
          dsimp only
          have q_99 := hI98.r 10 rfl
          have e_100 : (F98 10).toInt = (F27 10).toInt := hO98
          unfold cb_X4_elements_67
          unfold cb_X4_elements_103
          refine WP.ite (fun c_101 => ?_) (fun c_101 => ?_)
          · skip
            have q_102 := i_rng (F98 11)
            have l_103 : (25 : Int32).toInt = 25 := rfl
            have e_104 := i_eq.mp (show (F98 11) = (25 : Int32) from c_101)
            unfold cb_X4_elements_115
            unfold cb_X4_elements_120
            refine WP.ite (fun c_105 => absurd c_105 (by decide)) (fun _ => ?_)
            unfold cb_X4_elements_127
            refine WP.bind (cs_X2_next hfu F98 G98 hI98) ?_
            rintro r106 F106 G106 ⟨hI106, hB106, hT106, hO106, hp106⟩
            dsimp only
            have q_107 := hI106.r 10 rfl
            have e_108 : (F106 10).toInt = (F98 10).toInt := hO106
            unfold cb_X4_elements_134
            have q_109 := i_rng x1
            have q_110 := i_rng x2
            have l_111 : (1 : Int32).toInt = 1 := rfl
            obtain ⟨k_112, e_113, e_114⟩ := i_add x5 (1 : Int32)
            exact ihn x1 x2 x3 (1 : Int32) (x5 + (1 : Int32)) F106 G106 hI106 (KB.tr (KB.tr (KB.tr hB hB27) hB98) hB106) (KT.tr (KT.tr (KT.tr hT hT27) hT98) hT106) (show (F106 10).toInt = (F0 10).toInt + 1 by omega) (show 0 ≤ (F0 10).toInt by omega) (by omega)
          · skip
            have q_115 := i_rng (F98 11)
            have l_116 : (25 : Int32).toInt = 25 := rfl
            have e_117 := mt i_eq.mpr (show ¬ ((F98 11) = (25 : Int32)) from c_101)
            unfold cb_X4_elements_119
            unfold cb_X4_elements_120
            refine WP.ite (fun _ => ?_) (fun c_118 => absurd (by decide) c_118)
            unfold cb_X4_elements_134
            have q_119 := i_rng x1
            have q_120 := i_rng x2
            have l_121 : (1 : Int32).toInt = 1 := rfl
            obtain ⟨k_122, e_123, e_124⟩ := i_add x5 (1 : Int32)
            exact ihn x1 x2 x3 (0 : Int32) (x5 + (1 : Int32)) F98 G98 hI98 (KB.tr (KB.tr hB hB27) hB98) (KT.tr (KT.tr hT hT27) hT98) (show (F98 10).toInt = (F0 10).toInt + 1 by omega) (show 0 ≤ (F0 10).toInt by omega) (by omega)
theorem cs_X4_elements {fu : Nat} (hfu : 8589934592 ≤ fu) (x1 : Int32) (x2 : Int32) (x3 : Int32) (F : PF) (G : PG) (hI : CI F G) : WP (cf_X4_elements fu x1 x2 x3 F G) (fun r' F' G' => CI F' G' ∧ KB F G F' G' ∧ KT F F' ∧ KO F F' ∧ True) := by
  unfold cf_X4_elements
  unfold cb_X4_elements_0
  have l_1 : (23 : Int32).toInt = 23 := rfl
  refine WP.bind (cs_X2_opens hfu (23 : Int32) F G hI) ?_
  rintro r2 F2 G2 ⟨hI2, hB2, hT2, hp2⟩
  dsimp only
  have q_3 := b_rng (hp2.1)
  have q_4 := hI.r 10 rfl
  have q_5 := hI2.r 10 rfl
  have e_6 : r2.toInt = 1 → (F2 10).toInt = (F 10).toInt + 1 ∧ (F 10).toInt < 40 := hp2.2.1
  have e_7 : r2.toInt = 0 → (F2 10).toInt = (F 10).toInt := hp2.2.2
  unfold cb_X4_elements_9
  refine WP.ite (fun c_8 => ?_) (fun c_8 => ?_)
  · skip
    have l_9 : (0 : Int32).toInt = 0 := rfl
    have e_10 := i_eq.mp (show r2 = (0 : Int32) from c_8)
    unfold cb_X4_elements_12
    refine WP.ret ?_
    exact ⟨hI2, (KB.tr (KB.rf : KB F G F G) hB2), (KT.tr (rfl : KT F F) hT2), (show (F2 10).toInt = (F 10).toInt by omega), trivial⟩
  · skip
    have l_11 : (0 : Int32).toInt = 0 := rfl
    have e_12 := mt i_eq.mpr (show ¬ (r2 = (0 : Int32)) from c_8)
    unfold cb_X4_elements_13
    have q_13 := i_rng x1
    have q_14 := i_rng x2
    have q_15 := i_rng x3
    have l_16 : (1 : Int32).toInt = 1 := rfl
    exact cz_X4_elements_19 (F0 := F) (G0 := G) hfu fu x1 x2 x3 (1 : Int32) (0 : Int32) F2 G2 hI2 (KB.tr (KB.rf : KB F G F G) hB2) (KT.tr (rfl : KT F F) hT2) (show (F2 10).toInt = (F 10).toInt + 1 by omega) (show 0 ≤ (F 10).toInt by omega) (by omega)
theorem cs_X4_globalArray {fu : Nat} (hfu : 8589934592 ≤ fu) (x1 : Int32) (x2 : Int32) (x3 : Int32) (F : PF) (G : PG) (hI : CI F G) : WP (cf_X4_globalArray fu x1 x2 x3 F G) (fun r' F' G' => CI F' G' ∧ KB F G F' G' ∧ KT F F' ∧ KO F F' ∧ True) := by
  unfold cf_X4_globalArray
  unfold cb_X4_globalArray_0
  refine WP.bind (cs_X3_arraySize hfu F G hI) ?_
  rintro r1 F1 G1 ⟨hI1, hB1, hT1, hO1, hp1⟩
  dsimp only
  have q_2 := hI.r 10 rfl
  have q_3 := hI1.r 10 rfl
  have e_4 : (F1 10).toInt = (F 10).toInt := hO1
  unfold cb_X4_globalArray_7
  have q_5 := i_rng x3
  have q_6 := i_rng r1
  refine WP.bind (cs_X4_wordsOf hfu x3 r1 F1 G1 hI1) ?_
  rintro r7 _ _ ⟨rfl, rfl, hp7⟩
  dsimp only
  unfold cb_X4_globalArray_19
  have q_8 := i_rng r7
  have q_9 := i_rng x2
  refine WP.bind (cs_X5_globalRoom hfu r7 x2 F1 G1 hI1) ?_
  rintro r10 F10 G10 ⟨hI10, hB10, hT10, hO10, hp10⟩
  dsimp only
  have q_11 := hI10.r 10 rfl
  have e_12 : (F10 10).toInt = (F1 10).toInt := hO10
  unfold cb_X4_globalArray_23
  refine WP.ite (fun c_13 => ?_) (fun c_13 => ?_)
  · skip
    have q_14 := i_rng (F10 11)
    have l_15 : (29 : Int32).toInt = 29 := rfl
    have e_16 := i_eq.mp (show (F10 11) = (29 : Int32) from c_13)
    unfold cb_X4_globalArray_37
    refine WP.bind (cs_X2_next hfu F10 G10 hI10) ?_
    rintro r17 F17 G17 ⟨hI17, hB17, hT17, hO17, hp17⟩
    dsimp only
    have q_18 := hI17.r 10 rfl
    have e_19 : (F17 10).toInt = (F10 10).toInt := hO17
    unfold cb_X4_globalArray_44
    have q_20 := i_rng r10
    refine WP.bind (cs_X4_elements hfu x3 r10 r1 F17 G17 hI17) ?_
    rintro r21 F21 G21 ⟨hI21, hB21, hT21, hO21, hp21⟩
    dsimp only
    have q_22 := hI21.r 10 rfl
    have e_23 : (F21 10).toInt = (F17 10).toInt := hO21
    unfold cb_X4_globalArray_53
    have l_24 : (26 : Int32).toInt = 26 := rfl
    refine WP.bind (cs_X2_expect hfu (26 : Int32) F21 G21 hI21) ?_
    rintro r25 F25 G25 ⟨hI25, hB25, hT25, hO25, hp25⟩
    dsimp only
    have q_26 := hI25.r 10 rfl
    have e_27 : (F25 10).toInt = (F21 10).toInt := hO25
    unfold cb_X4_globalArray_62
    have q_28 := i_rng x1
    refine WP.bind (cs_X5_tell hfu x1 x2 x3 r10 r1 F25 G25 hI25) ?_
    rintro r29 F29 G29 ⟨hI29, hB29, hT29, hO29, hp29⟩
    dsimp only
    have q_30 := hI29.r 10 rfl
    have e_31 : (F29 10).toInt = (F25 10).toInt := hO29
    unfold cb_X4_globalArray_76
    refine WP.ret ?_
    exact ⟨hI29, (KB.tr (KB.tr (KB.tr (KB.tr (KB.tr (KB.tr (KB.rf : KB F G F G) hB1) hB10) hB17) hB21) hB25) hB29), (KT.tr (KT.tr (KT.tr (KT.tr (KT.tr (KT.tr (rfl : KT F F) hT1) hT10) hT17) hT21) hT25) hT29), (KO.tr (KO.tr (KO.tr (KO.tr (KO.tr (KO.tr (rfl : KO F F) hO1) hO10) hO17) hO21) hO25) hO29), trivial⟩
  · skip
    have q_32 := i_rng (F10 11)
    have l_33 : (29 : Int32).toInt = 29 := rfl
    have e_34 := mt i_eq.mpr (show ¬ ((F10 11) = (29 : Int32)) from c_13)
    unfold cb_X4_globalArray_53
    have l_35 : (26 : Int32).toInt = 26 := rfl
    refine WP.bind (cs_X2_expect hfu (26 : Int32) F10 G10 hI10) ?_
    rintro r36 F36 G36 ⟨hI36, hB36, hT36, hO36, hp36⟩
    dsimp only
    have q_37 := hI36.r 10 rfl
    have e_38 : (F36 10).toInt = (F10 10).toInt := hO36
    unfold cb_X4_globalArray_62
    have q_39 := i_rng x1
    have q_40 := i_rng r10
    refine WP.bind (cs_X5_tell hfu x1 x2 x3 r10 r1 F36 G36 hI36) ?_
    rintro r41 F41 G41 ⟨hI41, hB41, hT41, hO41, hp41⟩
    dsimp only
    have q_42 := hI41.r 10 rfl
    have e_43 : (F41 10).toInt = (F36 10).toInt := hO41
    unfold cb_X4_globalArray_76
    refine WP.ret ?_
    exact ⟨hI41, (KB.tr (KB.tr (KB.tr (KB.tr (KB.rf : KB F G F G) hB1) hB10) hB36) hB41), (KT.tr (KT.tr (KT.tr (KT.tr (rfl : KT F F) hT1) hT10) hT36) hT41), (KO.tr (KO.tr (KO.tr (KO.tr (rfl : KO F F) hO1) hO10) hO36) hO41), trivial⟩
theorem cz_X4_walk_7 {fu : Nat} (hfu : 8589934592 ≤ fu) {F0 : PF} {G0 : PG} : ∀ (n : Nat) (x1 : Int32) (x2 : Int32) (F : PF) (G : PG) (hI : CI F G) (hB : KB F0 G0 F G) (hT : KT F0 F) (hn : (2147483647 - x2.toInt).toNat < n), WP (cl_X4_walk_7 fu n x1 x2 F G) (fun r' F' G' => CI F' G' ∧ KB F0 G0 F' G' ∧ KT F0 F' ∧ True) := by
  intro n
  induction n with
  | zero =>
    intro x1 x2 F G hI hB hT hn
    exact absurd hn (Nat.not_lt_zero _)
  | succ n ihn =>
    intro x1 x2 F G hI hB hT hn
    show WP (cb_X4_walk_7 fu (cl_X4_walk_7 fu n)  x1 x2 F G) _
    unfold cb_X4_walk_7
    refine WP.ite (fun c_1 => ?_) (fun c_1 => ?_)
    · skip
      have l_2 : (4001 : Int32).toInt = 4001 := rfl
      have q_3 := i_rng x2
      have e_4 := i_le.mp (show (4001 : Int32) ≤ x2 from c_1)
      unfold cb_X4_walk_251
      refine WP.ite (fun c_5 => ?_) (fun c_5 => ?_)
      · skip
        have q_6 := i_rng (F 76)
        have l_7 : (-1 : Int32).toInt = -1 := rfl
        have e_8 := i_eq.mp (show (F 76) = (-1 : Int32) from c_5)
        unfold cb_X4_walk_262
        have l_9 : (9 : Int32).toInt = 9 := rfl
        have q_10 := i_rng (F 13)
        refine WP.bind (cs_X5_note hfu (9 : Int32) (F 13) F G hI) ?_
        rintro r11 F11 G11 ⟨hI11, hB11, hT11, hO11, hp11⟩
        dsimp only
        unfold cb_X4_walk_278
        refine WP.ite (fun c_12 => ?_) (fun c_12 => ?_)
        · skip
          have q_13 := i_rng x1
          have l_14 : (0 : Int32).toInt = 0 := rfl
          have e_15 := i_eq.mp (show x1 = (0 : Int32) from c_12)
          unfold cb_X4_walk_292
          unfold cb_X4_walk_299
          refine WP.ret ?_
          exact ⟨hI11, (KB.tr hB hB11), (KT.tr hT hT11), trivial⟩
        · skip
          have q_16 := i_rng x1
          have l_17 : (0 : Int32).toInt = 0 := rfl
          have e_18 := mt i_eq.mpr (show ¬ (x1 = (0 : Int32)) from c_12)
          unfold cb_X4_walk_282
          refine WP.bind (cs_X5_fault hfu F11 G11 hI11) ?_
          rintro r19 _ _ ⟨rfl, rfl, hp19⟩
          dsimp only
          unfold cb_X4_walk_289
          unfold cb_X4_walk_299
          refine WP.ret ?_
          exact ⟨hI11, (KB.tr hB hB11), (KT.tr hT hT11), trivial⟩
      · skip
        have q_20 := i_rng (F 76)
        have l_21 : (-1 : Int32).toInt = -1 := rfl
        have e_22 := mt i_eq.mpr (show ¬ ((F 76) = (-1 : Int32)) from c_5)
        unfold cb_X4_walk_278
        refine WP.ite (fun c_23 => ?_) (fun c_23 => ?_)
        · skip
          have q_24 := i_rng x1
          have l_25 : (0 : Int32).toInt = 0 := rfl
          have e_26 := i_eq.mp (show x1 = (0 : Int32) from c_23)
          unfold cb_X4_walk_292
          unfold cb_X4_walk_299
          refine WP.ret ?_
          exact ⟨hI, hB, hT, trivial⟩
        · skip
          have q_27 := i_rng x1
          have l_28 : (0 : Int32).toInt = 0 := rfl
          have e_29 := mt i_eq.mpr (show ¬ (x1 = (0 : Int32)) from c_23)
          unfold cb_X4_walk_282
          refine WP.bind (cs_X5_fault hfu F G hI) ?_
          rintro r30 _ _ ⟨rfl, rfl, hp30⟩
          dsimp only
          unfold cb_X4_walk_289
          unfold cb_X4_walk_299
          refine WP.ret ?_
          exact ⟨hI, hB, hT, trivial⟩
    · skip
      have l_31 : (4001 : Int32).toInt = 4001 := rfl
      have q_32 := i_rng x2
      have e_33 := mt i_le.mpr (show ¬ ((4001 : Int32) ≤ x2) from c_1)
      unfold cb_X4_walk_14
      refine WP.ite (fun c_34 => ?_) (fun c_34 => ?_)
      · skip
        have q_35 := i_rng (F 11)
        have l_36 : (0 : Int32).toInt = 0 := rfl
        have e_37 := i_eq.mp (show (F 11) = (0 : Int32) from c_34)
        unfold cb_X4_walk_251
        refine WP.ite (fun c_38 => ?_) (fun c_38 => ?_)
        · skip
          have q_39 := i_rng (F 76)
          have l_40 : (-1 : Int32).toInt = -1 := rfl
          have e_41 := i_eq.mp (show (F 76) = (-1 : Int32) from c_38)
          unfold cb_X4_walk_262
          have l_42 : (9 : Int32).toInt = 9 := rfl
          have q_43 := i_rng (F 13)
          refine WP.bind (cs_X5_note hfu (9 : Int32) (F 13) F G hI) ?_
          rintro r44 F44 G44 ⟨hI44, hB44, hT44, hO44, hp44⟩
          dsimp only
          unfold cb_X4_walk_278
          refine WP.ite (fun c_45 => ?_) (fun c_45 => ?_)
          · skip
            have q_46 := i_rng x1
            have e_47 := i_eq.mp (show x1 = (0 : Int32) from c_45)
            unfold cb_X4_walk_292
            unfold cb_X4_walk_299
            refine WP.ret ?_
            exact ⟨hI44, (KB.tr hB hB44), (KT.tr hT hT44), trivial⟩
          · skip
            have q_48 := i_rng x1
            have e_49 := mt i_eq.mpr (show ¬ (x1 = (0 : Int32)) from c_45)
            unfold cb_X4_walk_282
            refine WP.bind (cs_X5_fault hfu F44 G44 hI44) ?_
            rintro r50 _ _ ⟨rfl, rfl, hp50⟩
            dsimp only
            unfold cb_X4_walk_289
            unfold cb_X4_walk_299
            refine WP.ret ?_
            exact ⟨hI44, (KB.tr hB hB44), (KT.tr hT hT44), trivial⟩
        · skip
          have q_51 := i_rng (F 76)
          have l_52 : (-1 : Int32).toInt = -1 := rfl
          have e_53 := mt i_eq.mpr (show ¬ ((F 76) = (-1 : Int32)) from c_38)
          unfold cb_X4_walk_278
          refine WP.ite (fun c_54 => ?_) (fun c_54 => ?_)
          · skip
            have q_55 := i_rng x1
            have e_56 := i_eq.mp (show x1 = (0 : Int32) from c_54)
            unfold cb_X4_walk_292
            unfold cb_X4_walk_299
            refine WP.ret ?_
            exact ⟨hI, hB, hT, trivial⟩
          · skip
            have q_57 := i_rng x1
            have e_58 := mt i_eq.mpr (show ¬ (x1 = (0 : Int32)) from c_54)
            unfold cb_X4_walk_282
            refine WP.bind (cs_X5_fault hfu F G hI) ?_
            rintro r59 _ _ ⟨rfl, rfl, hp59⟩
            dsimp only
            unfold cb_X4_walk_289
            unfold cb_X4_walk_299
            refine WP.ret ?_
            exact ⟨hI, hB, hT, trivial⟩
      · skip
        have q_60 := i_rng (F 11)
        have l_61 : (0 : Int32).toInt = 0 := rfl
        have e_62 := mt i_eq.mpr (show ¬ ((F 11) = (0 : Int32)) from c_34)
        unfold cb_X4_walk_24
        refine WP.ite (fun c_63 => ?_) (fun c_63 => ?_)
        · skip
          have l_64 : (-2 : Int32).toInt = -2 := rfl
          have e_65 := i_eq.mp (show (F 11) = (-2 : Int32) from c_63)
          unfold cb_X4_walk_251
          refine WP.ite (fun c_66 => ?_) (fun c_66 => ?_)
          · skip
            have q_67 := i_rng (F 76)
            have l_68 : (-1 : Int32).toInt = -1 := rfl
            have e_69 := i_eq.mp (show (F 76) = (-1 : Int32) from c_66)
            unfold cb_X4_walk_262
            have l_70 : (9 : Int32).toInt = 9 := rfl
            have q_71 := i_rng (F 13)
            refine WP.bind (cs_X5_note hfu (9 : Int32) (F 13) F G hI) ?_
            rintro r72 F72 G72 ⟨hI72, hB72, hT72, hO72, hp72⟩
            dsimp only
            unfold cb_X4_walk_278
            refine WP.ite (fun c_73 => ?_) (fun c_73 => ?_)
            · skip
              have q_74 := i_rng x1
              have e_75 := i_eq.mp (show x1 = (0 : Int32) from c_73)
              unfold cb_X4_walk_292
              unfold cb_X4_walk_299
              refine WP.ret ?_
              exact ⟨hI72, (KB.tr hB hB72), (KT.tr hT hT72), trivial⟩
            · skip
              have q_76 := i_rng x1
              have e_77 := mt i_eq.mpr (show ¬ (x1 = (0 : Int32)) from c_73)
              unfold cb_X4_walk_282
              refine WP.bind (cs_X5_fault hfu F72 G72 hI72) ?_
              rintro r78 _ _ ⟨rfl, rfl, hp78⟩
              dsimp only
              unfold cb_X4_walk_289
              unfold cb_X4_walk_299
              refine WP.ret ?_
              exact ⟨hI72, (KB.tr hB hB72), (KT.tr hT hT72), trivial⟩
          · skip
            have q_79 := i_rng (F 76)
            have l_80 : (-1 : Int32).toInt = -1 := rfl
            have e_81 := mt i_eq.mpr (show ¬ ((F 76) = (-1 : Int32)) from c_66)
            unfold cb_X4_walk_278
            refine WP.ite (fun c_82 => ?_) (fun c_82 => ?_)
            · skip
              have q_83 := i_rng x1
              have e_84 := i_eq.mp (show x1 = (0 : Int32) from c_82)
              unfold cb_X4_walk_292
              unfold cb_X4_walk_299
              refine WP.ret ?_
              exact ⟨hI, hB, hT, trivial⟩
            · skip
              have q_85 := i_rng x1
              have e_86 := mt i_eq.mpr (show ¬ (x1 = (0 : Int32)) from c_82)
              unfold cb_X4_walk_282
              refine WP.bind (cs_X5_fault hfu F G hI) ?_
              rintro r87 _ _ ⟨rfl, rfl, hp87⟩
              dsimp only
              unfold cb_X4_walk_289
              unfold cb_X4_walk_299
              refine WP.ret ?_
              exact ⟨hI, hB, hT, trivial⟩
        · skip
          have l_88 : (-2 : Int32).toInt = -2 := rfl
          have e_89 := mt i_eq.mpr (show ¬ ((F 11) = (-2 : Int32)) from c_63)
          unfold cb_X4_walk_36
          refine WP.ite (fun c_90 => ?_) (fun c_90 => ?_)
          · skip
            have l_91 : (7 : Int32).toInt = 7 := rfl
            have e_92 := i_eq.mp (show (F 11) = (7 : Int32) from c_90)
            unfold cb_X4_walk_48
            unfold cb_X4_walk_53
            refine WP.ite (fun c_93 => absurd c_93 (by decide)) (fun _ => ?_)
            unfold cb_X4_walk_58
            refine WP.bind (cs_X2_next hfu F G hI) ?_
            rintro r94 F94 G94 ⟨hI94, hB94, hT94, hO94, hp94⟩
            dsimp only
            unfold cb_X4_walk_65
            have l_95 : (1 : Int32).toInt = 1 := rfl
            refine WP.bind (cs_X4_kindWord hfu (1 : Int32) F94 G94 hI94 (by decide)) ?_
            rintro r96 F96 G96 ⟨hI96, hB96, hT96, hO96, hp96⟩
            dsimp only
            unfold cb_X4_walk_70
            have l_97 : (2 : Int32).toInt = 2 := rfl
            refine WP.bind (cs_X2_expect hfu (2 : Int32) F96 G96 hI96) ?_
            rintro r98 F98 G98 ⟨hI98, hB98, hT98, hO98, hp98⟩
            dsimp only
            unfold cb_X4_walk_98
            refine WP.ite (fun c_99 => absurd c_99 (by decide)) (fun _ => ?_)
            unfold cb_X4_walk_102
            have q_100 := i_rng (F96 12)
            have q_101 := i_rng (F96 13)
            refine WP.bind (cs_X4_constTold hfu (F96 12) (F96 13) F98 G98 hI98) ?_
            rintro r102 F102 G102 ⟨hI102, hB102, hT102, hO102, hp102⟩
            dsimp only
            unfold cb_X4_walk_110
            unfold cb_X4_walk_245
            have q_103 := i_rng x1
            obtain ⟨k_104, e_105, e_106⟩ := i_add x2 (1 : Int32)
            exact ihn x1 (x2 + (1 : Int32)) F102 G102 hI102 (KB.tr (KB.tr (KB.tr (KB.tr hB hB94) hB96) hB98) hB102) (KT.tr (KT.tr (KT.tr (KT.tr hT hT94) hT96) hT98) hT102) (by omega)
          · skip
            have l_107 : (7 : Int32).toInt = 7 := rfl
            have e_108 := mt i_eq.mpr (show ¬ ((F 11) = (7 : Int32)) from c_90)
            unfold cb_X4_walk_52
            unfold cb_X4_walk_53
            refine WP.ite (fun _ => ?_) (fun c_109 => absurd (by decide) c_109)
            unfold cb_X4_walk_65
            refine WP.bind (cs_X4_kindWord hfu (0 : Int32) F G hI (by decide)) ?_
            rintro r110 F110 G110 ⟨hI110, hB110, hT110, hO110, hp110⟩
            dsimp only
            unfold cb_X4_walk_70
            have l_111 : (2 : Int32).toInt = 2 := rfl
            refine WP.bind (cs_X2_expect hfu (2 : Int32) F110 G110 hI110) ?_
            rintro r112 F112 G112 ⟨hI112, hB112, hT112, hO112, hp112⟩
            dsimp only
            unfold cb_X4_walk_98
            refine WP.ite (fun _ => ?_) (fun c_113 => absurd (by decide) c_113)
            unfold cb_X4_walk_113
            refine WP.ite (fun c_114 => ?_) (fun c_114 => ?_)
            · skip
              have q_115 := i_rng (F112 11)
              have l_116 : (19 : Int32).toInt = 19 := rfl
              have e_117 := i_eq.mp (show (F112 11) = (19 : Int32) from c_114)
              unfold cb_X4_walk_125
              refine WP.ite (fun c_118 => ?_) (fun c_118 => ?_)
              · skip
                have q_119 := i_rng r110
                have l_120 : (5 : Int32).toInt = 5 := rfl
                have e_121 := i_eq.mp (show r110 = (5 : Int32) from c_118)
                unfold cb_X4_walk_179
                refine WP.ite (fun c_122 => ?_) (fun c_122 => ?_)
                · skip
                  have l_123 : (21 : Int32).toInt = 21 := rfl
                  have e_124 := i_eq.mp (show (F112 11) = (21 : Int32) from c_122)
                  unfold cb_X4_walk_191
                  refine WP.ite (fun c_125 => ?_) (fun c_125 => ?_)
                  · skip
                    have l_126 : (6 : Int32).toInt = 6 := rfl
                    have e_127 := i_eq.mp (show r110 = (6 : Int32) from c_125)
                    unfold cb_X4_walk_220
                    refine WP.ite (fun c_128 => ?_) (fun c_128 => ?_)
                    · skip
                      have l_129 : (4 : Int32).toInt = 4 := rfl
                      have e_130 := i_eq.mp (show r110 = (4 : Int32) from c_128)
                      unfold cb_X4_walk_226
                      have q_131 := i_rng (F110 12)
                      have q_132 := i_rng (F110 13)
                      refine WP.bind (cs_X4_globalInt hfu (F110 12) (F110 13) F112 G112 hI112) ?_
                      rintro r133 F133 G133 ⟨hI133, hB133, hT133, hO133, hp133⟩
                      dsimp only
                      unfold cb_X4_walk_234
                      unfold cb_X4_walk_245
                      have q_134 := i_rng x1
                      have l_135 : (1 : Int32).toInt = 1 := rfl
                      obtain ⟨k_136, e_137, e_138⟩ := i_add x2 (1 : Int32)
                      exact ihn x1 (x2 + (1 : Int32)) F133 G133 hI133 (KB.tr (KB.tr (KB.tr hB hB110) hB112) hB133) (KT.tr (KT.tr (KT.tr hT hT110) hT112) hT133) (by omega)
                    · skip
                      have l_139 : (4 : Int32).toInt = 4 := rfl
                      have e_140 := mt i_eq.mpr (show ¬ (r110 = (4 : Int32)) from c_128)
                      unfold cb_X4_walk_237
                      refine WP.bind (cs_X2_fail hfu (2 : Int32) F112 G112 hI112) ?_
                      rintro r141 F141 G141 ⟨hI141, hB141, hT141, hO141, hp141⟩
                      dsimp only
                      unfold cb_X4_walk_245
                      have q_142 := i_rng x1
                      have l_143 : (1 : Int32).toInt = 1 := rfl
                      obtain ⟨k_144, e_145, e_146⟩ := i_add x2 (1 : Int32)
                      exact ihn x1 (x2 + (1 : Int32)) F141 G141 hI141 (KB.tr (KB.tr (KB.tr hB hB110) hB112) hB141) (KT.tr (KT.tr (KT.tr hT hT110) hT112) hT141) (by omega)
                  · skip
                    have l_147 : (6 : Int32).toInt = 6 := rfl
                    have e_148 := mt i_eq.mpr (show ¬ (r110 = (6 : Int32)) from c_125)
                    unfold cb_X4_walk_198
                    refine WP.ite (fun c_149 => ?_) (fun c_149 => ?_)
                    · skip
                      have l_150 : (4 : Int32).toInt = 4 := rfl
                      have e_151 := i_eq.mp (show r110 = (4 : Int32) from c_149)
                      unfold cb_X4_walk_209
                      unfold cb_X4_walk_214
                      have q_152 := i_rng (F110 12)
                      have q_153 := i_rng (F110 13)
                      refine WP.bind (cs_X4_globalArray hfu (F110 12) (F110 13) (2 : Int32) F112 G112 hI112) ?_
                      rintro r154 F154 G154 ⟨hI154, hB154, hT154, hO154, hp154⟩
                      dsimp only
                      unfold cb_X4_walk_217
                      unfold cb_X4_walk_245
                      have q_155 := i_rng x1
                      have l_156 : (1 : Int32).toInt = 1 := rfl
                      obtain ⟨k_157, e_158, e_159⟩ := i_add x2 (1 : Int32)
                      exact ihn x1 (x2 + (1 : Int32)) F154 G154 hI154 (KB.tr (KB.tr (KB.tr hB hB110) hB112) hB154) (KT.tr (KT.tr (KT.tr hT hT110) hT112) hT154) (by omega)
                    · skip
                      have l_160 : (4 : Int32).toInt = 4 := rfl
                      have e_161 := mt i_eq.mpr (show ¬ (r110 = (4 : Int32)) from c_149)
                      unfold cb_X4_walk_213
                      unfold cb_X4_walk_214
                      have q_162 := i_rng (F110 12)
                      have q_163 := i_rng (F110 13)
                      have l_164 : (3 : Int32).toInt = 3 := rfl
                      refine WP.bind (cs_X4_globalArray hfu (F110 12) (F110 13) (3 : Int32) F112 G112 hI112) ?_
                      rintro r165 F165 G165 ⟨hI165, hB165, hT165, hO165, hp165⟩
                      dsimp only
                      unfold cb_X4_walk_217
                      unfold cb_X4_walk_245
                      have q_166 := i_rng x1
                      have l_167 : (1 : Int32).toInt = 1 := rfl
                      obtain ⟨k_168, e_169, e_170⟩ := i_add x2 (1 : Int32)
                      exact ihn x1 (x2 + (1 : Int32)) F165 G165 hI165 (KB.tr (KB.tr (KB.tr hB hB110) hB112) hB165) (KT.tr (KT.tr (KT.tr hT hT110) hT112) hT165) (by omega)
                · skip
                  have l_171 : (21 : Int32).toInt = 21 := rfl
                  have e_172 := mt i_eq.mpr (show ¬ ((F112 11) = (21 : Int32)) from c_122)
                  unfold cb_X4_walk_220
                  refine WP.ite (fun c_173 => ?_) (fun c_173 => ?_)
                  · skip
                    have l_174 : (4 : Int32).toInt = 4 := rfl
                    have e_175 := i_eq.mp (show r110 = (4 : Int32) from c_173)
                    unfold cb_X4_walk_226
                    have q_176 := i_rng (F110 12)
                    have q_177 := i_rng (F110 13)
                    refine WP.bind (cs_X4_globalInt hfu (F110 12) (F110 13) F112 G112 hI112) ?_
                    rintro r178 F178 G178 ⟨hI178, hB178, hT178, hO178, hp178⟩
                    dsimp only
                    unfold cb_X4_walk_234
                    unfold cb_X4_walk_245
                    have q_179 := i_rng x1
                    have l_180 : (1 : Int32).toInt = 1 := rfl
                    obtain ⟨k_181, e_182, e_183⟩ := i_add x2 (1 : Int32)
                    exact ihn x1 (x2 + (1 : Int32)) F178 G178 hI178 (KB.tr (KB.tr (KB.tr hB hB110) hB112) hB178) (KT.tr (KT.tr (KT.tr hT hT110) hT112) hT178) (by omega)
                  · skip
                    have l_184 : (4 : Int32).toInt = 4 := rfl
                    have e_185 := mt i_eq.mpr (show ¬ (r110 = (4 : Int32)) from c_173)
                    unfold cb_X4_walk_237
                    refine WP.bind (cs_X2_fail hfu (2 : Int32) F112 G112 hI112) ?_
                    rintro r186 F186 G186 ⟨hI186, hB186, hT186, hO186, hp186⟩
                    dsimp only
                    unfold cb_X4_walk_245
                    have q_187 := i_rng x1
                    have l_188 : (1 : Int32).toInt = 1 := rfl
                    obtain ⟨k_189, e_190, e_191⟩ := i_add x2 (1 : Int32)
                    exact ihn x1 (x2 + (1 : Int32)) F186 G186 hI186 (KB.tr (KB.tr (KB.tr hB hB110) hB112) hB186) (KT.tr (KT.tr (KT.tr hT hT110) hT112) hT186) (by omega)
              · skip
                have q_192 := i_rng r110
                have l_193 : (5 : Int32).toInt = 5 := rfl
                have e_194 := mt i_eq.mpr (show ¬ (r110 = (5 : Int32)) from c_118)
                unfold cb_X4_walk_131
                refine WP.ite (fun c_195 => ?_) (fun c_195 => ?_)
                · skip
                  have l_196 : (4 : Int32).toInt = 4 := rfl
                  have e_197 := i_eq.mp (show r110 = (4 : Int32) from c_195)
                  unfold cb_X4_walk_142
                  unfold cb_X4_walk_147
                  have q_198 := i_rng (F110 12)
                  have q_199 := i_rng (F110 13)
                  have l_200 : (1 : Int32).toInt = 1 := rfl
                  refine WP.bind (cs_X4_startFunction hfu (F110 12) (F110 13) (1 : Int32) F112 G112 hI112 (by decide)) ?_
                  rintro r201 F201 G201 ⟨hI201, hB201, hT201, hO201, hp201⟩
                  dsimp only
                  unfold cb_X4_walk_150
                  refine WP.ite (fun c_202 => ?_) (fun c_202 => ?_)
                  · skip
                    have q_203 := i_rng (F201 27)
                    have e_204 := i_eq.mp (show (F110 12) = (F201 27) from c_202)
                    unfold cb_X4_walk_160
                    unfold cb_X4_walk_165
                    refine WP.bind (cs_X4_formals hfu (1 : Int32) F201 G201 hI201 (by decide)) ?_
                    rintro r205 F205 G205 ⟨hI205, hB205, hT205, hO205, hp205⟩
                    dsimp only
                    unfold cb_X4_walk_168
                    refine WP.bind (cs_X4_block hfu F205 G205 hI205) ?_
                    rintro r206 F206 G206 ⟨hI206, hB206, hT206, hO206, hp206⟩
                    dsimp only
                    unfold cb_X4_walk_172
                    refine WP.bind (cs_X4_endFunction hfu F206 G206 hI206) ?_
                    rintro r207 F207 G207 ⟨hI207, hB207, hT207, hO207, hp207⟩
                    dsimp only
                    unfold cb_X4_walk_176
                    unfold cb_X4_walk_245
                    have q_208 := i_rng x1
                    obtain ⟨k_209, e_210, e_211⟩ := i_add x2 (1 : Int32)
                    exact ihn x1 (x2 + (1 : Int32)) F207 G207 hI207 (KB.tr (KB.tr (KB.tr (KB.tr (KB.tr (KB.tr hB hB110) hB112) hB201) hB205) hB206) hB207) (KT.tr (KT.tr (KT.tr (KT.tr (KT.tr (KT.tr hT hT110) hT112) hT201) hT205) hT206) hT207) (by omega)
                  · skip
                    have q_212 := i_rng (F201 27)
                    have e_213 := mt i_eq.mpr (show ¬ ((F110 12) = (F201 27)) from c_202)
                    unfold cb_X4_walk_164
                    unfold cb_X4_walk_165
                    refine WP.bind (cs_X4_formals hfu (0 : Int32) F201 G201 hI201 (by decide)) ?_
                    rintro r214 F214 G214 ⟨hI214, hB214, hT214, hO214, hp214⟩
                    dsimp only
                    unfold cb_X4_walk_168
                    refine WP.bind (cs_X4_block hfu F214 G214 hI214) ?_
                    rintro r215 F215 G215 ⟨hI215, hB215, hT215, hO215, hp215⟩
                    dsimp only
                    unfold cb_X4_walk_172
                    refine WP.bind (cs_X4_endFunction hfu F215 G215 hI215) ?_
                    rintro r216 F216 G216 ⟨hI216, hB216, hT216, hO216, hp216⟩
                    dsimp only
                    unfold cb_X4_walk_176
                    unfold cb_X4_walk_245
                    have q_217 := i_rng x1
                    obtain ⟨k_218, e_219, e_220⟩ := i_add x2 (1 : Int32)
                    exact ihn x1 (x2 + (1 : Int32)) F216 G216 hI216 (KB.tr (KB.tr (KB.tr (KB.tr (KB.tr (KB.tr hB hB110) hB112) hB201) hB214) hB215) hB216) (KT.tr (KT.tr (KT.tr (KT.tr (KT.tr (KT.tr hT hT110) hT112) hT201) hT214) hT215) hT216) (by omega)
                · skip
                  have l_221 : (4 : Int32).toInt = 4 := rfl
                  have e_222 := mt i_eq.mpr (show ¬ (r110 = (4 : Int32)) from c_195)
                  unfold cb_X4_walk_146
                  unfold cb_X4_walk_147
                  have q_223 := i_rng (F110 12)
                  have q_224 := i_rng (F110 13)
                  refine WP.bind (cs_X4_startFunction hfu (F110 12) (F110 13) (0 : Int32) F112 G112 hI112 (by decide)) ?_
                  rintro r225 F225 G225 ⟨hI225, hB225, hT225, hO225, hp225⟩
                  dsimp only
                  unfold cb_X4_walk_150
                  refine WP.ite (fun c_226 => ?_) (fun c_226 => ?_)
                  · skip
                    have q_227 := i_rng (F225 27)
                    have e_228 := i_eq.mp (show (F110 12) = (F225 27) from c_226)
                    unfold cb_X4_walk_160
                    unfold cb_X4_walk_165
                    have l_229 : (1 : Int32).toInt = 1 := rfl
                    refine WP.bind (cs_X4_formals hfu (1 : Int32) F225 G225 hI225 (by decide)) ?_
                    rintro r230 F230 G230 ⟨hI230, hB230, hT230, hO230, hp230⟩
                    dsimp only
                    unfold cb_X4_walk_168
                    refine WP.bind (cs_X4_block hfu F230 G230 hI230) ?_
                    rintro r231 F231 G231 ⟨hI231, hB231, hT231, hO231, hp231⟩
                    dsimp only
                    unfold cb_X4_walk_172
                    refine WP.bind (cs_X4_endFunction hfu F231 G231 hI231) ?_
                    rintro r232 F232 G232 ⟨hI232, hB232, hT232, hO232, hp232⟩
                    dsimp only
                    unfold cb_X4_walk_176
                    unfold cb_X4_walk_245
                    have q_233 := i_rng x1
                    obtain ⟨k_234, e_235, e_236⟩ := i_add x2 (1 : Int32)
                    exact ihn x1 (x2 + (1 : Int32)) F232 G232 hI232 (KB.tr (KB.tr (KB.tr (KB.tr (KB.tr (KB.tr hB hB110) hB112) hB225) hB230) hB231) hB232) (KT.tr (KT.tr (KT.tr (KT.tr (KT.tr (KT.tr hT hT110) hT112) hT225) hT230) hT231) hT232) (by omega)
                  · skip
                    have q_237 := i_rng (F225 27)
                    have e_238 := mt i_eq.mpr (show ¬ ((F110 12) = (F225 27)) from c_226)
                    unfold cb_X4_walk_164
                    unfold cb_X4_walk_165
                    refine WP.bind (cs_X4_formals hfu (0 : Int32) F225 G225 hI225 (by decide)) ?_
                    rintro r239 F239 G239 ⟨hI239, hB239, hT239, hO239, hp239⟩
                    dsimp only
                    unfold cb_X4_walk_168
                    refine WP.bind (cs_X4_block hfu F239 G239 hI239) ?_
                    rintro r240 F240 G240 ⟨hI240, hB240, hT240, hO240, hp240⟩
                    dsimp only
                    unfold cb_X4_walk_172
                    refine WP.bind (cs_X4_endFunction hfu F240 G240 hI240) ?_
                    rintro r241 F241 G241 ⟨hI241, hB241, hT241, hO241, hp241⟩
                    dsimp only
                    unfold cb_X4_walk_176
                    unfold cb_X4_walk_245
                    have q_242 := i_rng x1
                    have l_243 : (1 : Int32).toInt = 1 := rfl
                    obtain ⟨k_244, e_245, e_246⟩ := i_add x2 (1 : Int32)
                    exact ihn x1 (x2 + (1 : Int32)) F241 G241 hI241 (KB.tr (KB.tr (KB.tr (KB.tr (KB.tr (KB.tr hB hB110) hB112) hB225) hB239) hB240) hB241) (KT.tr (KT.tr (KT.tr (KT.tr (KT.tr (KT.tr hT hT110) hT112) hT225) hT239) hT240) hT241) (by omega)
            · skip
              have q_247 := i_rng (F112 11)
              have l_248 : (19 : Int32).toInt = 19 := rfl
              have e_249 := mt i_eq.mpr (show ¬ ((F112 11) = (19 : Int32)) from c_114)
              unfold cb_X4_walk_179
              refine WP.ite (fun c_250 => ?_) (fun c_250 => ?_)
              · skip
                have l_251 : (21 : Int32).toInt = 21 := rfl
                have e_252 := i_eq.mp (show (F112 11) = (21 : Int32) from c_250)
                unfold cb_X4_walk_191
                refine WP.ite (fun c_253 => ?_) (fun c_253 => ?_)
                · skip
                  have q_254 := i_rng r110
                  have l_255 : (6 : Int32).toInt = 6 := rfl
                  have e_256 := i_eq.mp (show r110 = (6 : Int32) from c_253)
                  unfold cb_X4_walk_220
                  refine WP.ite (fun c_257 => ?_) (fun c_257 => ?_)
                  · skip
                    have l_258 : (4 : Int32).toInt = 4 := rfl
                    have e_259 := i_eq.mp (show r110 = (4 : Int32) from c_257)
                    unfold cb_X4_walk_226
                    have q_260 := i_rng (F110 12)
                    have q_261 := i_rng (F110 13)
                    refine WP.bind (cs_X4_globalInt hfu (F110 12) (F110 13) F112 G112 hI112) ?_
                    rintro r262 F262 G262 ⟨hI262, hB262, hT262, hO262, hp262⟩
                    dsimp only
                    unfold cb_X4_walk_234
                    unfold cb_X4_walk_245
                    have q_263 := i_rng x1
                    have l_264 : (1 : Int32).toInt = 1 := rfl
                    obtain ⟨k_265, e_266, e_267⟩ := i_add x2 (1 : Int32)
                    exact ihn x1 (x2 + (1 : Int32)) F262 G262 hI262 (KB.tr (KB.tr (KB.tr hB hB110) hB112) hB262) (KT.tr (KT.tr (KT.tr hT hT110) hT112) hT262) (by omega)
                  · skip
                    have l_268 : (4 : Int32).toInt = 4 := rfl
                    have e_269 := mt i_eq.mpr (show ¬ (r110 = (4 : Int32)) from c_257)
                    unfold cb_X4_walk_237
                    refine WP.bind (cs_X2_fail hfu (2 : Int32) F112 G112 hI112) ?_
                    rintro r270 F270 G270 ⟨hI270, hB270, hT270, hO270, hp270⟩
                    dsimp only
                    unfold cb_X4_walk_245
                    have q_271 := i_rng x1
                    have l_272 : (1 : Int32).toInt = 1 := rfl
                    obtain ⟨k_273, e_274, e_275⟩ := i_add x2 (1 : Int32)
                    exact ihn x1 (x2 + (1 : Int32)) F270 G270 hI270 (KB.tr (KB.tr (KB.tr hB hB110) hB112) hB270) (KT.tr (KT.tr (KT.tr hT hT110) hT112) hT270) (by omega)
                · skip
                  have q_276 := i_rng r110
                  have l_277 : (6 : Int32).toInt = 6 := rfl
                  have e_278 := mt i_eq.mpr (show ¬ (r110 = (6 : Int32)) from c_253)
                  unfold cb_X4_walk_198
                  refine WP.ite (fun c_279 => ?_) (fun c_279 => ?_)
                  · skip
                    have l_280 : (4 : Int32).toInt = 4 := rfl
                    have e_281 := i_eq.mp (show r110 = (4 : Int32) from c_279)
                    unfold cb_X4_walk_209
                    unfold cb_X4_walk_214
                    have q_282 := i_rng (F110 12)
                    have q_283 := i_rng (F110 13)
                    refine WP.bind (cs_X4_globalArray hfu (F110 12) (F110 13) (2 : Int32) F112 G112 hI112) ?_
                    rintro r284 F284 G284 ⟨hI284, hB284, hT284, hO284, hp284⟩
                    dsimp only
                    unfold cb_X4_walk_217
                    unfold cb_X4_walk_245
                    have q_285 := i_rng x1
                    have l_286 : (1 : Int32).toInt = 1 := rfl
                    obtain ⟨k_287, e_288, e_289⟩ := i_add x2 (1 : Int32)
                    exact ihn x1 (x2 + (1 : Int32)) F284 G284 hI284 (KB.tr (KB.tr (KB.tr hB hB110) hB112) hB284) (KT.tr (KT.tr (KT.tr hT hT110) hT112) hT284) (by omega)
                  · skip
                    have l_290 : (4 : Int32).toInt = 4 := rfl
                    have e_291 := mt i_eq.mpr (show ¬ (r110 = (4 : Int32)) from c_279)
                    unfold cb_X4_walk_213
                    unfold cb_X4_walk_214
                    have q_292 := i_rng (F110 12)
                    have q_293 := i_rng (F110 13)
                    have l_294 : (3 : Int32).toInt = 3 := rfl
                    refine WP.bind (cs_X4_globalArray hfu (F110 12) (F110 13) (3 : Int32) F112 G112 hI112) ?_
                    rintro r295 F295 G295 ⟨hI295, hB295, hT295, hO295, hp295⟩
                    dsimp only
                    unfold cb_X4_walk_217
                    unfold cb_X4_walk_245
                    have q_296 := i_rng x1
                    have l_297 : (1 : Int32).toInt = 1 := rfl
                    obtain ⟨k_298, e_299, e_300⟩ := i_add x2 (1 : Int32)
                    exact ihn x1 (x2 + (1 : Int32)) F295 G295 hI295 (KB.tr (KB.tr (KB.tr hB hB110) hB112) hB295) (KT.tr (KT.tr (KT.tr hT hT110) hT112) hT295) (by omega)
              · skip
                have l_301 : (21 : Int32).toInt = 21 := rfl
                have e_302 := mt i_eq.mpr (show ¬ ((F112 11) = (21 : Int32)) from c_250)
                unfold cb_X4_walk_220
                refine WP.ite (fun c_303 => ?_) (fun c_303 => ?_)
                · skip
                  have q_304 := i_rng r110
                  have l_305 : (4 : Int32).toInt = 4 := rfl
                  have e_306 := i_eq.mp (show r110 = (4 : Int32) from c_303)
                  unfold cb_X4_walk_226
                  have q_307 := i_rng (F110 12)
                  have q_308 := i_rng (F110 13)
                  refine WP.bind (cs_X4_globalInt hfu (F110 12) (F110 13) F112 G112 hI112) ?_
                  rintro r309 F309 G309 ⟨hI309, hB309, hT309, hO309, hp309⟩
                  dsimp only
                  unfold cb_X4_walk_234
                  unfold cb_X4_walk_245
                  have q_310 := i_rng x1
                  have l_311 : (1 : Int32).toInt = 1 := rfl
                  obtain ⟨k_312, e_313, e_314⟩ := i_add x2 (1 : Int32)
                  exact ihn x1 (x2 + (1 : Int32)) F309 G309 hI309 (KB.tr (KB.tr (KB.tr hB hB110) hB112) hB309) (KT.tr (KT.tr (KT.tr hT hT110) hT112) hT309) (by omega)
                · skip
                  have q_315 := i_rng r110
                  have l_316 : (4 : Int32).toInt = 4 := rfl
                  have e_317 := mt i_eq.mpr (show ¬ (r110 = (4 : Int32)) from c_303)
                  unfold cb_X4_walk_237
                  refine WP.bind (cs_X2_fail hfu (2 : Int32) F112 G112 hI112) ?_
                  rintro r318 F318 G318 ⟨hI318, hB318, hT318, hO318, hp318⟩
                  dsimp only
                  unfold cb_X4_walk_245
                  have q_319 := i_rng x1
                  have l_320 : (1 : Int32).toInt = 1 := rfl
                  obtain ⟨k_321, e_322, e_323⟩ := i_add x2 (1 : Int32)
                  exact ihn x1 (x2 + (1 : Int32)) F318 G318 hI318 (KB.tr (KB.tr (KB.tr hB hB110) hB112) hB318) (KT.tr (KT.tr (KT.tr hT hT110) hT112) hT318) (by omega)
theorem cs_X4_walk {fu : Nat} (hfu : 8589934592 ≤ fu) (x1 : Int32) (F : PF) (G : PG) (hI : CI F G) (hz_x1 : x1 = 0 ∨ x1 = 1) : WP (cf_X4_walk fu x1 F G) (fun r' F' G' => CI F' G' ∧ KB F G F' G' ∧ KT F F' ∧ True) := by
  have q_x1 := b_rng hz_x1
  unfold cf_X4_walk
  unfold cb_X4_walk_0
  have q_1 := i_rng x1
  refine WP.bind (cs_X4_start hfu x1 F G hI hz_x1) ?_
  rintro r2 F2 G2 ⟨hI2, hB2, hT2, hp2⟩
  dsimp only
  have q_3 := hI.r 10 rfl
  have q_4 := hI2.r 10 rfl
  have e_5 : (F2 10).toInt = 0 := hp2
  unfold cb_X4_walk_5
  have l_6 : (0 : Int32).toInt = 0 := rfl
  exact cz_X4_walk_7 (F0 := F) (G0 := G) hfu fu x1 (0 : Int32) F2 G2 hI2 (KB.tr (KB.rf : KB F G F G) hB2) (KT.tr (rfl : KT F F) hT2) (by omega)
theorem cs_X6_forget {fu : Nat} (hfu : 8589934592 ≤ fu) (F : PF) (G : PG) (hI : CI F G) : WP (cf_X6_forget fu F G) (fun r' F' G' => CI F' G' ∧ KB F G F' G' ∧ KT F F' ∧ KO F F' ∧ True) := by
  unfold cf_X6_forget
  unfold cb_X6_forget_0
  have l_1 : (0 : Int32).toInt = 0 := rfl
  have j_2 : CI (fup F 63 (0 : Int32)) G := CI.fr rfl hI
  unfold cb_X6_forget_5
  have j_3 : CI (fup (fup F 63 (0 : Int32)) 64 (0 : Int32)) G := CI.fr rfl j_2
  unfold cb_X6_forget_10
  have j_4 : CI (fup (fup (fup F 63 (0 : Int32)) 64 (0 : Int32)) 65 (0 : Int32)) G := CI.fr rfl j_3
  unfold cb_X6_forget_15
  have l_5 : (-1 : Int32).toInt = -1 := rfl
  have j_6 : CI (fup (fup (fup (fup F 63 (0 : Int32)) 64 (0 : Int32)) 65 (0 : Int32)) 66 (-1 : Int32)) G := CI.fr rfl j_4
  unfold cb_X6_forget_20
  have j_7 : CI (fup (fup (fup (fup (fup F 63 (0 : Int32)) 64 (0 : Int32)) 65 (0 : Int32)) 66 (-1 : Int32)) 67 (0 : Int32)) G := CI.fr rfl j_6
  unfold cb_X6_forget_25
  have q_9 := hI.xx
  have j_8 : CI (fup (fup (fup (fup (fup (fup F 63 (0 : Int32)) 64 (0 : Int32)) 65 (0 : Int32)) 66 (-1 : Int32)) 67 (0 : Int32)) 56 (0 : Int32)) G := CI.top j_7 (by omega) (show (0 : Int32).toInt ≤ (xn F : Int) by omega)
  unfold cb_X6_forget_30
  have l_10 : (2000 : Int32).toInt = 2000 := rfl
  have j_11 : CI (fup (fup (fup (fup (fup (fup (fup F 63 (0 : Int32)) 64 (0 : Int32)) 65 (0 : Int32)) 66 (-1 : Int32)) 67 (0 : Int32)) 56 (0 : Int32)) 59 (2000 : Int32)) G := CI.fr rfl j_8
  unfold cb_X6_forget_37
  have j_12 : CI (fup (fup (fup (fup (fup (fup (fup (fup F 63 (0 : Int32)) 64 (0 : Int32)) 65 (0 : Int32)) 66 (-1 : Int32)) 67 (0 : Int32)) 56 (0 : Int32)) 59 (2000 : Int32)) 60 (0 : Int32)) G := CI.rg (k := 60) (x := (0 : Int32)) rfl (by decide) (by decide) j_11 ⟨by omega, by omega⟩
  unfold cb_X6_forget_42
  refine WP.ret ?_
  exact ⟨j_12, (KB.f (by decide) (KB.f (by decide) (KB.f (by decide) (KB.f (by decide) (KB.f (by decide) (KB.f (by decide) (KB.f (by decide) (KB.f (by decide) (KB.rf : KB F G F G))))))))), (KT.f (by decide) (KT.f (by decide) (KT.f (by decide) (KT.f (by decide) (KT.f (by decide) (KT.f (by decide) (KT.f (by decide) (KT.f (by decide) (rfl : KT F F))))))))), (KO.f (by decide) (KO.f (by decide) (KO.f (by decide) (KO.f (by decide) (KO.f (by decide) (KO.f (by decide) (KO.f (by decide) (KO.f (by decide) (rfl : KO F F))))))))), trivial⟩
theorem cs_X6_startAnew {fu : Nat} (hfu : 8589934592 ≤ fu) (x1 : Int32) (F : PF) (G : PG) (hI : CI F G) : WP (cf_X6_startAnew fu x1 F G) (fun r' F' G' => CI F' G' ∧ KB F G F' G' ∧ KT F F' ∧ KO F F' ∧ True) := by
  unfold cf_X6_startAnew
  unfold cb_X6_startAnew_0
  refine WP.bind (cs_X6_forget hfu F G hI) ?_
  rintro r1 F1 G1 ⟨hI1, hB1, hT1, hO1, hp1⟩
  dsimp only
  have q_2 := hI.r 10 rfl
  have q_3 := hI1.r 10 rfl
  have e_4 : (F1 10).toInt = (F 10).toInt := hO1
  unfold cb_X6_startAnew_4
  have l_5 : (1 : Int32).toInt = 1 := rfl
  have j_6 : CI (fup F1 63 (1 : Int32)) G1 := CI.fr rfl hI1
  unfold cb_X6_startAnew_9
  have q_7 := i_rng x1
  have j_8 : CI (fup (fup F1 63 (1 : Int32)) 67 x1) G1 := CI.fr rfl j_6
  unfold cb_X6_startAnew_14
  have j_9 : CI (fup (fup F1 63 (1 : Int32)) 67 x1) (gcp G1 86 54) := CI.gc (by decide) j_8
  unfold cb_X6_startAnew_33
  refine WP.ret ?_
  exact ⟨j_9, (KB.gc (by decide) (KB.f (by decide) (KB.f (by decide) (KB.tr (KB.rf : KB F G F G) hB1)))), (KT.f (by decide) (KT.f (by decide) (KT.tr (rfl : KT F F) hT1))), (KO.f (by decide) (KO.f (by decide) (KO.tr (rfl : KO F F) hO1))), trivial⟩
theorem cs_X6_depth {fu : Nat} (hfu : 8589934592 ≤ fu) (F : PF) (G : PG) (hI : CI F G) : WP (cf_X6_depth fu F G) (fun r' F' G' => F = F' ∧ G = G' ∧ True) := by
  unfold cf_X6_depth
  unfold cb_X6_depth_0
  refine WP.ret ?_
  exact ⟨rfl, rfl, trivial⟩
theorem cs_X6_held {fu : Nat} (hfu : 8589934592 ≤ fu) (x1 : Int32) (F : PF) (G : PG) (hI : CI F G) : WP (cf_X6_held fu x1 F G) (fun r' F' G' => F = F' ∧ G = G' ∧ True) := by
  unfold cf_X6_held
  unfold cb_X6_held_0
  refine WP.ite (fun c_1 => ?_) (fun c_1 => ?_)
  · skip
    have q_2 := i_rng x1
    have l_3 : (0 : Int32).toInt = 0 := rfl
    have e_4 := i_lt.mp (show x1 < (0 : Int32) from c_1)
    unfold cb_X6_held_11
    unfold cb_X6_held_21
    refine WP.ret ?_
    exact ⟨rfl, rfl, trivial⟩
  · skip
    have q_5 := i_rng x1
    have l_6 : (0 : Int32).toInt = 0 := rfl
    have e_7 := mt i_lt.mpr (show ¬ (x1 < (0 : Int32)) from c_1)
    unfold cb_X6_held_4
    refine WP.ite (fun c_8 => ?_) (fun c_8 => ?_)
    · skip
      have l_9 : (4000 : Int32).toInt = 4000 := rfl
      have e_10 := i_lt.mp (show x1 < (4000 : Int32) from c_8)
      unfold cb_X6_held_15
      refine WP.ix (show vp_in x1 4000 from vp_in_iff.mpr ⟨by omega, by omega⟩) ?_
      unfold cb_X6_held_21
      refine WP.ret ?_
      exact ⟨rfl, rfl, trivial⟩
    · skip
      have l_11 : (4000 : Int32).toInt = 4000 := rfl
      have e_12 := mt i_lt.mpr (show ¬ (x1 < (4000 : Int32)) from c_8)
      unfold cb_X6_held_11
      unfold cb_X6_held_21
      refine WP.ret ?_
      exact ⟨rfl, rfl, trivial⟩
theorem cs_X6_hold {fu : Nat} (hfu : 8589934592 ≤ fu) (x1 : Int32) (x2 : Int32) (F : PF) (G : PG) (hI : CI F G) : WP (cf_X6_hold fu x1 x2 F G) (fun r' F' G' => CI F' G' ∧ KB F G F' G' ∧ KT F F' ∧ KO F F' ∧ True) := by
  unfold cf_X6_hold
  unfold cb_X6_hold_0
  refine WP.ite (fun c_1 => ?_) (fun c_1 => ?_)
  · skip
    have q_2 := i_rng x1
    have l_3 : (0 : Int32).toInt = 0 := rfl
    have e_4 := i_lt.mp (show x1 < (0 : Int32) from c_1)
    unfold cb_X6_hold_18
    refine WP.ret ?_
    exact ⟨hI, (KB.rf : KB F G F G), (rfl : KT F F), (rfl : KO F F), trivial⟩
  · skip
    have q_5 := i_rng x1
    have l_6 : (0 : Int32).toInt = 0 := rfl
    have e_7 := mt i_lt.mpr (show ¬ (x1 < (0 : Int32)) from c_1)
    unfold cb_X6_hold_4
    refine WP.ite (fun c_8 => ?_) (fun c_8 => ?_)
    · skip
      have l_9 : (4000 : Int32).toInt = 4000 := rfl
      have e_10 := i_le.mp (show (4000 : Int32) ≤ x1 from c_8)
      unfold cb_X6_hold_18
      refine WP.ret ?_
      exact ⟨hI, (KB.rf : KB F G F G), (rfl : KT F F), (rfl : KO F F), trivial⟩
    · skip
      have l_11 : (4000 : Int32).toInt = 4000 := rfl
      have e_12 := mt i_le.mpr (show ¬ ((4000 : Int32) ≤ x1) from c_8)
      unfold cb_X6_hold_11
      refine WP.ix (show vp_in x1 4000 from vp_in_iff.mpr ⟨by omega, by omega⟩) ?_
      have j_13 : CI F (gup G 54 x1.toNatClampNeg x2) := CI.g (by decide) hI
      unfold cb_X6_hold_18
      refine WP.ret ?_
      exact ⟨j_13, (KB.g (by decide) (KB.rf : KB F G F G)), (rfl : KT F F), (rfl : KO F F), trivial⟩
theorem cs_X6_over {fu : Nat} (hfu : 8589934592 ≤ fu) (x1 : Int32) (F : PF) (G : PG) (hI : CI F G) : WP (cf_X6_over fu x1 F G) (fun r' F' G' => CI F' G' ∧ KB F G F' G' ∧ KT F F' ∧ KO F F' ∧ True) := by
  unfold cf_X6_over
  unfold cb_X6_over_0
  have q_1 := i_rng x1
  have j_2 : CI (fup F 63 x1) G := CI.fr rfl hI
  unfold cb_X6_over_5
  have l_3 : (0 : Int32).toInt = 0 := rfl
  have j_4 : CI (fup (fup F 63 x1) 61 (0 : Int32)) G := CI.rg (k := 61) (x := (0 : Int32)) rfl (by decide) (by decide) j_2 ⟨by omega, by omega⟩
  unfold cb_X6_over_10
  refine WP.ret ?_
  exact ⟨j_4, (KB.f (by decide) (KB.f (by decide) (KB.rf : KB F G F G))), (KT.f (by decide) (KT.f (by decide) (rfl : KT F F))), (KO.f (by decide) (KO.f (by decide) (rfl : KO F F))), trivial⟩
theorem cs_X6_stops {fu : Nat} (hfu : 8589934592 ≤ fu) (x1 : Int32) (x2 : Int32) (F : PF) (G : PG) (hI : CI F G) : WP (cf_X6_stops fu x1 x2 F G) (fun r' F' G' => CI F' G' ∧ KB F G F' G' ∧ KT F F' ∧ KO F F' ∧ True) := by
  unfold cf_X6_stops
  unfold cb_X6_stops_0
  have q_1 := i_rng x2
  have j_2 : CI (fup F 57 x2) G := CI.fr rfl hI
  unfold cb_X6_stops_5
  have q_3 := i_rng x1
  refine WP.bind (cs_X6_over hfu x1 (fup F 57 x2) G j_2) ?_
  rintro r4 F4 G4 ⟨hI4, hB4, hT4, hO4, hp4⟩
  dsimp only
  have q_5 := hI.r 10 rfl
  have q_6 := hI4.r 10 rfl
  have e_7 : (F4 10).toInt = (F 10).toInt := hO4
  unfold cb_X6_stops_10
  refine WP.ret ?_
  exact ⟨hI4, (KB.tr (KB.f (by decide) (KB.rf : KB F G F G)) hB4), (KT.tr (KT.f (by decide) (rfl : KT F F)) hT4), (KO.tr (KO.f (by decide) (rfl : KO F F)) hO4), trivial⟩
theorem cs_X7_show {fu : Nat} (hfu : 8589934592 ≤ fu) (x1 : Int32) (F : PF) (G : PG) (hI : CI F G) : WP (cf_X7_show fu x1 F G) (fun r' F' G' => CI F' G' ∧ KB F G F' G' ∧ KT F F' ∧ KO F F' ∧ True) := by
  unfold cf_X7_show
  unfold cb_X7_show_0
  refine WP.ite (fun c_1 => ?_) (fun c_1 => ?_)
  · skip
    have l_2 : (2000 : Int32).toInt = 2000 := rfl
    have q_3 := hI.r 72 rfl
    have e_4 := i_le.mp (show (2000 : Int32) ≤ (F 72) from c_1)
    unfold cb_X7_show_20
    refine WP.ite (fun c_5 => ?_) (fun c_5 => ?_)
    · skip
      have l_6 : (2147483647 : Int32).toInt = 2147483647 := rfl
      have e_7 := i_le.mp (show (2147483647 : Int32) ≤ (F 72) from c_5)
      unfold cb_X7_show_39
      refine WP.ret ?_
      exact ⟨hI, (KB.rf : KB F G F G), (rfl : KT F F), (rfl : KO F F), trivial⟩
    · skip
      have l_8 : (2147483647 : Int32).toInt = 2147483647 := rfl
      have e_9 := mt i_le.mpr (show ¬ ((2147483647 : Int32) ≤ (F 72)) from c_5)
      unfold cb_X7_show_29
      have l_10 : (1 : Int32).toInt = 1 := rfl
      obtain ⟨k_11, e_12, e_13⟩ := i_add (F 72) (1 : Int32)
      have j_14 : CI (fup F 72 ((F 72) + (1 : Int32))) G := CI.rg (k := 72) (x := ((F 72) + (1 : Int32))) rfl (by decide) (by decide) hI ⟨by omega, by omega⟩
      unfold cb_X7_show_39
      refine WP.ret ?_
      exact ⟨j_14, (KB.f (by decide) (KB.rf : KB F G F G)), (KT.f (by decide) (rfl : KT F F)), (KO.f (by decide) (rfl : KO F F)), trivial⟩
  · skip
    have l_15 : (2000 : Int32).toInt = 2000 := rfl
    have q_16 := hI.r 72 rfl
    have e_17 := mt i_le.mpr (show ¬ ((2000 : Int32) ≤ (F 72)) from c_1)
    unfold cb_X7_show_10
    refine WP.ix (show vp_in (F 72) 2000 from vp_in_iff.mpr ⟨by omega, by omega⟩) ?_
    have j_18 : CI F (gup G 71 (F 72).toNatClampNeg x1) := CI.g (by decide) hI
    unfold cb_X7_show_20
    refine WP.ite (fun c_19 => ?_) (fun c_19 => ?_)
    · skip
      have l_20 : (2147483647 : Int32).toInt = 2147483647 := rfl
      have e_21 := i_le.mp (show (2147483647 : Int32) ≤ (F 72) from c_19)
      unfold cb_X7_show_39
      refine WP.ret ?_
      exact ⟨j_18, (KB.g (by decide) (KB.rf : KB F G F G)), (rfl : KT F F), (rfl : KO F F), trivial⟩
    · skip
      have l_22 : (2147483647 : Int32).toInt = 2147483647 := rfl
      have e_23 := mt i_le.mpr (show ¬ ((2147483647 : Int32) ≤ (F 72)) from c_19)
      unfold cb_X7_show_29
      have l_24 : (1 : Int32).toInt = 1 := rfl
      obtain ⟨k_25, e_26, e_27⟩ := i_add (F 72) (1 : Int32)
      have j_28 : CI (fup F 72 ((F 72) + (1 : Int32))) (gup G 71 (F 72).toNatClampNeg x1) := CI.rg (k := 72) (x := ((F 72) + (1 : Int32))) rfl (by decide) (by decide) j_18 ⟨by omega, by omega⟩
      unfold cb_X7_show_39
      refine WP.ret ?_
      exact ⟨j_28, (KB.f (by decide) (KB.g (by decide) (KB.rf : KB F G F G))), (KT.f (by decide) (rfl : KT F F)), (KO.f (by decide) (rfl : KO F F)), trivial⟩
theorem cs_X6_leave {fu : Nat} (hfu : 8589934592 ≤ fu) (F : PF) (G : PG) (hI : CI F G) : WP (cf_X6_leave fu F G) (fun r' F' G' => CI F' G' ∧ KB F G F' G' ∧ KT F F' ∧ KO F F' ∧ True) := by
  unfold cf_X6_leave
  unfold cb_X6_leave_0
  have q_1 := i_rng (F 58)
  have j_2 : CI (fup F 59 (F 58)) G := CI.fr rfl hI
  unfold cb_X6_leave_8
  refine WP.ite (fun c_3 => ?_) (fun c_3 => ?_)
  · skip
    have l_4 : (2000 : Int32).toInt = 2000 := rfl
    have e_5 := i_eq.mp (show (F 58) = (2000 : Int32) from c_3)
    unfold cb_X6_leave_18
    refine WP.bind (cs_X6_pop hfu (fup F 59 (F 58)) G j_2) ?_
    rintro r6 F6 G6 ⟨hI6, hB6, hT6, hO6, hp6⟩
    dsimp only
    have q_7 := hI.r 10 rfl
    have q_8 := hI6.r 10 rfl
    have e_9 : (F6 10).toInt = (F 10).toInt := hO6
    unfold cb_X6_leave_23
    have q_10 := i_rng r6
    have j_11 : CI (fup F6 65 r6) G6 := CI.fr rfl hI6
    unfold cb_X6_leave_26
    have l_12 : (3 : Int32).toInt = 3 := rfl
    refine WP.bind (cs_X6_over hfu (3 : Int32) (fup F6 65 r6) G6 j_11) ?_
    rintro r13 F13 G13 ⟨hI13, hB13, hT13, hO13, hp13⟩
    dsimp only
    have q_14 := hI13.r 10 rfl
    have e_15 : (F13 10).toInt = (F6 10).toInt := hO13
    unfold cb_X6_leave_31
    refine WP.ret ?_
    exact ⟨hI13, (KB.tr (KB.f (by decide) (KB.tr (KB.f (by decide) (KB.rf : KB F G F G)) hB6)) hB13), (KT.tr (KT.f (by decide) (KT.tr (KT.f (by decide) (rfl : KT F F)) hT6)) hT13), (KO.tr (KO.f (by decide) (KO.tr (KO.f (by decide) (rfl : KO F F)) hO6)) hO13), trivial⟩
  · skip
    have l_16 : (2000 : Int32).toInt = 2000 := rfl
    have e_17 := mt i_eq.mpr (show ¬ ((F 58) = (2000 : Int32)) from c_3)
    unfold cb_X6_leave_32
    refine WP.bind (cs_X6_held hfu (F 58) (fup F 59 (F 58)) G j_2) ?_
    rintro r18 _ _ ⟨rfl, rfl, hp18⟩
    dsimp only
    unfold cb_X6_leave_41
    have q_19 := i_rng r18
    have j_20 : CI (fup (fup F 59 (F 58)) 57 r18) G := CI.fr rfl j_2
    unfold cb_X6_leave_44
    have l_21 : (1 : Int32).toInt = 1 := rfl
    obtain ⟨k_22, e_23, e_24⟩ := i_add (F 58) (1 : Int32)
    refine WP.bind (cs_X6_held hfu ((F 58) + (1 : Int32)) (fup (fup F 59 (F 58)) 57 r18) G j_20) ?_
    rintro r25 _ _ ⟨rfl, rfl, hp25⟩
    dsimp only
    unfold cb_X6_leave_55
    have q_26 := i_rng r25
    have j_27 : CI (fup (fup (fup F 59 (F 58)) 57 r18) 58 r25) G := CI.fr rfl j_20
    unfold cb_X6_leave_58
    refine WP.ret ?_
    exact ⟨j_27, (KB.f (by decide) (KB.f (by decide) (KB.f (by decide) (KB.rf : KB F G F G)))), (KT.f (by decide) (KT.f (by decide) (KT.f (by decide) (rfl : KT F F)))), (KO.f (by decide) (KO.f (by decide) (KO.f (by decide) (rfl : KO F F)))), trivial⟩
theorem cs_X6_takesTurn {fu : Nat} (hfu : 8589934592 ≤ fu) (F : PF) (G : PG) (hI : CI F G) : WP (cf_X6_takesTurn fu F G) (fun r' F' G' => CI F' G' ∧ KB F G F' G' ∧ KT F F' ∧ KO F F' ∧ (r' = 0 ∨ r' = 1)) := by
  unfold cf_X6_takesTurn
  unfold cb_X6_takesTurn_0
  refine WP.ite (fun c_1 => ?_) (fun c_1 => ?_)
  · skip
    have l_2 : (0 : Int32).toInt = 0 := rfl
    have q_3 := i_rng (F 62)
    have e_4 := i_lt.mp (show (0 : Int32) < (F 62) from c_1)
    unfold cb_X6_takesTurn_9
    have l_5 : (1 : Int32).toInt = 1 := rfl
    obtain ⟨k_6, e_7, e_8⟩ := i_sub (F 62) (1 : Int32)
    have j_9 : CI (fup F 62 ((F 62) - (1 : Int32))) G := CI.fr rfl hI
    unfold cb_X6_takesTurn_19
    have q_10 := i_rng (F 64)
    obtain ⟨k_11, e_12, e_13⟩ := i_add (F 64) (1 : Int32)
    have j_14 : CI (fup (fup F 62 ((F 62) - (1 : Int32))) 64 ((F 64) + (1 : Int32))) G := CI.fr rfl j_9
    unfold cb_X6_takesTurn_29
    refine WP.ret ?_
    exact ⟨j_14, (KB.f (by decide) (KB.f (by decide) (KB.rf : KB F G F G))), (KT.f (by decide) (KT.f (by decide) (rfl : KT F F))), (KO.f (by decide) (KO.f (by decide) (rfl : KO F F))), (by decide)⟩
  · skip
    have l_15 : (0 : Int32).toInt = 0 := rfl
    have q_16 := i_rng (F 62)
    have e_17 := mt i_lt.mpr (show ¬ ((0 : Int32) < (F 62)) from c_1)
    unfold cb_X6_takesTurn_7
    refine WP.ret ?_
    exact ⟨hI, (KB.rf : KB F G F G), (rfl : KT F F), (rfl : KO F F), (by decide)⟩
theorem cz_X6_enters_75 {fu : Nat} (hfu : 8589934592 ≤ fu) {F0 : PF} {G0 : PG} : ∀ (n : Nat) (x1 : Int32) (x3 : Int32) (x4 : Int32) (F : PF) (G : PG) (hI : CI F G) (hB : KB F0 G0 F G) (hT : KT F0 F) (hO : KO F0 F) (i_0 : 0 ≤ x1.toInt) (i_1 : x1.toInt < 450) (hn : (x4.toInt + 1).toNat < n), WP (cl_X6_enters_75 fu n x1 x3 x4 F G) (fun r' F' G' => CI F' G' ∧ KB F0 G0 F' G' ∧ KT F0 F' ∧ KO F0 F' ∧ (r' = 0 ∨ r' = 1)) := by
  intro n
  induction n with
  | zero =>
    intro x1 x3 x4 F G hI hB hT hO i_0 i_1 hn
    exact absurd hn (Nat.not_lt_zero _)
  | succ n ihn =>
    intro x1 x3 x4 F G hI hB hT hO i_0 i_1 hn
    show WP (cb_X6_enters_75 fu (cl_X6_enters_75 fu n)  x1 x3 x4 F G) _
    have q_O : (F 10).toInt = (F0 10).toInt := hO
    have q_O1 := hI.r 10 rfl
    unfold cb_X6_enters_75
    refine WP.ite (fun c_1 => ?_) (fun c_1 => ?_)
    · skip
      have q_2 := i_rng x4
      have l_3 : (0 : Int32).toInt = 0 := rfl
      have e_4 := i_lt.mp (show x4 < (0 : Int32) from c_1)
      unfold cb_X6_enters_103
      have q_5 := i_rng (F 59)
      have j_6 : CI (fup F 58 (F 59)) G := CI.fr rfl hI
      unfold cb_X6_enters_111
      have q_7 := i_rng x3
      obtain ⟨k_8, e_9, e_10⟩ := i_add (F 59) x3
      have j_11 : CI (fup (fup F 58 (F 59)) 59 ((F 59) + x3)) G := CI.fr rfl j_6
      unfold cb_X6_enters_121
      have q_12 := i_rng x1
      refine WP.ix (show vp_in x1 450 from vp_in_iff.mpr ⟨by omega, by omega⟩) ?_
      have q_13 := i_rng (G 80 x1.toNatClampNeg)
      have j_14 : CI (fup (fup (fup F 58 (F 59)) 59 ((F 59) + x3)) 57 (G 80 x1.toNatClampNeg)) G := CI.fr rfl j_11
      unfold cb_X6_enters_134
      refine WP.ret ?_
      exact ⟨j_14, (KB.f (by decide) (KB.f (by decide) (KB.f (by decide) hB))), (KT.f (by decide) (KT.f (by decide) (KT.f (by decide) hT))), (KO.f (by decide) (KO.f (by decide) (KO.f (by decide) hO))), (by decide)⟩
    · skip
      have q_15 := i_rng x4
      have l_16 : (0 : Int32).toInt = 0 := rfl
      have e_17 := mt i_lt.mpr (show ¬ (x4 < (0 : Int32)) from c_1)
      unfold cb_X6_enters_80
      refine WP.bind (cs_X6_pop hfu F G hI) ?_
      rintro r18 F18 G18 ⟨hI18, hB18, hT18, hO18, hp18⟩
      dsimp only
      have q_19 := hI.r 10 rfl
      have q_20 := hI18.r 10 rfl
      have e_21 : (F18 10).toInt = (F 10).toInt := hO18
      unfold cb_X6_enters_94
      have q_22 := i_rng (F 59)
      have l_23 : (4 : Int32).toInt = 4 := rfl
      obtain ⟨k_24, e_25, e_26⟩ := i_add (F 59) (4 : Int32)
      obtain ⟨k_27, e_28, e_29⟩ := i_add ((F 59) + (4 : Int32)) x4
      have q_30 := i_rng r18
      refine WP.bind (cs_X6_hold hfu (((F 59) + (4 : Int32)) + x4) r18 F18 G18 hI18) ?_
      rintro r31 F31 G31 ⟨hI31, hB31, hT31, hO31, hp31⟩
      dsimp only
      have q_32 := hI31.r 10 rfl
      have e_33 : (F31 10).toInt = (F18 10).toInt := hO31
      unfold cb_X6_enters_97
      have q_34 := i_rng x1
      have q_35 := i_rng x3
      have l_36 : (-1 : Int32).toInt = -1 := rfl
      obtain ⟨k_37, e_38, e_39⟩ := i_add x4 (-1 : Int32)
      exact ihn x1 x3 (x4 + (-1 : Int32)) F31 G31 hI31 (KB.tr (KB.tr hB hB18) hB31) (KT.tr (KT.tr hT hT18) hT31) (KO.tr (KO.tr hO hO18) hO31) (show 0 ≤ x1.toInt by omega) (show x1.toInt < 450 by omega) (by omega)
theorem cs_X6_enters {fu : Nat} (hfu : 8589934592 ≤ fu) (x1 : Int32) (x2 : Int32) (F : PF) (G : PG) (hI : CI F G) (hc : 0 ≤ x1.toInt) (hd : x1.toInt < 450) : WP (cf_X6_enters fu x1 x2 F G) (fun r' F' G' => CI F' G' ∧ KB F G F' G' ∧ KT F F' ∧ KO F F' ∧ (r' = 0 ∨ r' = 1)) := by
  unfold cf_X6_enters
  unfold cb_X6_enters_0
  have q_1 := i_rng x1
  refine WP.ix (show vp_in x1 450 from vp_in_iff.mpr ⟨by omega, by omega⟩) ?_
  refine WP.bind (cs_X6_depth hfu F G hI) ?_
  rintro r2 _ _ ⟨rfl, rfl, hp2⟩
  dsimp only
  unfold cb_X6_enters_14
  refine WP.ite (fun c_3 => ?_) (fun c_3 => ?_)
  · skip
    have q_4 := i_rng r2
    have q_5 := i_rng (G 79 x1.toNatClampNeg)
    obtain ⟨k_6, e_7, e_8⟩ := i_add r2 (G 79 x1.toNatClampNeg)
    have q_9 := i_rng (F 67)
    have e_10 := i_le.mp (show (r2 + (G 79 x1.toNatClampNeg)) ≤ (F 67) from c_3)
    unfold cb_X6_enters_36
    have q_11 := i_rng (F 59)
    have q_12 := i_rng (F 57)
    refine WP.bind (cs_X6_hold hfu (F 59) (F 57) F G hI) ?_
    rintro r13 F13 G13 ⟨hI13, hB13, hT13, hO13, hp13⟩
    dsimp only
    have q_14 := hI.r 10 rfl
    have q_15 := hI13.r 10 rfl
    have e_16 : (F13 10).toInt = (F 10).toInt := hO13
    unfold cb_X6_enters_48
    have q_17 := i_rng (F13 59)
    have l_18 : (1 : Int32).toInt = 1 := rfl
    obtain ⟨k_19, e_20, e_21⟩ := i_add (F13 59) (1 : Int32)
    have q_22 := i_rng (F13 58)
    refine WP.bind (cs_X6_hold hfu ((F13 59) + (1 : Int32)) (F13 58) F13 G13 hI13) ?_
    rintro r23 F23 G23 ⟨hI23, hB23, hT23, hO23, hp23⟩
    dsimp only
    have q_24 := hI23.r 10 rfl
    have e_25 : (F23 10).toInt = (F13 10).toInt := hO23
    unfold cb_X6_enters_62
    refine WP.ix (show vp_in x1 450 from vp_in_iff.mpr ⟨by omega, by omega⟩) ?_
    have q_26 := i_rng (G23 81 x1.toNatClampNeg)
    obtain ⟨k_27, e_28, e_29⟩ := i_sub (G23 81 x1.toNatClampNeg) (1 : Int32)
    exact cz_X6_enters_75 (F0 := F) (G0 := G) hfu fu x1 (G 79 x1.toNatClampNeg) ((G23 81 x1.toNatClampNeg) - (1 : Int32)) F23 G23 hI23 (KB.tr (KB.tr (KB.rf : KB F G F G) hB13) hB23) (KT.tr (KT.tr (rfl : KT F F) hT13) hT23) (KO.tr (KO.tr (rfl : KO F F) hO13) hO23) (show 0 ≤ x1.toInt by omega) (show x1.toInt < 450 by omega) (by omega)
  · skip
    have q_30 := i_rng r2
    have q_31 := i_rng (G 79 x1.toNatClampNeg)
    obtain ⟨k_32, e_33, e_34⟩ := i_add r2 (G 79 x1.toNatClampNeg)
    have q_35 := i_rng (F 67)
    have e_36 := mt i_le.mpr (show ¬ ((r2 + (G 79 x1.toNatClampNeg)) ≤ (F 67)) from c_3)
    unfold cb_X6_enters_23
    have q_37 := i_rng x2
    have j_38 : CI (fup F 66 x2) G := CI.fr rfl hI
    unfold cb_X6_enters_28
    have l_39 : (6 : Int32).toInt = 6 := rfl
    refine WP.bind (cs_X6_over hfu (6 : Int32) (fup F 66 x2) G j_38) ?_
    rintro r40 F40 G40 ⟨hI40, hB40, hT40, hO40, hp40⟩
    dsimp only
    have q_41 := hI.r 10 rfl
    have q_42 := hI40.r 10 rfl
    have e_43 : (F40 10).toInt = (F 10).toInt := hO40
    unfold cb_X6_enters_34
    refine WP.ret ?_
    exact ⟨hI40, (KB.tr (KB.f (by decide) (KB.rf : KB F G F G)) hB40), (KT.tr (KT.f (by decide) (rfl : KT F F)) hT40), (KO.tr (KO.f (by decide) (rfl : KO F F)) hO40), (by decide)⟩
theorem cs_X6_call {fu : Nat} (hfu : 8589934592 ≤ fu) (x1 : Int32) (F : PF) (G : PG) (hI : CI F G) : WP (cf_X6_call fu x1 F G) (fun r' F' G' => CI F' G' ∧ KB F G F' G' ∧ KT F F' ∧ KO F F' ∧ True) := by
  unfold cf_X6_call
  unfold cb_X6_call_0
  refine WP.bind (cs_X6_next hfu F G hI) ?_
  rintro r1 F1 G1 ⟨hI1, hB1, hT1, hO1, hp1⟩
  dsimp only
  have q_2 := hI.r 10 rfl
  have q_3 := hI1.r 10 rfl
  have e_4 : (F1 10).toInt = (F 10).toInt := hO1
  unfold cb_X6_call_4
  refine WP.bind (cs_X6_next hfu F1 G1 hI1) ?_
  rintro r5 F5 G5 ⟨hI5, hB5, hT5, hO5, hp5⟩
  dsimp only
  have q_6 := hI5.r 10 rfl
  have e_7 : (F5 10).toInt = (F1 10).toInt := hO5
  unfold cb_X6_call_9
  refine WP.bind (cs_X6_takesTurn hfu F5 G5 hI5) ?_
  rintro r8 F8 G8 ⟨hI8, hB8, hT8, hO8, hp8⟩
  dsimp only
  have q_9 := hI8.r 10 rfl
  have e_10 : (F8 10).toInt = (F5 10).toInt := hO8
  have q_11 := b_rng hp8
  unfold cb_X6_call_14
  refine WP.ite (fun c_12 => ?_) (fun c_12 => ?_)
  · skip
    have l_13 : (0 : Int32).toInt = 0 := rfl
    have e_14 := i_eq.mp (show r8 = (0 : Int32) from c_12)
    unfold cb_X6_call_17
    have l_15 : (1 : Int32).toInt = 1 := rfl
    have q_16 := i_rng x1
    refine WP.bind (cs_X6_stops hfu (1 : Int32) x1 F8 G8 hI8) ?_
    rintro r17 F17 G17 ⟨hI17, hB17, hT17, hO17, hp17⟩
    dsimp only
    have q_18 := hI17.r 10 rfl
    have e_19 : (F17 10).toInt = (F8 10).toInt := hO17
    unfold cb_X6_call_23
    unfold cb_X6_call_44
    refine WP.ret ?_
    exact ⟨hI17, (KB.tr (KB.tr (KB.tr (KB.tr (KB.rf : KB F G F G) hB1) hB5) hB8) hB17), (KT.tr (KT.tr (KT.tr (KT.tr (rfl : KT F F) hT1) hT5) hT8) hT17), (KO.tr (KO.tr (KO.tr (KO.tr (rfl : KO F F) hO1) hO5) hO8) hO17), trivial⟩
  · skip
    have l_20 : (0 : Int32).toInt = 0 := rfl
    have e_21 := mt i_eq.mpr (show ¬ (r8 = (0 : Int32)) from c_12)
    unfold cb_X6_call_26
    have q_22 := i_rng r1
    refine WP.bind (cs_X8_has hfu r1 F8 G8 hI8) ?_
    rintro r23 _ _ ⟨rfl, rfl, hp23⟩
    dsimp only
    have q_24 := b_rng (hp23.1)
    unfold cb_X6_call_34
    refine WP.ite (fun c_25 => ?_) (fun c_25 => ?_)
    · skip
      have e_26 := i_eq.mp (show r23 = (0 : Int32) from c_25)
      unfold cb_X6_call_44
      refine WP.ret ?_
      exact ⟨hI8, (KB.tr (KB.tr (KB.tr (KB.rf : KB F G F G) hB1) hB5) hB8), (KT.tr (KT.tr (KT.tr (rfl : KT F F) hT1) hT5) hT8), (KO.tr (KO.tr (KO.tr (rfl : KO F F) hO1) hO5) hO8), trivial⟩
    · skip
      have e_27 := mt i_eq.mpr (show ¬ (r23 = (0 : Int32)) from c_25)
      unfold cb_X6_call_37
      have q_28 := i_rng r5
      refine WP.bind (cs_X6_enters hfu r1 r5 F8 G8 hI8 (show 0 ≤ r1.toInt by omega) (show r1.toInt < 450 by omega)) ?_
      rintro r29 F29 G29 ⟨hI29, hB29, hT29, hO29, hp29⟩
      dsimp only
      have q_30 := hI29.r 10 rfl
      have e_31 : (F29 10).toInt = (F8 10).toInt := hO29
      have q_32 := b_rng hp29
      unfold cb_X6_call_43
      unfold cb_X6_call_44
      refine WP.ret ?_
      exact ⟨hI29, (KB.tr (KB.tr (KB.tr (KB.tr (KB.rf : KB F G F G) hB1) hB5) hB8) hB29), (KT.tr (KT.tr (KT.tr (KT.tr (rfl : KT F F) hT1) hT5) hT8) hT29), (KO.tr (KO.tr (KO.tr (KO.tr (rfl : KO F F) hO1) hO5) hO8) hO29), trivial⟩
theorem cs_X7_handIn {fu : Nat} (hfu : 8589934592 ≤ fu) (F : PF) (G : PG) (hI : CI F G) : WP (cf_X7_handIn fu F G) (fun r' F' G' => CI F' G' ∧ KB F G F' G' ∧ KT F F' ∧ KO F F' ∧ True) := by
  unfold cf_X7_handIn
  unfold cb_X7_handIn_0
  refine WP.ite (fun c_1 => ?_) (fun c_1 => ?_)
  · skip
    have l_2 : (0 : Int32).toInt = 0 := rfl
    have q_3 := hI.r 70 rfl
    have e_4 := i_lt.mp (show (0 : Int32) < (F 70) from c_1)
    unfold cb_X7_handIn_9
    have q_5 := hI.r 69 rfl
    refine WP.ix (show vp_in (F 69) 500 from vp_in_iff.mpr ⟨by omega, by omega⟩) ?_
    have l_6 : (1 : Int32).toInt = 1 := rfl
    obtain ⟨k_7, e_8, e_9⟩ := i_add (F 69) (1 : Int32)
    have l_10 : (500 : Int32).toInt = 500 := rfl
    have e_12 : 0 ≤ ((((F 69) + (1 : Int32)) - ((F 69) + (1 : Int32)) / (500 : Int32) * (500 : Int32))).toInt ∧ ((((F 69) + (1 : Int32)) - ((F 69) + (1 : Int32)) / (500 : Int32) * (500 : Int32))).toInt < 500 := i_rem 500 (by decide) (by decide) (by omega)
    have j_13 : CI (fup F 69 (((F 69) + (1 : Int32)) - ((F 69) + (1 : Int32)) / (500 : Int32) * (500 : Int32))) G := CI.rg (k := 69) (x := (((F 69) + (1 : Int32)) - ((F 69) + (1 : Int32)) / (500 : Int32) * (500 : Int32))) rfl (by decide) (by decide) hI ⟨by omega, by omega⟩
    unfold cb_X7_handIn_33
    obtain ⟨k_14, e_15, e_16⟩ := i_sub (F 70) (1 : Int32)
    have j_17 : CI (fup (fup F 69 (((F 69) + (1 : Int32)) - ((F 69) + (1 : Int32)) / (500 : Int32) * (500 : Int32))) 70 ((F 70) - (1 : Int32))) G := CI.rg (k := 70) (x := ((F 70) - (1 : Int32))) rfl (by decide) (by decide) j_13 ⟨by omega, by omega⟩
    unfold cb_X7_handIn_43
    refine WP.ret ?_
    exact ⟨j_17, (KB.f (by decide) (KB.f (by decide) (KB.rf : KB F G F G))), (KT.f (by decide) (KT.f (by decide) (rfl : KT F F))), (KO.f (by decide) (KO.f (by decide) (rfl : KO F F))), trivial⟩
  · skip
    have l_18 : (0 : Int32).toInt = 0 := rfl
    have q_19 := hI.r 70 rfl
    have e_20 := mt i_lt.mpr (show ¬ ((0 : Int32) < (F 70)) from c_1)
    unfold cb_X7_handIn_7
    refine WP.ret ?_
    exact ⟨hI, (KB.rf : KB F G F G), (rfl : KT F F), (rfl : KO F F), trivial⟩
theorem cs_X6_act {fu : Nat} (hfu : 8589934592 ≤ fu) (x1 : Int32) (x2 : Int32) (F : PF) (G : PG) (hI : CI F G) : WP (cf_X6_act fu x1 x2 F G) (fun r' F' G' => CI F' G' ∧ KB F G F' G' ∧ KT F F' ∧ KO F F' ∧ True) := by
  unfold cf_X6_act
  unfold cb_X6_act_0
  refine WP.ite (fun c_1 => ?_) (fun c_1 => ?_)
  · skip
    have q_2 := i_rng x1
    have l_3 : (15 : Int32).toInt = 15 := rfl
    have e_4 := i_eq.mp (show x1 = (15 : Int32) from c_1)
    unfold cb_X6_act_76
    refine WP.bind (cs_X6_leave hfu F G hI) ?_
    rintro r5 F5 G5 ⟨hI5, hB5, hT5, hO5, hp5⟩
    dsimp only
    have q_6 := hI.r 10 rfl
    have q_7 := hI5.r 10 rfl
    have e_8 : (F5 10).toInt = (F 10).toInt := hO5
    unfold cb_X6_act_80
    unfold cb_X6_act_143
    refine WP.ret ?_
    exact ⟨hI5, (KB.tr (KB.rf : KB F G F G) hB5), (KT.tr (rfl : KT F F) hT5), (KO.tr (rfl : KO F F) hO5), trivial⟩
  have q_9 := i_rng x1
  have l_10 : (15 : Int32).toInt = 15 := rfl
  have e_11 := mt i_eq.mpr (show ¬ (x1 = (15 : Int32)) from c_1)
  refine WP.ite (fun c_12 => ?_) (fun c_12 => ?_)
  · skip
    have l_13 : (16 : Int32).toInt = 16 := rfl
    have e_14 := i_eq.mp (show x1 = (16 : Int32) from c_12)
    unfold cb_X6_act_83
    refine WP.bind (cs_X6_pop hfu F G hI) ?_
    rintro r15 F15 G15 ⟨hI15, hB15, hT15, hO15, hp15⟩
    dsimp only
    have q_16 := hI.r 10 rfl
    have q_17 := hI15.r 10 rfl
    have e_18 : (F15 10).toInt = (F 10).toInt := hO15
    unfold cb_X6_act_91
    have q_19 := i_rng r15
    refine WP.bind (cs_X7_show hfu r15 F15 G15 hI15) ?_
    rintro r20 F20 G20 ⟨hI20, hB20, hT20, hO20, hp20⟩
    dsimp only
    have q_21 := hI20.r 10 rfl
    have e_22 : (F20 10).toInt = (F15 10).toInt := hO20
    unfold cb_X6_act_94
    unfold cb_X6_act_143
    refine WP.ret ?_
    exact ⟨hI20, (KB.tr (KB.tr (KB.rf : KB F G F G) hB15) hB20), (KT.tr (KT.tr (rfl : KT F F) hT15) hT20), (KO.tr (KO.tr (rfl : KO F F) hO15) hO20), trivial⟩
  have l_23 : (16 : Int32).toInt = 16 := rfl
  have e_24 := mt i_eq.mpr (show ¬ (x1 = (16 : Int32)) from c_12)
  refine WP.ite (fun c_25 => ?_) (fun c_25 => ?_)
  · skip
    have l_26 : (17 : Int32).toInt = 17 := rfl
    have e_27 := i_eq.mp (show x1 = (17 : Int32) from c_25)
    unfold cb_X6_act_97
    refine WP.ite (fun c_28 => ?_) (fun c_28 => ?_)
    · skip
      have q_29 := hI.r 70 rfl
      have l_30 : (0 : Int32).toInt = 0 := rfl
      have e_31 := i_le.mp (show (F 70) ≤ (0 : Int32) from c_28)
      unfold cb_X6_act_121
      have l_32 : (2 : Int32).toInt = 2 := rfl
      have q_33 := i_rng x2
      refine WP.bind (cs_X6_stops hfu (2 : Int32) x2 F G hI) ?_
      rintro r34 F34 G34 ⟨hI34, hB34, hT34, hO34, hp34⟩
      dsimp only
      have q_35 := hI.r 10 rfl
      have q_36 := hI34.r 10 rfl
      have e_37 : (F34 10).toInt = (F 10).toInt := hO34
      unfold cb_X6_act_127
      unfold cb_X6_act_143
      refine WP.ret ?_
      exact ⟨hI34, (KB.tr (KB.rf : KB F G F G) hB34), (KT.tr (rfl : KT F F) hT34), (KO.tr (rfl : KO F F) hO34), trivial⟩
    · skip
      have q_38 := hI.r 70 rfl
      have l_39 : (0 : Int32).toInt = 0 := rfl
      have e_40 := mt i_le.mpr (show ¬ ((F 70) ≤ (0 : Int32)) from c_28)
      unfold cb_X6_act_107
      refine WP.bind (cs_X7_handIn hfu F G hI) ?_
      rintro r41 F41 G41 ⟨hI41, hB41, hT41, hO41, hp41⟩
      dsimp only
      have q_42 := hI.r 10 rfl
      have q_43 := hI41.r 10 rfl
      have e_44 : (F41 10).toInt = (F 10).toInt := hO41
      unfold cb_X6_act_115
      have q_45 := i_rng r41
      refine WP.bind (cs_X6_push hfu r41 F41 G41 hI41) ?_
      rintro r46 F46 G46 ⟨hI46, hB46, hT46, hO46, hp46⟩
      dsimp only
      have q_47 := hI46.r 10 rfl
      have e_48 : (F46 10).toInt = (F41 10).toInt := hO46
      unfold cb_X6_act_118
      unfold cb_X6_act_143
      refine WP.ret ?_
      exact ⟨hI46, (KB.tr (KB.tr (KB.rf : KB F G F G) hB41) hB46), (KT.tr (KT.tr (rfl : KT F F) hT41) hT46), (KO.tr (KO.tr (rfl : KO F F) hO41) hO46), trivial⟩
  have l_49 : (17 : Int32).toInt = 17 := rfl
  have e_50 := mt i_eq.mpr (show ¬ (x1 = (17 : Int32)) from c_25)
  refine WP.ite (fun c_51 => ?_) (fun c_51 => ?_)
  · skip
    have l_52 : (89 : Int32).toInt = 89 := rfl
    have e_53 := i_eq.mp (show x1 = (89 : Int32) from c_51)
    unfold cb_X6_act_52
    refine WP.bind (cs_X6_takesTurn hfu F G hI) ?_
    rintro r54 F54 G54 ⟨hI54, hB54, hT54, hO54, hp54⟩
    dsimp only
    have q_55 := hI.r 10 rfl
    have q_56 := hI54.r 10 rfl
    have e_57 : (F54 10).toInt = (F 10).toInt := hO54
    have q_58 := b_rng hp54
    unfold cb_X6_act_56
    refine WP.ite (fun c_59 => ?_) (fun c_59 => ?_)
    · skip
      have l_60 : (0 : Int32).toInt = 0 := rfl
      have e_61 := i_eq.mp (show r54 = (0 : Int32) from c_59)
      unfold cb_X6_act_59
      have l_62 : (1 : Int32).toInt = 1 := rfl
      have q_63 := i_rng x2
      refine WP.bind (cs_X6_stops hfu (1 : Int32) x2 F54 G54 hI54) ?_
      rintro r64 F64 G64 ⟨hI64, hB64, hT64, hO64, hp64⟩
      dsimp only
      have q_65 := hI64.r 10 rfl
      have e_66 : (F64 10).toInt = (F54 10).toInt := hO64
      unfold cb_X6_act_65
      unfold cb_X6_act_143
      refine WP.ret ?_
      exact ⟨hI64, (KB.tr (KB.tr (KB.rf : KB F G F G) hB54) hB64), (KT.tr (KT.tr (rfl : KT F F) hT54) hT64), (KO.tr (KO.tr (rfl : KO F F) hO54) hO64), trivial⟩
    · skip
      have l_67 : (0 : Int32).toInt = 0 := rfl
      have e_68 := mt i_eq.mpr (show ¬ (r54 = (0 : Int32)) from c_59)
      unfold cb_X6_act_143
      refine WP.ret ?_
      exact ⟨hI54, (KB.tr (KB.rf : KB F G F G) hB54), (KT.tr (rfl : KT F F) hT54), (KO.tr (rfl : KO F F) hO54), trivial⟩
  have l_69 : (89 : Int32).toInt = 89 := rfl
  have e_70 := mt i_eq.mpr (show ¬ (x1 = (89 : Int32)) from c_51)
  refine WP.ite (fun c_71 => ?_) (fun c_71 => ?_)
  · skip
    have l_72 : (90 : Int32).toInt = 90 := rfl
    have e_73 := i_eq.mp (show x1 = (90 : Int32) from c_71)
    unfold cb_X6_act_68
    have q_74 := i_rng x2
    refine WP.bind (cs_X6_call hfu x2 F G hI) ?_
    rintro r75 F75 G75 ⟨hI75, hB75, hT75, hO75, hp75⟩
    dsimp only
    have q_76 := hI.r 10 rfl
    have q_77 := hI75.r 10 rfl
    have e_78 : (F75 10).toInt = (F 10).toInt := hO75
    unfold cb_X6_act_73
    unfold cb_X6_act_143
    refine WP.ret ?_
    exact ⟨hI75, (KB.tr (KB.rf : KB F G F G) hB75), (KT.tr (rfl : KT F F) hT75), (KO.tr (rfl : KO F F) hO75), trivial⟩
  have l_79 : (90 : Int32).toInt = 90 := rfl
  have e_80 := mt i_eq.mpr (show ¬ (x1 = (90 : Int32)) from c_71)
  unfold cb_X6_act_130
  refine WP.bind (cs_X6_pop hfu F G hI) ?_
  rintro r81 F81 G81 ⟨hI81, hB81, hT81, hO81, hp81⟩
  dsimp only
  have q_82 := hI.r 10 rfl
  have q_83 := hI81.r 10 rfl
  have e_84 : (F81 10).toInt = (F 10).toInt := hO81
  unfold cb_X6_act_135
  have q_85 := i_rng r81
  have j_86 : CI (fup F81 65 r81) G81 := CI.fr rfl hI81
  unfold cb_X6_act_138
  have l_87 : (4 : Int32).toInt = 4 := rfl
  refine WP.bind (cs_X6_over hfu (4 : Int32) (fup F81 65 r81) G81 j_86) ?_
  rintro r88 F88 G88 ⟨hI88, hB88, hT88, hO88, hp88⟩
  dsimp only
  have q_89 := hI88.r 10 rfl
  have e_90 : (F88 10).toInt = (F81 10).toInt := hO88
  unfold cb_X6_act_143
  refine WP.ret ?_
  exact ⟨hI88, (KB.tr (KB.f (by decide) (KB.tr (KB.rf : KB F G F G) hB81)) hB88), (KT.tr (KT.f (by decide) (KT.tr (rfl : KT F F) hT81)) hT88), (KO.tr (KO.f (by decide) (KO.tr (rfl : KO F F) hO81)) hO88), trivial⟩
