theorem cs_X5_tell {fu : Nat} (hfu : 8589934592 ≤ fu) (x1 : Int32) (x2 : Int32) (x3 : Int32) (x4 : Int32) (x5 : Int32) (F : PF) (G : PG) (hI : CI F G) : WP (cf_X5_tell fu x1 x2 x3 x4 x5 F G) (fun r' F' G' => CI F' G' ∧ KB F G F' G' ∧ KT F F' ∧ KO F F' ∧ True) := by
  unfold cf_X5_tell
  unfold cb_X5_tell_0
  refine WP.ite (fun c_1 => ?_) (fun c_1 => ?_)
  · skip
    have q_2 := hI.r 45 rfl
    have l_3 : (0 : Int32).toInt = 0 := rfl
    have e_4 := i_eq.mp (show (F 45) = (0 : Int32) from c_1)
    unfold cb_X5_tell_7
    refine WP.ret ?_
    exact ⟨hI, (KB.rf : KB F G F G), (rfl : KT F F), (rfl : KO F F), trivial⟩
  · skip
    have q_5 := hI.r 45 rfl
    have l_6 : (0 : Int32).toInt = 0 := rfl
    have e_7 := mt i_eq.mpr (show ¬ ((F 45) = (0 : Int32)) from c_1)
    unfold cb_X5_tell_8
    have q_8 := i_rng x1
    refine WP.bind (cs_X5_known hfu x1 F G hI) ?_
    rintro r9 _ _ ⟨rfl, rfl, hp9⟩
    dsimp only
    unfold cb_X5_tell_13
    refine WP.ite (fun c_10 => ?_) (fun c_10 => ?_)
    · skip
      have q_11 := i_rng r9
      have e_12 := i_lt.mp (show r9 < (0 : Int32) from c_10)
      unfold cb_X5_tell_47
      unfold cb_X5_tell_48
      refine WP.ite (fun _ => ?_) (fun c_13 => absurd (by decide) c_13)
      unfold cb_X5_tell_81
      unfold cb_X5_tell_82
      refine WP.ite (fun _ => ?_) (fun c_14 => absurd (by decide) c_14)
      unfold cb_X5_tell_103
      have q_15 := i_rng x2
      have q_16 := i_rng x3
      have q_17 := i_rng x4
      have q_18 := i_rng x5
      refine WP.bind (cs_X5_install hfu x1 x2 x3 x4 x5 F G hI) ?_
      rintro r19 F19 G19 ⟨hI19, hB19, hT19, hO19, hp19⟩
      dsimp only
      have q_20 := hI.r 10 rfl
      have q_21 := hI19.r 10 rfl
      have e_22 : (F19 10).toInt = (F 10).toInt := hO19
      unfold cb_X5_tell_114
      refine WP.ret ?_
      exact ⟨hI19, (KB.tr (KB.rf : KB F G F G) hB19), (KT.tr (rfl : KT F F) hT19), (KO.tr (rfl : KO F F) hO19), trivial⟩
    · skip
      have q_23 := i_rng r9
      have e_24 := mt i_lt.mpr (show ¬ (r9 < (0 : Int32)) from c_10)
      unfold cb_X5_tell_20
      refine WP.ite (fun c_25 => ?_) (fun c_25 => ?_)
      · skip
        have q_26 := hI.r 41 rfl
        have e_27 := i_le.mp (show (F 41) ≤ r9 from c_25)
        unfold cb_X5_tell_47
        unfold cb_X5_tell_48
        refine WP.ite (fun _ => ?_) (fun c_28 => absurd (by decide) c_28)
        unfold cb_X5_tell_81
        unfold cb_X5_tell_82
        refine WP.ite (fun _ => ?_) (fun c_29 => absurd (by decide) c_29)
        unfold cb_X5_tell_103
        have q_30 := i_rng x2
        have q_31 := i_rng x3
        have q_32 := i_rng x4
        have q_33 := i_rng x5
        refine WP.bind (cs_X5_install hfu x1 x2 x3 x4 x5 F G hI) ?_
        rintro r34 F34 G34 ⟨hI34, hB34, hT34, hO34, hp34⟩
        dsimp only
        have q_35 := hI.r 10 rfl
        have q_36 := hI34.r 10 rfl
        have e_37 : (F34 10).toInt = (F 10).toInt := hO34
        unfold cb_X5_tell_114
        refine WP.ret ?_
        exact ⟨hI34, (KB.tr (KB.rf : KB F G F G) hB34), (KT.tr (rfl : KT F F) hT34), (KO.tr (rfl : KO F F) hO34), trivial⟩
      · skip
        have q_38 := hI.r 41 rfl
        have e_39 := mt i_le.mpr (show ¬ ((F 41) ≤ r9) from c_25)
        unfold cb_X5_tell_29
        refine WP.ix (show vp_in r9 700 from vp_in_iff.mpr ⟨by omega, by omega⟩) ?_
        refine WP.ite (fun c_40 => ?_) (fun c_40 => ?_)
        · skip
          have q_41 := i_rng (G 34 r9.toNatClampNeg)
          have q_42 := i_rng (F 42)
          have e_43 := i_eq.mp (show (G 34 r9.toNatClampNeg) = (F 42) from c_40)
          unfold cb_X5_tell_43
          unfold cb_X5_tell_48
          refine WP.ite (fun c_44 => absurd c_44 (by decide)) (fun _ => ?_)
          unfold cb_X5_tell_55
          refine WP.ix (show vp_in r9 700 from vp_in_iff.mpr ⟨by omega, by omega⟩) ?_
          refine WP.ite (fun c_45 => ?_) (fun c_45 => ?_)
          · skip
            have q_46 := i_rng (G 35 r9.toNatClampNeg)
            have l_47 : (4 : Int32).toInt = 4 := rfl
            have e_48 := i_eq.mp (show (G 35 r9.toNatClampNeg) = (4 : Int32) from c_45)
            unfold cb_X5_tell_66
            refine WP.ix (show vp_in r9 700 from vp_in_iff.mpr ⟨by omega, by omega⟩) ?_
            refine WP.ite (fun c_49 => ?_) (fun c_49 => ?_)
            · skip
              have q_50 := i_rng (G 36 r9.toNatClampNeg)
              have q_51 := i_rng x2
              have e_52 := i_le.mp (show (G 36 r9.toNatClampNeg) ≤ x2 from c_49)
              unfold cb_X5_tell_81
              unfold cb_X5_tell_82
              refine WP.ite (fun c_53 => absurd c_53 (by decide)) (fun _ => ?_)
              unfold cb_X5_tell_89
              refine WP.ite (fun _ => ?_) (fun c_54 => absurd (by decide) c_54)
              unfold cb_X5_tell_94
              have l_55 : (1 : Int32).toInt = 1 := rfl
              refine WP.bind (cs_X5_note hfu (1 : Int32) x2 F G hI) ?_
              rintro r56 F56 G56 ⟨hI56, hB56, hT56, hO56, hp56⟩
              dsimp only
              have q_57 := hI.r 10 rfl
              have q_58 := hI56.r 10 rfl
              have e_59 : (F56 10).toInt = (F 10).toInt := hO56
              unfold cb_X5_tell_100
              unfold cb_X5_tell_114
              refine WP.ret ?_
              exact ⟨hI56, (KB.tr (KB.rf : KB F G F G) hB56), (KT.tr (rfl : KT F F) hT56), (KO.tr (rfl : KO F F) hO56), trivial⟩
            · skip
              have q_60 := i_rng (G 36 r9.toNatClampNeg)
              have q_61 := i_rng x2
              have e_62 := mt i_le.mpr (show ¬ ((G 36 r9.toNatClampNeg) ≤ x2) from c_49)
              unfold cb_X5_tell_77
              unfold cb_X5_tell_82
              refine WP.ite (fun c_63 => absurd c_63 (by decide)) (fun _ => ?_)
              unfold cb_X5_tell_89
              refine WP.ite (fun c_64 => absurd c_64 (by decide)) (fun _ => ?_)
              unfold cb_X5_tell_103
              have q_65 := i_rng x3
              have q_66 := i_rng x4
              have q_67 := i_rng x5
              refine WP.bind (cs_X5_install hfu x1 x2 x3 x4 x5 F G hI) ?_
              rintro r68 F68 G68 ⟨hI68, hB68, hT68, hO68, hp68⟩
              dsimp only
              have q_69 := hI.r 10 rfl
              have q_70 := hI68.r 10 rfl
              have e_71 : (F68 10).toInt = (F 10).toInt := hO68
              unfold cb_X5_tell_114
              refine WP.ret ?_
              exact ⟨hI68, (KB.tr (KB.rf : KB F G F G) hB68), (KT.tr (rfl : KT F F) hT68), (KO.tr (rfl : KO F F) hO68), trivial⟩
          · skip
            have q_72 := i_rng (G 35 r9.toNatClampNeg)
            have l_73 : (4 : Int32).toInt = 4 := rfl
            have e_74 := mt i_eq.mpr (show ¬ ((G 35 r9.toNatClampNeg) = (4 : Int32)) from c_45)
            unfold cb_X5_tell_81
            unfold cb_X5_tell_82
            refine WP.ite (fun c_75 => absurd c_75 (by decide)) (fun _ => ?_)
            unfold cb_X5_tell_89
            refine WP.ite (fun _ => ?_) (fun c_76 => absurd (by decide) c_76)
            unfold cb_X5_tell_94
            have l_77 : (1 : Int32).toInt = 1 := rfl
            have q_78 := i_rng x2
            refine WP.bind (cs_X5_note hfu (1 : Int32) x2 F G hI) ?_
            rintro r79 F79 G79 ⟨hI79, hB79, hT79, hO79, hp79⟩
            dsimp only
            have q_80 := hI.r 10 rfl
            have q_81 := hI79.r 10 rfl
            have e_82 : (F79 10).toInt = (F 10).toInt := hO79
            unfold cb_X5_tell_100
            unfold cb_X5_tell_114
            refine WP.ret ?_
            exact ⟨hI79, (KB.tr (KB.rf : KB F G F G) hB79), (KT.tr (rfl : KT F F) hT79), (KO.tr (rfl : KO F F) hO79), trivial⟩
        · skip
          have q_83 := i_rng (G 34 r9.toNatClampNeg)
          have q_84 := i_rng (F 42)
          have e_85 := mt i_eq.mpr (show ¬ ((G 34 r9.toNatClampNeg) = (F 42)) from c_40)
          unfold cb_X5_tell_47
          unfold cb_X5_tell_48
          refine WP.ite (fun _ => ?_) (fun c_86 => absurd (by decide) c_86)
          unfold cb_X5_tell_81
          unfold cb_X5_tell_82
          refine WP.ite (fun _ => ?_) (fun c_87 => absurd (by decide) c_87)
          unfold cb_X5_tell_103
          have q_88 := i_rng x2
          have q_89 := i_rng x3
          have q_90 := i_rng x4
          have q_91 := i_rng x5
          refine WP.bind (cs_X5_install hfu x1 x2 x3 x4 x5 F G hI) ?_
          rintro r92 F92 G92 ⟨hI92, hB92, hT92, hO92, hp92⟩
          dsimp only
          have q_93 := hI.r 10 rfl
          have q_94 := hI92.r 10 rfl
          have e_95 : (F92 10).toInt = (F 10).toInt := hO92
          unfold cb_X5_tell_114
          refine WP.ret ?_
          exact ⟨hI92, (KB.tr (KB.rf : KB F G F G) hB92), (KT.tr (rfl : KT F F) hT92), (KO.tr (rfl : KO F F) hO92), trivial⟩
theorem cs_X5_localRoom {fu : Nat} (hfu : 8589934592 ≤ fu) (x1 : Int32) (x2 : Int32) (F : PF) (G : PG) (hI : CI F G) : WP (cf_X5_localRoom fu x1 x2 F G) (fun r' F' G' => CI F' G' ∧ KB F G F' G' ∧ KT F F' ∧ KO F F' ∧ True) := by
  unfold cf_X5_localRoom
  unfold cb_X5_localRoom_0
  refine WP.bind (cs_X5_measure hfu F G hI) ?_
  rintro r1 _ _ ⟨rfl, rfl, hp1⟩
  dsimp only
  unfold cb_X5_localRoom_4
  have q_2 := i_rng (F 50)
  have q_3 := i_rng x1
  obtain ⟨k_4, e_5, e_6⟩ := i_add (F 50) x1
  have j_7 : CI (fup F 50 ((F 50) + x1)) G := CI.fr rfl hI
  unfold cb_X5_localRoom_15
  refine WP.ite (fun c_8 => ?_) (fun c_8 => ?_)
  · skip
    have l_9 : (200 : Int32).toInt = 200 := rfl
    have e_10 := i_le.mp (show ((F 50) + x1) ≤ (200 : Int32) from c_8)
    unfold cb_X5_localRoom_32
    refine WP.ret ?_
    exact ⟨j_7, (KB.f (by decide) (KB.rf : KB F G F G)), (KT.f (by decide) (rfl : KT F F)), (KO.f (by decide) (rfl : KO F F)), trivial⟩
  · skip
    have l_11 : (200 : Int32).toInt = 200 := rfl
    have e_12 := mt i_le.mpr (show ¬ (((F 50) + x1) ≤ (200 : Int32)) from c_8)
    unfold cb_X5_localRoom_25
    have l_13 : (8 : Int32).toInt = 8 := rfl
    have q_14 := i_rng x2
    refine WP.bind (cs_X5_note hfu (8 : Int32) x2 (fup F 50 ((F 50) + x1)) G j_7) ?_
    rintro r15 F15 G15 ⟨hI15, hB15, hT15, hO15, hp15⟩
    dsimp only
    have q_16 := hI.r 10 rfl
    have q_17 := hI15.r 10 rfl
    have e_18 : (F15 10).toInt = (F 10).toInt := hO15
    unfold cb_X5_localRoom_32
    refine WP.ret ?_
    exact ⟨hI15, (KB.tr (KB.f (by decide) (KB.rf : KB F G F G)) hB15), (KT.tr (KT.f (by decide) (rfl : KT F F)) hT15), (KO.tr (KO.f (by decide) (rfl : KO F F)) hO15), trivial⟩
theorem cs_X4_localInt {fu : Nat} (hfu : 8589934592 ≤ fu) (x1 : Int32) (x2 : Int32) (F : PF) (G : PG) (hI : CI F G) : WP (cf_X4_localInt fu x1 x2 F G) (fun r' F' G' => CI F' G' ∧ KB F G F' G' ∧ KT F F' ∧ KO F F' ∧ True) := by
  unfold cf_X4_localInt
  unfold cb_X4_localInt_0
  have l_1 : (1 : Int32).toInt = 1 := rfl
  have q_2 := i_rng x2
  refine WP.bind (cs_X5_localRoom hfu (1 : Int32) x2 F G hI) ?_
  rintro r3 F3 G3 ⟨hI3, hB3, hT3, hO3, hp3⟩
  dsimp only
  have q_4 := hI.r 10 rfl
  have q_5 := hI3.r 10 rfl
  have e_6 : (F3 10).toInt = (F 10).toInt := hO3
  unfold cb_X4_localInt_9
  have l_7 : (72 : Int32).toInt = 72 := rfl
  have q_8 := i_rng r3
  refine WP.bind (cs_X1_addPair hfu (72 : Int32) r3 F3 G3 hI3) ?_
  rintro r9 F9 G9 ⟨hI9, hB9, hT9, hO9, hp9⟩
  dsimp only
  have q_10 := hI9.r 10 rfl
  have e_11 : (F9 10).toInt = (F3 10).toInt := hO9
  unfold cb_X4_localInt_20
  have q_12 := i_rng x1
  have l_13 : (0 : Int32).toInt = 0 := rfl
  refine WP.bind (cs_X5_tell hfu x1 x2 (1 : Int32) r3 (0 : Int32) F9 G9 hI9) ?_
  rintro r14 F14 G14 ⟨hI14, hB14, hT14, hO14, hp14⟩
  dsimp only
  have q_15 := hI14.r 10 rfl
  have e_16 : (F14 10).toInt = (F9 10).toInt := hO14
  unfold cb_X4_localInt_32
  refine WP.ret ?_
  exact ⟨hI14, (KB.tr (KB.tr (KB.tr (KB.rf : KB F G F G) hB3) hB9) hB14), (KT.tr (KT.tr (KT.tr (rfl : KT F F) hT3) hT9) hT14), (KO.tr (KO.tr (KO.tr (rfl : KO F F) hO3) hO9) hO14), trivial⟩
theorem cs_X4_wordsOf {fu : Nat} (hfu : 8589934592 ≤ fu) (x0 : Int32) (x1 : Int32) (F : PF) (G : PG) (hI : CI F G) : WP (cf_X4_wordsOf fu x0 x1 F G) (fun r' F' G' => F = F' ∧ G = G' ∧ True) := by
  unfold cf_X4_wordsOf
  unfold cb_X4_wordsOf_0
  refine WP.ite (fun c_1 => ?_) (fun c_1 => ?_)
  · skip
    have q_2 := i_rng x0
    have l_3 : (2 : Int32).toInt = 2 := rfl
    have e_4 := i_eq.mp (show x0 = (2 : Int32) from c_1)
    unfold cb_X4_wordsOf_5
    unfold cb_X4_wordsOf_14
    refine WP.ret ?_
    exact ⟨rfl, rfl, trivial⟩
  · skip
    have q_5 := i_rng x0
    have l_6 : (2 : Int32).toInt = 2 := rfl
    have e_7 := mt i_eq.mpr (show ¬ (x0 = (2 : Int32)) from c_1)
    unfold cb_X4_wordsOf_9
    unfold cb_X4_wordsOf_14
    refine WP.ret ?_
    exact ⟨rfl, rfl, trivial⟩
theorem cs_X4_localArray {fu : Nat} (hfu : 8589934592 ≤ fu) (x1 : Int32) (x2 : Int32) (x3 : Int32) (x4 : Int32) (F : PF) (G : PG) (hI : CI F G) : WP (cf_X4_localArray fu x1 x2 x3 x4 F G) (fun r' F' G' => CI F' G' ∧ KB F G F' G' ∧ KT F F' ∧ KO F F' ∧ True) := by
  unfold cf_X4_localArray
  unfold cb_X4_localArray_0
  have q_1 := i_rng x3
  have q_2 := i_rng x4
  refine WP.bind (cs_X4_wordsOf hfu x3 x4 F G hI) ?_
  rintro r3 _ _ ⟨rfl, rfl, hp3⟩
  dsimp only
  unfold cb_X4_localArray_6
  have q_4 := i_rng r3
  have q_5 := i_rng x2
  refine WP.bind (cs_X5_localRoom hfu r3 x2 F G hI) ?_
  rintro r6 F6 G6 ⟨hI6, hB6, hT6, hO6, hp6⟩
  dsimp only
  have q_7 := hI.r 10 rfl
  have q_8 := hI6.r 10 rfl
  have e_9 : (F6 10).toInt = (F 10).toInt := hO6
  unfold cb_X4_localArray_18
  have l_10 : (73 : Int32).toInt = 73 := rfl
  have q_11 := i_rng r6
  refine WP.bind (cs_X1_addPair hfu (73 : Int32) r6 F6 G6 hI6) ?_
  rintro r12 F12 G12 ⟨hI12, hB12, hT12, hO12, hp12⟩
  dsimp only
  have q_13 := hI12.r 10 rfl
  have e_14 : (F12 10).toInt = (F6 10).toInt := hO12
  unfold cb_X4_localArray_31
  refine WP.bind (cs_X1_add hfu r3 F12 G12 hI12) ?_
  rintro r15 F15 G15 ⟨hI15, hB15, hT15, hO15, hp15⟩
  dsimp only
  have q_16 := hI15.r 10 rfl
  have e_17 : (F15 10).toInt = (F12 10).toInt := hO15
  have q_18 := hI12.r 21 rfl
  have q_19 := hI15.r 21 rfl
  have e_20 : (F15 21).toInt = (F12 21).toInt := congrArg Int32.toInt hp15
  unfold cb_X4_localArray_40
  have q_21 := i_rng x1
  refine WP.bind (cs_X5_tell hfu x1 x2 x3 r6 x4 F15 G15 hI15) ?_
  rintro r22 F22 G22 ⟨hI22, hB22, hT22, hO22, hp22⟩
  dsimp only
  have q_23 := hI22.r 10 rfl
  have e_24 : (F22 10).toInt = (F15 10).toInt := hO22
  unfold cb_X4_localArray_54
  refine WP.ret ?_
  exact ⟨hI22, (KB.tr (KB.tr (KB.tr (KB.tr (KB.rf : KB F G F G) hB6) hB12) hB15) hB22), (KT.tr (KT.tr (KT.tr (KT.tr (rfl : KT F F) hT6) hT12) hT15) hT22), (KO.tr (KO.tr (KO.tr (KO.tr (rfl : KO F F) hO6) hO12) hO15) hO22), trivial⟩
theorem cs_X4_localTold {fu : Nat} (hfu : 8589934592 ≤ fu) (x1 : Int32) (F : PF) (G : PG) (hI : CI F G) (hz_x1 : x1 = 0 ∨ x1 = 1) : WP (cf_X4_localTold fu x1 F G) (fun r' F' G' => CI F' G' ∧ KB F G F' G' ∧ KT F F' ∧ KO F F' ∧ True) := by
  have q_x1 := b_rng hz_x1
  unfold cf_X4_localTold
  unfold cb_X4_localTold_0
  refine WP.bind (cs_X2_next hfu F G hI) ?_
  rintro r1 F1 G1 ⟨hI1, hB1, hT1, hO1, hp1⟩
  dsimp only
  have q_2 := hI.r 10 rfl
  have q_3 := hI1.r 10 rfl
  have e_4 : (F1 10).toInt = (F 10).toInt := hO1
  unfold cb_X4_localTold_15
  have l_5 : (2 : Int32).toInt = 2 := rfl
  refine WP.bind (cs_X2_expect hfu (2 : Int32) F1 G1 hI1) ?_
  rintro r6 F6 G6 ⟨hI6, hB6, hT6, hO6, hp6⟩
  dsimp only
  have q_7 := hI6.r 10 rfl
  have e_8 : (F6 10).toInt = (F1 10).toInt := hO6
  unfold cb_X4_localTold_40
  refine WP.ite (fun c_9 => ?_) (fun c_9 => ?_)
  · skip
    have q_10 := i_rng x1
    have l_11 : (0 : Int32).toInt = 0 := rfl
    have e_12 := i_eq.mp (show x1 = (0 : Int32) from c_9)
    unfold cb_X4_localTold_67
    refine WP.ite (fun c_13 => ?_) (fun c_13 => ?_)
    · skip
      have q_14 := i_rng (F6 11)
      have l_15 : (21 : Int32).toInt = 21 := rfl
      have e_16 := i_eq.mp (show (F6 11) = (21 : Int32) from c_13)
      unfold cb_X4_localTold_84
      refine WP.bind (cs_X3_arraySize hfu F6 G6 hI6) ?_
      rintro r17 F17 G17 ⟨hI17, hB17, hT17, hO17, hp17⟩
      dsimp only
      have q_18 := hI17.r 10 rfl
      have e_19 : (F17 10).toInt = (F6 10).toInt := hO17
      unfold cb_X4_localTold_91
      refine WP.ite (fun c_20 => ?_) (fun c_20 => ?_)
      · skip
        have q_21 := i_rng (F 11)
        have l_22 : (4 : Int32).toInt = 4 := rfl
        have e_23 := i_eq.mp (show (F 11) = (4 : Int32) from c_20)
        unfold cb_X4_localTold_102
        unfold cb_X4_localTold_107
        have q_24 := i_rng (F1 12)
        have q_25 := i_rng (F1 13)
        have q_26 := i_rng r17
        refine WP.bind (cs_X4_localArray hfu (F1 12) (F1 13) (2 : Int32) r17 F17 G17 hI17) ?_
        rintro r27 F27 G27 ⟨hI27, hB27, hT27, hO27, hp27⟩
        dsimp only
        have q_28 := hI27.r 10 rfl
        have e_29 : (F27 10).toInt = (F17 10).toInt := hO27
        unfold cb_X4_localTold_112
        unfold cb_X4_localTold_168
        refine WP.ret ?_
        exact ⟨hI27, (KB.tr (KB.tr (KB.tr (KB.tr (KB.rf : KB F G F G) hB1) hB6) hB17) hB27), (KT.tr (KT.tr (KT.tr (KT.tr (rfl : KT F F) hT1) hT6) hT17) hT27), (KO.tr (KO.tr (KO.tr (KO.tr (rfl : KO F F) hO1) hO6) hO17) hO27), trivial⟩
      · skip
        have q_30 := i_rng (F 11)
        have l_31 : (4 : Int32).toInt = 4 := rfl
        have e_32 := mt i_eq.mpr (show ¬ ((F 11) = (4 : Int32)) from c_20)
        unfold cb_X4_localTold_106
        unfold cb_X4_localTold_107
        have q_33 := i_rng (F1 12)
        have q_34 := i_rng (F1 13)
        have l_35 : (3 : Int32).toInt = 3 := rfl
        have q_36 := i_rng r17
        refine WP.bind (cs_X4_localArray hfu (F1 12) (F1 13) (3 : Int32) r17 F17 G17 hI17) ?_
        rintro r37 F37 G37 ⟨hI37, hB37, hT37, hO37, hp37⟩
        dsimp only
        have q_38 := hI37.r 10 rfl
        have e_39 : (F37 10).toInt = (F17 10).toInt := hO37
        unfold cb_X4_localTold_112
        unfold cb_X4_localTold_168
        refine WP.ret ?_
        exact ⟨hI37, (KB.tr (KB.tr (KB.tr (KB.tr (KB.rf : KB F G F G) hB1) hB6) hB17) hB37), (KT.tr (KT.tr (KT.tr (KT.tr (rfl : KT F F) hT1) hT6) hT17) hT37), (KO.tr (KO.tr (KO.tr (KO.tr (rfl : KO F F) hO1) hO6) hO17) hO37), trivial⟩
    · skip
      have q_40 := i_rng (F6 11)
      have l_41 : (21 : Int32).toInt = 21 := rfl
      have e_42 := mt i_eq.mpr (show ¬ ((F6 11) = (21 : Int32)) from c_13)
      unfold cb_X4_localTold_79
      refine WP.ite (fun c_43 => ?_) (fun c_43 => ?_)
      · skip
        have q_44 := i_rng (F 11)
        have l_45 : (5 : Int32).toInt = 5 := rfl
        have e_46 := i_eq.mp (show (F 11) = (5 : Int32) from c_43)
        unfold cb_X4_localTold_84
        refine WP.bind (cs_X3_arraySize hfu F6 G6 hI6) ?_
        rintro r47 F47 G47 ⟨hI47, hB47, hT47, hO47, hp47⟩
        dsimp only
        have q_48 := hI47.r 10 rfl
        have e_49 : (F47 10).toInt = (F6 10).toInt := hO47
        unfold cb_X4_localTold_91
        refine WP.ite (fun c_50 => ?_) (fun c_50 => ?_)
        · skip
          have l_51 : (4 : Int32).toInt = 4 := rfl
          have e_52 := i_eq.mp (show (F 11) = (4 : Int32) from c_50)
          unfold cb_X4_localTold_102
          unfold cb_X4_localTold_107
          have q_53 := i_rng (F1 12)
          have q_54 := i_rng (F1 13)
          have q_55 := i_rng r47
          refine WP.bind (cs_X4_localArray hfu (F1 12) (F1 13) (2 : Int32) r47 F47 G47 hI47) ?_
          rintro r56 F56 G56 ⟨hI56, hB56, hT56, hO56, hp56⟩
          dsimp only
          have q_57 := hI56.r 10 rfl
          have e_58 : (F56 10).toInt = (F47 10).toInt := hO56
          unfold cb_X4_localTold_112
          unfold cb_X4_localTold_168
          refine WP.ret ?_
          exact ⟨hI56, (KB.tr (KB.tr (KB.tr (KB.tr (KB.rf : KB F G F G) hB1) hB6) hB47) hB56), (KT.tr (KT.tr (KT.tr (KT.tr (rfl : KT F F) hT1) hT6) hT47) hT56), (KO.tr (KO.tr (KO.tr (KO.tr (rfl : KO F F) hO1) hO6) hO47) hO56), trivial⟩
        · skip
          have l_59 : (4 : Int32).toInt = 4 := rfl
          have e_60 := mt i_eq.mpr (show ¬ ((F 11) = (4 : Int32)) from c_50)
          unfold cb_X4_localTold_106
          unfold cb_X4_localTold_107
          have q_61 := i_rng (F1 12)
          have q_62 := i_rng (F1 13)
          have l_63 : (3 : Int32).toInt = 3 := rfl
          have q_64 := i_rng r47
          refine WP.bind (cs_X4_localArray hfu (F1 12) (F1 13) (3 : Int32) r47 F47 G47 hI47) ?_
          rintro r65 F65 G65 ⟨hI65, hB65, hT65, hO65, hp65⟩
          dsimp only
          have q_66 := hI65.r 10 rfl
          have e_67 : (F65 10).toInt = (F47 10).toInt := hO65
          unfold cb_X4_localTold_112
          unfold cb_X4_localTold_168
          refine WP.ret ?_
          exact ⟨hI65, (KB.tr (KB.tr (KB.tr (KB.tr (KB.rf : KB F G F G) hB1) hB6) hB47) hB65), (KT.tr (KT.tr (KT.tr (KT.tr (rfl : KT F F) hT1) hT6) hT47) hT65), (KO.tr (KO.tr (KO.tr (KO.tr (rfl : KO F F) hO1) hO6) hO47) hO65), trivial⟩
      · skip
        have q_68 := i_rng (F 11)
        have l_69 : (5 : Int32).toInt = 5 := rfl
        have e_70 := mt i_eq.mpr (show ¬ ((F 11) = (5 : Int32)) from c_43)
        unfold cb_X4_localTold_115
        refine WP.ite (fun c_71 => ?_) (fun c_71 => ?_)
        · skip
          have l_72 : (29 : Int32).toInt = 29 := rfl
          have e_73 := i_eq.mp (show (F6 11) = (29 : Int32) from c_71)
          unfold cb_X4_localTold_127
          refine WP.bind (cs_X2_next hfu F6 G6 hI6) ?_
          rintro r74 F74 G74 ⟨hI74, hB74, hT74, hO74, hp74⟩
          dsimp only
          have q_75 := hI74.r 10 rfl
          have e_76 : (F74 10).toInt = (F6 10).toInt := hO74
          unfold cb_X4_localTold_134
          refine WP.bind (cs_X3_expression hfu F74 G74 hI74) ?_
          rintro r77 F77 G77 ⟨hI77, hB77, hT77, hO77, hp77⟩
          dsimp only
          have q_78 := hI77.r 10 rfl
          have e_79 : (F77 10).toInt = (F74 10).toInt := hO77
          unfold cb_X4_localTold_141
          have q_80 := i_rng (F1 12)
          have q_81 := i_rng (F1 13)
          refine WP.bind (cs_X4_localInt hfu (F1 12) (F1 13) F77 G77 hI77) ?_
          rintro r82 F82 G82 ⟨hI82, hB82, hT82, hO82, hp82⟩
          dsimp only
          have q_83 := hI82.r 10 rfl
          have e_84 : (F82 10).toInt = (F77 10).toInt := hO82
          unfold cb_X4_localTold_148
          unfold cb_X4_localTold_168
          refine WP.ret ?_
          exact ⟨hI82, (KB.tr (KB.tr (KB.tr (KB.tr (KB.tr (KB.rf : KB F G F G) hB1) hB6) hB74) hB77) hB82), (KT.tr (KT.tr (KT.tr (KT.tr (KT.tr (rfl : KT F F) hT1) hT6) hT74) hT77) hT82), (KO.tr (KO.tr (KO.tr (KO.tr (KO.tr (rfl : KO F F) hO1) hO6) hO74) hO77) hO82), trivial⟩
        · skip
          have l_85 : (29 : Int32).toInt = 29 := rfl
          have e_86 := mt i_eq.mpr (show ¬ ((F6 11) = (29 : Int32)) from c_71)
          unfold cb_X4_localTold_151
          have l_87 : (66 : Int32).toInt = 66 := rfl
          refine WP.bind (cs_X1_addPair hfu (66 : Int32) (0 : Int32) F6 G6 hI6) ?_
          rintro r88 F88 G88 ⟨hI88, hB88, hT88, hO88, hp88⟩
          dsimp only
          have q_89 := hI88.r 10 rfl
          have e_90 : (F88 10).toInt = (F6 10).toInt := hO88
          unfold cb_X4_localTold_161
          have q_91 := i_rng (F1 12)
          have q_92 := i_rng (F1 13)
          refine WP.bind (cs_X4_localInt hfu (F1 12) (F1 13) F88 G88 hI88) ?_
          rintro r93 F93 G93 ⟨hI93, hB93, hT93, hO93, hp93⟩
          dsimp only
          have q_94 := hI93.r 10 rfl
          have e_95 : (F93 10).toInt = (F88 10).toInt := hO93
          unfold cb_X4_localTold_168
          refine WP.ret ?_
          exact ⟨hI93, (KB.tr (KB.tr (KB.tr (KB.tr (KB.rf : KB F G F G) hB1) hB6) hB88) hB93), (KT.tr (KT.tr (KT.tr (KT.tr (rfl : KT F F) hT1) hT6) hT88) hT93), (KO.tr (KO.tr (KO.tr (KO.tr (rfl : KO F F) hO1) hO6) hO88) hO93), trivial⟩
  · skip
    have q_96 := i_rng x1
    have l_97 : (0 : Int32).toInt = 0 := rfl
    have e_98 := mt i_eq.mpr (show ¬ (x1 = (0 : Int32)) from c_9)
    unfold cb_X4_localTold_44
    refine WP.ite (fun c_99 => ?_) (fun c_99 => ?_)
    · skip
      have q_100 := i_rng (F6 11)
      have l_101 : (29 : Int32).toInt = 29 := rfl
      have e_102 := i_eq.mp (show (F6 11) = (29 : Int32) from c_99)
      unfold cb_X4_localTold_67
      refine WP.ite (fun c_103 => ?_) (fun c_103 => ?_)
      · skip
        have l_104 : (21 : Int32).toInt = 21 := rfl
        have e_105 := i_eq.mp (show (F6 11) = (21 : Int32) from c_103)
        unfold cb_X4_localTold_84
        refine WP.bind (cs_X3_arraySize hfu F6 G6 hI6) ?_
        rintro r106 F106 G106 ⟨hI106, hB106, hT106, hO106, hp106⟩
        dsimp only
        have q_107 := hI106.r 10 rfl
        have e_108 : (F106 10).toInt = (F6 10).toInt := hO106
        unfold cb_X4_localTold_91
        refine WP.ite (fun c_109 => ?_) (fun c_109 => ?_)
        · skip
          have q_110 := i_rng (F 11)
          have l_111 : (4 : Int32).toInt = 4 := rfl
          have e_112 := i_eq.mp (show (F 11) = (4 : Int32) from c_109)
          unfold cb_X4_localTold_102
          unfold cb_X4_localTold_107
          have q_113 := i_rng (F1 12)
          have q_114 := i_rng (F1 13)
          have q_115 := i_rng r106
          refine WP.bind (cs_X4_localArray hfu (F1 12) (F1 13) (2 : Int32) r106 F106 G106 hI106) ?_
          rintro r116 F116 G116 ⟨hI116, hB116, hT116, hO116, hp116⟩
          dsimp only
          have q_117 := hI116.r 10 rfl
          have e_118 : (F116 10).toInt = (F106 10).toInt := hO116
          unfold cb_X4_localTold_112
          unfold cb_X4_localTold_168
          refine WP.ret ?_
          exact ⟨hI116, (KB.tr (KB.tr (KB.tr (KB.tr (KB.rf : KB F G F G) hB1) hB6) hB106) hB116), (KT.tr (KT.tr (KT.tr (KT.tr (rfl : KT F F) hT1) hT6) hT106) hT116), (KO.tr (KO.tr (KO.tr (KO.tr (rfl : KO F F) hO1) hO6) hO106) hO116), trivial⟩
        · skip
          have q_119 := i_rng (F 11)
          have l_120 : (4 : Int32).toInt = 4 := rfl
          have e_121 := mt i_eq.mpr (show ¬ ((F 11) = (4 : Int32)) from c_109)
          unfold cb_X4_localTold_106
          unfold cb_X4_localTold_107
          have q_122 := i_rng (F1 12)
          have q_123 := i_rng (F1 13)
          have l_124 : (3 : Int32).toInt = 3 := rfl
          have q_125 := i_rng r106
          refine WP.bind (cs_X4_localArray hfu (F1 12) (F1 13) (3 : Int32) r106 F106 G106 hI106) ?_
          rintro r126 F126 G126 ⟨hI126, hB126, hT126, hO126, hp126⟩
          dsimp only
          have q_127 := hI126.r 10 rfl
          have e_128 : (F126 10).toInt = (F106 10).toInt := hO126
          unfold cb_X4_localTold_112
          unfold cb_X4_localTold_168
          refine WP.ret ?_
          exact ⟨hI126, (KB.tr (KB.tr (KB.tr (KB.tr (KB.rf : KB F G F G) hB1) hB6) hB106) hB126), (KT.tr (KT.tr (KT.tr (KT.tr (rfl : KT F F) hT1) hT6) hT106) hT126), (KO.tr (KO.tr (KO.tr (KO.tr (rfl : KO F F) hO1) hO6) hO106) hO126), trivial⟩
      · skip
        have l_129 : (21 : Int32).toInt = 21 := rfl
        have e_130 := mt i_eq.mpr (show ¬ ((F6 11) = (21 : Int32)) from c_103)
        unfold cb_X4_localTold_79
        refine WP.ite (fun c_131 => ?_) (fun c_131 => ?_)
        · skip
          have q_132 := i_rng (F 11)
          have l_133 : (5 : Int32).toInt = 5 := rfl
          have e_134 := i_eq.mp (show (F 11) = (5 : Int32) from c_131)
          unfold cb_X4_localTold_84
          refine WP.bind (cs_X3_arraySize hfu F6 G6 hI6) ?_
          rintro r135 F135 G135 ⟨hI135, hB135, hT135, hO135, hp135⟩
          dsimp only
          have q_136 := hI135.r 10 rfl
          have e_137 : (F135 10).toInt = (F6 10).toInt := hO135
          unfold cb_X4_localTold_91
          refine WP.ite (fun c_138 => ?_) (fun c_138 => ?_)
          · skip
            have l_139 : (4 : Int32).toInt = 4 := rfl
            have e_140 := i_eq.mp (show (F 11) = (4 : Int32) from c_138)
            unfold cb_X4_localTold_102
            unfold cb_X4_localTold_107
            have q_141 := i_rng (F1 12)
            have q_142 := i_rng (F1 13)
            have q_143 := i_rng r135
            refine WP.bind (cs_X4_localArray hfu (F1 12) (F1 13) (2 : Int32) r135 F135 G135 hI135) ?_
            rintro r144 F144 G144 ⟨hI144, hB144, hT144, hO144, hp144⟩
            dsimp only
            have q_145 := hI144.r 10 rfl
            have e_146 : (F144 10).toInt = (F135 10).toInt := hO144
            unfold cb_X4_localTold_112
            unfold cb_X4_localTold_168
            refine WP.ret ?_
            exact ⟨hI144, (KB.tr (KB.tr (KB.tr (KB.tr (KB.rf : KB F G F G) hB1) hB6) hB135) hB144), (KT.tr (KT.tr (KT.tr (KT.tr (rfl : KT F F) hT1) hT6) hT135) hT144), (KO.tr (KO.tr (KO.tr (KO.tr (rfl : KO F F) hO1) hO6) hO135) hO144), trivial⟩
          · skip
            have l_147 : (4 : Int32).toInt = 4 := rfl
            have e_148 := mt i_eq.mpr (show ¬ ((F 11) = (4 : Int32)) from c_138)
            unfold cb_X4_localTold_106
            unfold cb_X4_localTold_107
            have q_149 := i_rng (F1 12)
            have q_150 := i_rng (F1 13)
            have l_151 : (3 : Int32).toInt = 3 := rfl
            have q_152 := i_rng r135
            refine WP.bind (cs_X4_localArray hfu (F1 12) (F1 13) (3 : Int32) r135 F135 G135 hI135) ?_
            rintro r153 F153 G153 ⟨hI153, hB153, hT153, hO153, hp153⟩
            dsimp only
            have q_154 := hI153.r 10 rfl
            have e_155 : (F153 10).toInt = (F135 10).toInt := hO153
            unfold cb_X4_localTold_112
            unfold cb_X4_localTold_168
            refine WP.ret ?_
            exact ⟨hI153, (KB.tr (KB.tr (KB.tr (KB.tr (KB.rf : KB F G F G) hB1) hB6) hB135) hB153), (KT.tr (KT.tr (KT.tr (KT.tr (rfl : KT F F) hT1) hT6) hT135) hT153), (KO.tr (KO.tr (KO.tr (KO.tr (rfl : KO F F) hO1) hO6) hO135) hO153), trivial⟩
        · skip
          have q_156 := i_rng (F 11)
          have l_157 : (5 : Int32).toInt = 5 := rfl
          have e_158 := mt i_eq.mpr (show ¬ ((F 11) = (5 : Int32)) from c_131)
          unfold cb_X4_localTold_115
          refine WP.ite (fun c_159 => ?_) (fun c_159 => ?_)
          · skip
            have e_160 := i_eq.mp (show (F6 11) = (29 : Int32) from c_159)
            unfold cb_X4_localTold_127
            refine WP.bind (cs_X2_next hfu F6 G6 hI6) ?_
            rintro r161 F161 G161 ⟨hI161, hB161, hT161, hO161, hp161⟩
            dsimp only
            have q_162 := hI161.r 10 rfl
            have e_163 : (F161 10).toInt = (F6 10).toInt := hO161
            unfold cb_X4_localTold_134
            refine WP.bind (cs_X3_expression hfu F161 G161 hI161) ?_
            rintro r164 F164 G164 ⟨hI164, hB164, hT164, hO164, hp164⟩
            dsimp only
            have q_165 := hI164.r 10 rfl
            have e_166 : (F164 10).toInt = (F161 10).toInt := hO164
            unfold cb_X4_localTold_141
            have q_167 := i_rng (F1 12)
            have q_168 := i_rng (F1 13)
            refine WP.bind (cs_X4_localInt hfu (F1 12) (F1 13) F164 G164 hI164) ?_
            rintro r169 F169 G169 ⟨hI169, hB169, hT169, hO169, hp169⟩
            dsimp only
            have q_170 := hI169.r 10 rfl
            have e_171 : (F169 10).toInt = (F164 10).toInt := hO169
            unfold cb_X4_localTold_148
            unfold cb_X4_localTold_168
            refine WP.ret ?_
            exact ⟨hI169, (KB.tr (KB.tr (KB.tr (KB.tr (KB.tr (KB.rf : KB F G F G) hB1) hB6) hB161) hB164) hB169), (KT.tr (KT.tr (KT.tr (KT.tr (KT.tr (rfl : KT F F) hT1) hT6) hT161) hT164) hT169), (KO.tr (KO.tr (KO.tr (KO.tr (KO.tr (rfl : KO F F) hO1) hO6) hO161) hO164) hO169), trivial⟩
          · skip
            have e_172 := mt i_eq.mpr (show ¬ ((F6 11) = (29 : Int32)) from c_159)
            unfold cb_X4_localTold_151
            have l_173 : (66 : Int32).toInt = 66 := rfl
            refine WP.bind (cs_X1_addPair hfu (66 : Int32) (0 : Int32) F6 G6 hI6) ?_
            rintro r174 F174 G174 ⟨hI174, hB174, hT174, hO174, hp174⟩
            dsimp only
            have q_175 := hI174.r 10 rfl
            have e_176 : (F174 10).toInt = (F6 10).toInt := hO174
            unfold cb_X4_localTold_161
            have q_177 := i_rng (F1 12)
            have q_178 := i_rng (F1 13)
            refine WP.bind (cs_X4_localInt hfu (F1 12) (F1 13) F174 G174 hI174) ?_
            rintro r179 F179 G179 ⟨hI179, hB179, hT179, hO179, hp179⟩
            dsimp only
            have q_180 := hI179.r 10 rfl
            have e_181 : (F179 10).toInt = (F174 10).toInt := hO179
            unfold cb_X4_localTold_168
            refine WP.ret ?_
            exact ⟨hI179, (KB.tr (KB.tr (KB.tr (KB.tr (KB.rf : KB F G F G) hB1) hB6) hB174) hB179), (KT.tr (KT.tr (KT.tr (KT.tr (rfl : KT F F) hT1) hT6) hT174) hT179), (KO.tr (KO.tr (KO.tr (KO.tr (rfl : KO F F) hO1) hO6) hO174) hO179), trivial⟩
    · skip
      have q_182 := i_rng (F6 11)
      have l_183 : (29 : Int32).toInt = 29 := rfl
      have e_184 := mt i_eq.mpr (show ¬ ((F6 11) = (29 : Int32)) from c_99)
      unfold cb_X4_localTold_56
      refine WP.bind (cs_X2_fail hfu (2 : Int32) F6 G6 hI6) ?_
      rintro r185 F185 G185 ⟨hI185, hB185, hT185, hO185, hp185⟩
      dsimp only
      have q_186 := hI185.r 10 rfl
      have e_187 : (F185 10).toInt = (F6 10).toInt := hO185
      unfold cb_X4_localTold_64
      unfold cb_X4_localTold_168
      refine WP.ret ?_
      exact ⟨hI185, (KB.tr (KB.tr (KB.tr (KB.rf : KB F G F G) hB1) hB6) hB185), (KT.tr (KT.tr (KT.tr (rfl : KT F F) hT1) hT6) hT185), (KO.tr (KO.tr (KO.tr (rfl : KO F F) hO1) hO6) hO185), trivial⟩
theorem cs_X4_returnStatement {fu : Nat} (hfu : 8589934592 ≤ fu) (F : PF) (G : PG) (hI : CI F G) : WP (cf_X4_returnStatement fu F G) (fun r' F' G' => CI F' G' ∧ KB F G F' G' ∧ KT F F' ∧ KO F F' ∧ True) := by
  unfold cf_X4_returnStatement
  unfold cb_X4_returnStatement_0
  refine WP.bind (cs_X2_next hfu F G hI) ?_
  rintro r1 F1 G1 ⟨hI1, hB1, hT1, hO1, hp1⟩
  dsimp only
  have q_2 := hI.r 10 rfl
  have q_3 := hI1.r 10 rfl
  have e_4 : (F1 10).toInt = (F 10).toInt := hO1
  unfold cb_X4_returnStatement_7
  refine WP.ite (fun c_5 => ?_) (fun c_5 => ?_)
  · skip
    have q_6 := i_rng (F1 11)
    have l_7 : (26 : Int32).toInt = 26 := rfl
    have e_8 := i_eq.mp (show (F1 11) = (26 : Int32) from c_5)
    unfold cb_X4_returnStatement_19
    unfold cb_X4_returnStatement_24
    refine WP.ite (fun c_9 => ?_) (fun c_9 => ?_)
    · skip
      have l_10 : (1 : Int32).toInt = 1 := rfl
      have q_11 := hI1.r 48 rfl
      have e_12 := i_eq.mp (show (1 : Int32) = (F1 48) from c_9)
      unfold cb_X4_returnStatement_36
      have l_13 : (3 : Int32).toInt = 3 := rfl
      have q_14 := i_rng (F1 13)
      refine WP.bind (cs_X5_note hfu (3 : Int32) (F1 13) F1 G1 hI1) ?_
      rintro r15 F15 G15 ⟨hI15, hB15, hT15, hO15, hp15⟩
      dsimp only
      have q_16 := hI15.r 10 rfl
      have e_17 : (F15 10).toInt = (F1 10).toInt := hO15
      unfold cb_X4_returnStatement_51
      refine WP.ite (fun c_18 => absurd c_18 (by decide)) (fun _ => ?_)
      unfold cb_X4_returnStatement_55
      have l_19 : (66 : Int32).toInt = 66 := rfl
      have l_20 : (0 : Int32).toInt = 0 := rfl
      refine WP.bind (cs_X1_addPair hfu (66 : Int32) (0 : Int32) F15 G15 hI15) ?_
      rintro r21 F21 G21 ⟨hI21, hB21, hT21, hO21, hp21⟩
      dsimp only
      have q_22 := hI21.r 10 rfl
      have e_23 : (F21 10).toInt = (F15 10).toInt := hO21
      unfold cb_X4_returnStatement_65
      unfold cb_X4_returnStatement_75
      have l_24 : (15 : Int32).toInt = 15 := rfl
      refine WP.bind (cs_X1_add hfu (15 : Int32) F21 G21 hI21) ?_
      rintro r25 F25 G25 ⟨hI25, hB25, hT25, hO25, hp25⟩
      dsimp only
      have q_26 := hI25.r 10 rfl
      have e_27 : (F25 10).toInt = (F21 10).toInt := hO25
      have q_28 := hI21.r 21 rfl
      have q_29 := hI25.r 21 rfl
      have e_30 : (F25 21).toInt = (F21 21).toInt := congrArg Int32.toInt hp25
      unfold cb_X4_returnStatement_84
      refine WP.bind (cs_X2_expect hfu (26 : Int32) F25 G25 hI25) ?_
      rintro r31 F31 G31 ⟨hI31, hB31, hT31, hO31, hp31⟩
      dsimp only
      have q_32 := hI31.r 10 rfl
      have e_33 : (F31 10).toInt = (F25 10).toInt := hO31
      unfold cb_X4_returnStatement_93
      refine WP.ret ?_
      exact ⟨hI31, (KB.tr (KB.tr (KB.tr (KB.tr (KB.tr (KB.rf : KB F G F G) hB1) hB15) hB21) hB25) hB31), (KT.tr (KT.tr (KT.tr (KT.tr (KT.tr (rfl : KT F F) hT1) hT15) hT21) hT25) hT31), (KO.tr (KO.tr (KO.tr (KO.tr (KO.tr (rfl : KO F F) hO1) hO15) hO21) hO25) hO31), trivial⟩
    · skip
      have l_34 : (1 : Int32).toInt = 1 := rfl
      have q_35 := hI1.r 48 rfl
      have e_36 := mt i_eq.mpr (show ¬ ((1 : Int32) = (F1 48)) from c_9)
      unfold cb_X4_returnStatement_51
      refine WP.ite (fun c_37 => absurd c_37 (by decide)) (fun _ => ?_)
      unfold cb_X4_returnStatement_55
      have l_38 : (66 : Int32).toInt = 66 := rfl
      have l_39 : (0 : Int32).toInt = 0 := rfl
      refine WP.bind (cs_X1_addPair hfu (66 : Int32) (0 : Int32) F1 G1 hI1) ?_
      rintro r40 F40 G40 ⟨hI40, hB40, hT40, hO40, hp40⟩
      dsimp only
      have q_41 := hI40.r 10 rfl
      have e_42 : (F40 10).toInt = (F1 10).toInt := hO40
      unfold cb_X4_returnStatement_65
      unfold cb_X4_returnStatement_75
      have l_43 : (15 : Int32).toInt = 15 := rfl
      refine WP.bind (cs_X1_add hfu (15 : Int32) F40 G40 hI40) ?_
      rintro r44 F44 G44 ⟨hI44, hB44, hT44, hO44, hp44⟩
      dsimp only
      have q_45 := hI44.r 10 rfl
      have e_46 : (F44 10).toInt = (F40 10).toInt := hO44
      have q_47 := hI40.r 21 rfl
      have q_48 := hI44.r 21 rfl
      have e_49 : (F44 21).toInt = (F40 21).toInt := congrArg Int32.toInt hp44
      unfold cb_X4_returnStatement_84
      refine WP.bind (cs_X2_expect hfu (26 : Int32) F44 G44 hI44) ?_
      rintro r50 F50 G50 ⟨hI50, hB50, hT50, hO50, hp50⟩
      dsimp only
      have q_51 := hI50.r 10 rfl
      have e_52 : (F50 10).toInt = (F44 10).toInt := hO50
      unfold cb_X4_returnStatement_93
      refine WP.ret ?_
      exact ⟨hI50, (KB.tr (KB.tr (KB.tr (KB.tr (KB.rf : KB F G F G) hB1) hB40) hB44) hB50), (KT.tr (KT.tr (KT.tr (KT.tr (rfl : KT F F) hT1) hT40) hT44) hT50), (KO.tr (KO.tr (KO.tr (KO.tr (rfl : KO F F) hO1) hO40) hO44) hO50), trivial⟩
  · skip
    have q_53 := i_rng (F1 11)
    have l_54 : (26 : Int32).toInt = 26 := rfl
    have e_55 := mt i_eq.mpr (show ¬ ((F1 11) = (26 : Int32)) from c_5)
    unfold cb_X4_returnStatement_23
    unfold cb_X4_returnStatement_24
    refine WP.ite (fun c_56 => ?_) (fun c_56 => ?_)
    · skip
      have l_57 : (0 : Int32).toInt = 0 := rfl
      have q_58 := hI1.r 48 rfl
      have e_59 := i_eq.mp (show (0 : Int32) = (F1 48) from c_56)
      unfold cb_X4_returnStatement_36
      have l_60 : (3 : Int32).toInt = 3 := rfl
      have q_61 := i_rng (F1 13)
      refine WP.bind (cs_X5_note hfu (3 : Int32) (F1 13) F1 G1 hI1) ?_
      rintro r62 F62 G62 ⟨hI62, hB62, hT62, hO62, hp62⟩
      dsimp only
      have q_63 := hI62.r 10 rfl
      have e_64 : (F62 10).toInt = (F1 10).toInt := hO62
      unfold cb_X4_returnStatement_51
      refine WP.ite (fun _ => ?_) (fun c_65 => absurd (by decide) c_65)
      unfold cb_X4_returnStatement_68
      refine WP.bind (cs_X3_expression hfu F62 G62 hI62) ?_
      rintro r66 F66 G66 ⟨hI66, hB66, hT66, hO66, hp66⟩
      dsimp only
      have q_67 := hI66.r 10 rfl
      have e_68 : (F66 10).toInt = (F62 10).toInt := hO66
      unfold cb_X4_returnStatement_75
      have l_69 : (15 : Int32).toInt = 15 := rfl
      refine WP.bind (cs_X1_add hfu (15 : Int32) F66 G66 hI66) ?_
      rintro r70 F70 G70 ⟨hI70, hB70, hT70, hO70, hp70⟩
      dsimp only
      have q_71 := hI70.r 10 rfl
      have e_72 : (F70 10).toInt = (F66 10).toInt := hO70
      have q_73 := hI66.r 21 rfl
      have q_74 := hI70.r 21 rfl
      have e_75 : (F70 21).toInt = (F66 21).toInt := congrArg Int32.toInt hp70
      unfold cb_X4_returnStatement_84
      refine WP.bind (cs_X2_expect hfu (26 : Int32) F70 G70 hI70) ?_
      rintro r76 F76 G76 ⟨hI76, hB76, hT76, hO76, hp76⟩
      dsimp only
      have q_77 := hI76.r 10 rfl
      have e_78 : (F76 10).toInt = (F70 10).toInt := hO76
      unfold cb_X4_returnStatement_93
      refine WP.ret ?_
      exact ⟨hI76, (KB.tr (KB.tr (KB.tr (KB.tr (KB.tr (KB.rf : KB F G F G) hB1) hB62) hB66) hB70) hB76), (KT.tr (KT.tr (KT.tr (KT.tr (KT.tr (rfl : KT F F) hT1) hT62) hT66) hT70) hT76), (KO.tr (KO.tr (KO.tr (KO.tr (KO.tr (rfl : KO F F) hO1) hO62) hO66) hO70) hO76), trivial⟩
    · skip
      have l_79 : (0 : Int32).toInt = 0 := rfl
      have q_80 := hI1.r 48 rfl
      have e_81 := mt i_eq.mpr (show ¬ ((0 : Int32) = (F1 48)) from c_56)
      unfold cb_X4_returnStatement_51
      refine WP.ite (fun _ => ?_) (fun c_82 => absurd (by decide) c_82)
      unfold cb_X4_returnStatement_68
      refine WP.bind (cs_X3_expression hfu F1 G1 hI1) ?_
      rintro r83 F83 G83 ⟨hI83, hB83, hT83, hO83, hp83⟩
      dsimp only
      have q_84 := hI83.r 10 rfl
      have e_85 : (F83 10).toInt = (F1 10).toInt := hO83
      unfold cb_X4_returnStatement_75
      have l_86 : (15 : Int32).toInt = 15 := rfl
      refine WP.bind (cs_X1_add hfu (15 : Int32) F83 G83 hI83) ?_
      rintro r87 F87 G87 ⟨hI87, hB87, hT87, hO87, hp87⟩
      dsimp only
      have q_88 := hI87.r 10 rfl
      have e_89 : (F87 10).toInt = (F83 10).toInt := hO87
      have q_90 := hI83.r 21 rfl
      have q_91 := hI87.r 21 rfl
      have e_92 : (F87 21).toInt = (F83 21).toInt := congrArg Int32.toInt hp87
      unfold cb_X4_returnStatement_84
      refine WP.bind (cs_X2_expect hfu (26 : Int32) F87 G87 hI87) ?_
      rintro r93 F93 G93 ⟨hI93, hB93, hT93, hO93, hp93⟩
      dsimp only
      have q_94 := hI93.r 10 rfl
      have e_95 : (F93 10).toInt = (F87 10).toInt := hO93
      unfold cb_X4_returnStatement_93
      refine WP.ret ?_
      exact ⟨hI93, (KB.tr (KB.tr (KB.tr (KB.tr (KB.rf : KB F G F G) hB1) hB83) hB87) hB93), (KT.tr (KT.tr (KT.tr (KT.tr (rfl : KT F F) hT1) hT83) hT87) hT93), (KO.tr (KO.tr (KO.tr (KO.tr (rfl : KO F F) hO1) hO83) hO87) hO93), trivial⟩
theorem cs_X4_oldValue {fu : Nat} (hfu : 8589934592 ≤ fu) (x1 : Int32) (x2 : Int32) (F : PF) (G : PG) (hI : CI F G) (hz_x2 : x2 = 0 ∨ x2 = 1) : WP (cf_X4_oldValue fu x1 x2 F G) (fun r' F' G' => CI F' G' ∧ KB F G F' G' ∧ KT F F' ∧ KO F F' ∧ True) := by
  have q_x2 := b_rng hz_x2
  unfold cf_X4_oldValue
  unfold cb_X4_oldValue_0
  refine WP.ite (fun c_1 => ?_) (fun c_1 => ?_)
  · skip
    have q_2 := i_rng x2
    have l_3 : (0 : Int32).toInt = 0 := rfl
    have e_4 := i_eq.mp (show x2 = (0 : Int32) from c_1)
    unfold cb_X4_oldValue_24
    have q_5 := i_rng x1
    refine WP.bind (cs_X3_load hfu x1 F G hI) ?_
    rintro r6 F6 G6 ⟨hI6, hB6, hT6, hO6, hp6⟩
    dsimp only
    have q_7 := hI.r 10 rfl
    have q_8 := hI6.r 10 rfl
    have e_9 : (F6 10).toInt = (F 10).toInt := hO6
    unfold cb_X4_oldValue_32
    refine WP.ret ?_
    exact ⟨hI6, (KB.tr (KB.rf : KB F G F G) hB6), (KT.tr (rfl : KT F F) hT6), (KO.tr (rfl : KO F F) hO6), trivial⟩
  · skip
    have q_10 := i_rng x2
    have l_11 : (0 : Int32).toInt = 0 := rfl
    have e_12 := mt i_eq.mpr (show ¬ (x2 = (0 : Int32)) from c_1)
    unfold cb_X4_oldValue_4
    have l_13 : (67 : Int32).toInt = 67 := rfl
    refine WP.bind (cs_X1_add hfu (67 : Int32) F G hI) ?_
    rintro r14 F14 G14 ⟨hI14, hB14, hT14, hO14, hp14⟩
    dsimp only
    have q_15 := hI.r 10 rfl
    have q_16 := hI14.r 10 rfl
    have e_17 : (F14 10).toInt = (F 10).toInt := hO14
    have q_18 := hI.r 21 rfl
    have q_19 := hI14.r 21 rfl
    have e_20 : (F14 21).toInt = (F 21).toInt := congrArg Int32.toInt hp14
    unfold cb_X4_oldValue_13
    have q_21 := i_rng x1
    refine WP.bind (cs_X3_fetch hfu x1 F14 G14 hI14) ?_
    rintro r22 F22 G22 ⟨hI22, hB22, hT22, hO22, hp22⟩
    dsimp only
    have q_23 := hI22.r 10 rfl
    have e_24 : (F22 10).toInt = (F14 10).toInt := hO22
    unfold cb_X4_oldValue_21
    unfold cb_X4_oldValue_32
    refine WP.ret ?_
    exact ⟨hI22, (KB.tr (KB.tr (KB.rf : KB F G F G) hB14) hB22), (KT.tr (KT.tr (rfl : KT F F) hT14) hT22), (KO.tr (KO.tr (rfl : KO F F) hO14) hO22), trivial⟩
theorem cs_X5_wantPlace {fu : Nat} (hfu : 8589934592 ≤ fu) (x1 : Int32) (x2 : Int32) (x3 : Int32) (F : PF) (G : PG) (hI : CI F G) : WP (cf_X5_wantPlace fu x1 x2 x3 F G) (fun r' F' G' => CI F' G' ∧ KB F G F' G' ∧ KT F F' ∧ KO F F' ∧ True) := by
  unfold cf_X5_wantPlace
  unfold cb_X5_wantPlace_0
  have q_1 := i_rng x1
  refine WP.bind (cs_X5_kind hfu x1 F G hI) ?_
  rintro r2 _ _ ⟨rfl, rfl, hp2⟩
  dsimp only
  have q_3 := i_rng r2
  unfold cb_X5_wantPlace_5
  refine WP.ite (fun c_4 => ?_) (fun c_4 => ?_)
  · skip
    have l_5 : (-1 : Int32).toInt = -1 := rfl
    have e_6 := i_eq.mp (show r2 = (-1 : Int32) from c_4)
    unfold cb_X5_wantPlace_28
    refine WP.ret ?_
    exact ⟨hI, (KB.rf : KB F G F G), (rfl : KT F F), (rfl : KO F F), trivial⟩
  · skip
    have l_7 : (-1 : Int32).toInt = -1 := rfl
    have e_8 := mt i_eq.mpr (show ¬ (r2 = (-1 : Int32)) from c_4)
    unfold cb_X5_wantPlace_13
    have q_9 := i_rng x3
    refine WP.bind (cs_X5_fits hfu r2 x3 F G hI) ?_
    rintro r10 _ _ ⟨rfl, rfl, hp10⟩
    dsimp only
    have q_11 := b_rng hp10
    unfold cb_X5_wantPlace_19
    refine WP.ite (fun c_12 => ?_) (fun c_12 => ?_)
    · skip
      have l_13 : (0 : Int32).toInt = 0 := rfl
      have e_14 := i_eq.mp (show r10 = (0 : Int32) from c_12)
      unfold cb_X5_wantPlace_22
      have l_15 : (4 : Int32).toInt = 4 := rfl
      have q_16 := i_rng x2
      refine WP.bind (cs_X5_note hfu (4 : Int32) x2 F G hI) ?_
      rintro r17 F17 G17 ⟨hI17, hB17, hT17, hO17, hp17⟩
      dsimp only
      have q_18 := hI.r 10 rfl
      have q_19 := hI17.r 10 rfl
      have e_20 : (F17 10).toInt = (F 10).toInt := hO17
      unfold cb_X5_wantPlace_28
      refine WP.ret ?_
      exact ⟨hI17, (KB.tr (KB.rf : KB F G F G) hB17), (KT.tr (rfl : KT F F) hT17), (KO.tr (rfl : KO F F) hO17), trivial⟩
    · skip
      have l_21 : (0 : Int32).toInt = 0 := rfl
      have e_22 := mt i_eq.mpr (show ¬ (r10 = (0 : Int32)) from c_12)
      unfold cb_X5_wantPlace_28
      refine WP.ret ?_
      exact ⟨hI, (KB.rf : KB F G F G), (rfl : KT F F), (rfl : KO F F), trivial⟩
theorem cs_X4_simple {fu : Nat} (hfu : 8589934592 ≤ fu) (F : PF) (G : PG) (hI : CI F G) : WP (cf_X4_simple fu F G) (fun r' F' G' => CI F' G' ∧ KB F G F' G' ∧ KT F F' ∧ KO F F' ∧ True) := by
  unfold cf_X4_simple
  unfold cb_X4_simple_0
  have l_1 : (2 : Int32).toInt = 2 := rfl
  refine WP.bind (cs_X2_expect hfu (2 : Int32) F G hI) ?_
  rintro r2 F2 G2 ⟨hI2, hB2, hT2, hO2, hp2⟩
  dsimp only
  have q_3 := hI.r 10 rfl
  have q_4 := hI2.r 10 rfl
  have e_5 : (F2 10).toInt = (F 10).toInt := hO2
  unfold cb_X4_simple_24
  refine WP.ite (fun c_6 => ?_) (fun c_6 => ?_)
  · skip
    have q_7 := i_rng (F2 11)
    have l_8 : (-2 : Int32).toInt = -2 := rfl
    have e_9 := i_eq.mp (show (F2 11) = (-2 : Int32) from c_6)
    unfold cb_X4_simple_36
    refine WP.ret ?_
    exact ⟨hI2, (KB.tr (KB.rf : KB F G F G) hB2), (KT.tr (rfl : KT F F) hT2), (KO.tr (rfl : KO F F) hO2), trivial⟩
  · skip
    have q_10 := i_rng (F2 11)
    have l_11 : (-2 : Int32).toInt = -2 := rfl
    have e_12 := mt i_eq.mpr (show ¬ ((F2 11) = (-2 : Int32)) from c_6)
    unfold cb_X4_simple_37
    have q_13 := i_rng (F 12)
    have q_14 := i_rng (F 13)
    refine WP.bind (cs_X5_meant hfu (F 12) (F 13) F2 G2 hI2) ?_
    rintro r15 F15 G15 ⟨hI15, hB15, hT15, hO15, hp15⟩
    dsimp only
    have q_16 := hI15.r 10 rfl
    have e_17 : (F15 10).toInt = (F2 10).toInt := hO15
    unfold cb_X4_simple_46
    have q_18 := i_rng r15
    have q_19 := i_rng (F15 11)
    refine WP.bind (cs_X5_wantPlace hfu r15 (F 13) (F15 11) F15 G15 hI15) ?_
    rintro r20 F20 G20 ⟨hI20, hB20, hT20, hO20, hp20⟩
    dsimp only
    have q_21 := hI20.r 10 rfl
    have e_22 : (F20 10).toInt = (F15 10).toInt := hO20
    unfold cb_X4_simple_63
    refine WP.ite (fun c_23 => ?_) (fun c_23 => ?_)
    · skip
      have q_24 := i_rng (F20 11)
      have l_25 : (19 : Int32).toInt = 19 := rfl
      have e_26 := i_eq.mp (show (F20 11) = (19 : Int32) from c_23)
      unfold cb_X4_simple_75
      refine WP.bind (cs_X3_call hfu r15 (F 13) F20 G20 hI20) ?_
      rintro r27 F27 G27 ⟨hI27, hB27, hT27, hO27, hp27⟩
      dsimp only
      have q_28 := hI27.r 10 rfl
      have e_29 : (F27 10).toInt = (F20 10).toInt := hO27
      unfold cb_X4_simple_84
      have l_30 : (68 : Int32).toInt = 68 := rfl
      refine WP.bind (cs_X1_add hfu (68 : Int32) F27 G27 hI27) ?_
      rintro r31 F31 G31 ⟨hI31, hB31, hT31, hO31, hp31⟩
      dsimp only
      have q_32 := hI31.r 10 rfl
      have e_33 : (F31 10).toInt = (F27 10).toInt := hO31
      have q_34 := hI27.r 21 rfl
      have q_35 := hI31.r 21 rfl
      have e_36 : (F31 21).toInt = (F27 21).toInt := congrArg Int32.toInt hp31
      unfold cb_X4_simple_93
      refine WP.ret ?_
      exact ⟨hI31, (KB.tr (KB.tr (KB.tr (KB.tr (KB.tr (KB.rf : KB F G F G) hB2) hB15) hB20) hB27) hB31), (KT.tr (KT.tr (KT.tr (KT.tr (KT.tr (rfl : KT F F) hT2) hT15) hT20) hT27) hT31), (KO.tr (KO.tr (KO.tr (KO.tr (KO.tr (rfl : KO F F) hO2) hO15) hO20) hO27) hO31), trivial⟩
    · skip
      have q_37 := i_rng (F20 11)
      have l_38 : (19 : Int32).toInt = 19 := rfl
      have e_39 := mt i_eq.mpr (show ¬ ((F20 11) = (19 : Int32)) from c_23)
      unfold cb_X4_simple_94
      refine WP.ite (fun c_40 => ?_) (fun c_40 => ?_)
      · skip
        have l_41 : (21 : Int32).toInt = 21 := rfl
        have e_42 := i_eq.mp (show (F20 11) = (21 : Int32) from c_40)
        unfold cb_X4_simple_106
        unfold cb_X4_simple_111
        refine WP.ite (fun c_43 => absurd c_43 (by decide)) (fun _ => ?_)
        unfold cb_X4_simple_118
        refine WP.bind (cs_X3_index hfu r15 F20 G20 hI20) ?_
        rintro r44 F44 G44 ⟨hI44, hB44, hT44, hO44, hp44⟩
        dsimp only
        have q_45 := hI44.r 10 rfl
        have e_46 : (F44 10).toInt = (F20 10).toInt := hO44
        unfold cb_X4_simple_126
        refine WP.ite (fun c_47 => ?_) (fun c_47 => ?_)
        · skip
          have q_48 := i_rng (F44 11)
          have l_49 : (29 : Int32).toInt = 29 := rfl
          have e_50 := i_lt.mp (show (F44 11) < (29 : Int32) from c_47)
          unfold cb_X4_simple_149
          refine WP.bind (cs_X2_fail hfu (2 : Int32) F44 G44 hI44) ?_
          rintro r51 F51 G51 ⟨hI51, hB51, hT51, hO51, hp51⟩
          dsimp only
          have q_52 := hI51.r 10 rfl
          have e_53 : (F51 10).toInt = (F44 10).toInt := hO51
          unfold cb_X4_simple_157
          refine WP.ret ?_
          exact ⟨hI51, (KB.tr (KB.tr (KB.tr (KB.tr (KB.tr (KB.rf : KB F G F G) hB2) hB15) hB20) hB44) hB51), (KT.tr (KT.tr (KT.tr (KT.tr (KT.tr (rfl : KT F F) hT2) hT15) hT20) hT44) hT51), (KO.tr (KO.tr (KO.tr (KO.tr (KO.tr (rfl : KO F F) hO2) hO15) hO20) hO44) hO51), trivial⟩
        · skip
          have q_54 := i_rng (F44 11)
          have l_55 : (29 : Int32).toInt = 29 := rfl
          have e_56 := mt i_lt.mpr (show ¬ ((F44 11) < (29 : Int32)) from c_47)
          unfold cb_X4_simple_142
          refine WP.ite (fun c_57 => ?_) (fun c_57 => ?_)
          · skip
            have l_58 : (42 : Int32).toInt = 42 := rfl
            have e_59 := i_le.mp (show (F44 11) ≤ (42 : Int32) from c_57)
            unfold cb_X4_simple_158
            refine WP.bind (cs_X2_next hfu F44 G44 hI44) ?_
            rintro r60 F60 G60 ⟨hI60, hB60, hT60, hO60, hp60⟩
            dsimp only
            have q_61 := hI60.r 10 rfl
            have e_62 : (F60 10).toInt = (F44 10).toInt := hO60
            unfold cb_X4_simple_165
            refine WP.ite (fun c_63 => ?_) (fun c_63 => ?_)
            · skip
              have e_64 := i_eq.mp (show (F44 11) = (29 : Int32) from c_63)
              unfold cb_X4_simple_179
              refine WP.ite (fun c_65 => ?_) (fun c_65 => ?_)
              · skip
                have l_66 : (41 : Int32).toInt = 41 := rfl
                have e_67 := i_le.mp (show (41 : Int32) ≤ (F44 11) from c_65)
                unfold cb_X4_simple_196
                have l_68 : (66 : Int32).toInt = 66 := rfl
                have l_69 : (1 : Int32).toInt = 1 := rfl
                refine WP.bind (cs_X1_addPair hfu (66 : Int32) (1 : Int32) F60 G60 hI60) ?_
                rintro r70 F70 G70 ⟨hI70, hB70, hT70, hO70, hp70⟩
                dsimp only
                have q_71 := hI70.r 10 rfl
                have e_72 : (F70 10).toInt = (F60 10).toInt := hO70
                unfold cb_X4_simple_206
                refine WP.ite (fun c_73 => ?_) (fun c_73 => ?_)
                · skip
                  have e_74 := i_eq.mp (show (F44 11) = (29 : Int32) from c_73)
                  unfold cb_X4_simple_229
                  refine WP.ite (fun c_75 => absurd c_75 (by decide)) (fun _ => ?_)
                  unfold cb_X4_simple_234
                  refine WP.bind (cs_X3_keep hfu r15 F70 G70 hI70) ?_
                  rintro r76 F76 G76 ⟨hI76, hB76, hT76, hO76, hp76⟩
                  dsimp only
                  have q_77 := hI76.r 10 rfl
                  have e_78 : (F76 10).toInt = (F70 10).toInt := hO76
                  unfold cb_X4_simple_242
                  unfold cb_X4_simple_253
                  refine WP.ret ?_
                  exact ⟨hI76, (KB.tr (KB.tr (KB.tr (KB.tr (KB.tr (KB.tr (KB.tr (KB.rf : KB F G F G) hB2) hB15) hB20) hB44) hB60) hB70) hB76), (KT.tr (KT.tr (KT.tr (KT.tr (KT.tr (KT.tr (KT.tr (rfl : KT F F) hT2) hT15) hT20) hT44) hT60) hT70) hT76), (KO.tr (KO.tr (KO.tr (KO.tr (KO.tr (KO.tr (KO.tr (rfl : KO F F) hO2) hO15) hO20) hO44) hO60) hO70) hO76), trivial⟩
                · skip
                  have e_79 := mt i_eq.mpr (show ¬ ((F44 11) = (29 : Int32)) from c_73)
                  unfold cb_X4_simple_213
                  have l_80 : (30 : Int32).toInt = 30 := rfl
                  obtain ⟨k_81, e_82, e_83⟩ := i_sub (F44 11) (30 : Int32)
                  refine WP.ix (show vp_in ((F44 11) - (30 : Int32)) 13 from vp_in_iff.mpr ⟨by omega, by omega⟩) ?_
                  have q_84 := i_rng (tb_5 ((F44 11) - (30 : Int32)).toNatClampNeg)
                  refine WP.bind (cs_X1_add hfu (tb_5 ((F44 11) - (30 : Int32)).toNatClampNeg) F70 G70 hI70) ?_
                  rintro r85 F85 G85 ⟨hI85, hB85, hT85, hO85, hp85⟩
                  dsimp only
                  have q_86 := hI85.r 10 rfl
                  have e_87 : (F85 10).toInt = (F70 10).toInt := hO85
                  have q_88 := hI70.r 21 rfl
                  have q_89 := hI85.r 21 rfl
                  have e_90 : (F85 21).toInt = (F70 21).toInt := congrArg Int32.toInt hp85
                  unfold cb_X4_simple_229
                  refine WP.ite (fun c_91 => absurd c_91 (by decide)) (fun _ => ?_)
                  unfold cb_X4_simple_234
                  refine WP.bind (cs_X3_keep hfu r15 F85 G85 hI85) ?_
                  rintro r92 F92 G92 ⟨hI92, hB92, hT92, hO92, hp92⟩
                  dsimp only
                  have q_93 := hI92.r 10 rfl
                  have e_94 : (F92 10).toInt = (F85 10).toInt := hO92
                  unfold cb_X4_simple_242
                  unfold cb_X4_simple_253
                  refine WP.ret ?_
                  exact ⟨hI92, (KB.tr (KB.tr (KB.tr (KB.tr (KB.tr (KB.tr (KB.tr (KB.tr (KB.rf : KB F G F G) hB2) hB15) hB20) hB44) hB60) hB70) hB85) hB92), (KT.tr (KT.tr (KT.tr (KT.tr (KT.tr (KT.tr (KT.tr (KT.tr (rfl : KT F F) hT2) hT15) hT20) hT44) hT60) hT70) hT85) hT92), (KO.tr (KO.tr (KO.tr (KO.tr (KO.tr (KO.tr (KO.tr (KO.tr (rfl : KO F F) hO2) hO15) hO20) hO44) hO60) hO70) hO85) hO92), trivial⟩
              · skip
                have l_95 : (41 : Int32).toInt = 41 := rfl
                have e_96 := mt i_le.mpr (show ¬ ((41 : Int32) ≤ (F44 11)) from c_65)
                unfold cb_X4_simple_186
                refine WP.bind (cs_X3_expression hfu F60 G60 hI60) ?_
                rintro r97 F97 G97 ⟨hI97, hB97, hT97, hO97, hp97⟩
                dsimp only
                have q_98 := hI97.r 10 rfl
                have e_99 : (F97 10).toInt = (F60 10).toInt := hO97
                unfold cb_X4_simple_193
                unfold cb_X4_simple_206
                refine WP.ite (fun c_100 => ?_) (fun c_100 => ?_)
                · skip
                  have e_101 := i_eq.mp (show (F44 11) = (29 : Int32) from c_100)
                  unfold cb_X4_simple_229
                  refine WP.ite (fun c_102 => absurd c_102 (by decide)) (fun _ => ?_)
                  unfold cb_X4_simple_234
                  refine WP.bind (cs_X3_keep hfu r15 F97 G97 hI97) ?_
                  rintro r103 F103 G103 ⟨hI103, hB103, hT103, hO103, hp103⟩
                  dsimp only
                  have q_104 := hI103.r 10 rfl
                  have e_105 : (F103 10).toInt = (F97 10).toInt := hO103
                  unfold cb_X4_simple_242
                  unfold cb_X4_simple_253
                  refine WP.ret ?_
                  exact ⟨hI103, (KB.tr (KB.tr (KB.tr (KB.tr (KB.tr (KB.tr (KB.tr (KB.rf : KB F G F G) hB2) hB15) hB20) hB44) hB60) hB97) hB103), (KT.tr (KT.tr (KT.tr (KT.tr (KT.tr (KT.tr (KT.tr (rfl : KT F F) hT2) hT15) hT20) hT44) hT60) hT97) hT103), (KO.tr (KO.tr (KO.tr (KO.tr (KO.tr (KO.tr (KO.tr (rfl : KO F F) hO2) hO15) hO20) hO44) hO60) hO97) hO103), trivial⟩
                · skip
                  have e_106 := mt i_eq.mpr (show ¬ ((F44 11) = (29 : Int32)) from c_100)
                  unfold cb_X4_simple_213
                  have l_107 : (30 : Int32).toInt = 30 := rfl
                  obtain ⟨k_108, e_109, e_110⟩ := i_sub (F44 11) (30 : Int32)
                  refine WP.ix (show vp_in ((F44 11) - (30 : Int32)) 13 from vp_in_iff.mpr ⟨by omega, by omega⟩) ?_
                  have q_111 := i_rng (tb_5 ((F44 11) - (30 : Int32)).toNatClampNeg)
                  refine WP.bind (cs_X1_add hfu (tb_5 ((F44 11) - (30 : Int32)).toNatClampNeg) F97 G97 hI97) ?_
                  rintro r112 F112 G112 ⟨hI112, hB112, hT112, hO112, hp112⟩
                  dsimp only
                  have q_113 := hI112.r 10 rfl
                  have e_114 : (F112 10).toInt = (F97 10).toInt := hO112
                  have q_115 := hI97.r 21 rfl
                  have q_116 := hI112.r 21 rfl
                  have e_117 : (F112 21).toInt = (F97 21).toInt := congrArg Int32.toInt hp112
                  unfold cb_X4_simple_229
                  refine WP.ite (fun c_118 => absurd c_118 (by decide)) (fun _ => ?_)
                  unfold cb_X4_simple_234
                  refine WP.bind (cs_X3_keep hfu r15 F112 G112 hI112) ?_
                  rintro r119 F119 G119 ⟨hI119, hB119, hT119, hO119, hp119⟩
                  dsimp only
                  have q_120 := hI119.r 10 rfl
                  have e_121 : (F119 10).toInt = (F112 10).toInt := hO119
                  unfold cb_X4_simple_242
                  unfold cb_X4_simple_253
                  refine WP.ret ?_
                  exact ⟨hI119, (KB.tr (KB.tr (KB.tr (KB.tr (KB.tr (KB.tr (KB.tr (KB.tr (KB.rf : KB F G F G) hB2) hB15) hB20) hB44) hB60) hB97) hB112) hB119), (KT.tr (KT.tr (KT.tr (KT.tr (KT.tr (KT.tr (KT.tr (KT.tr (rfl : KT F F) hT2) hT15) hT20) hT44) hT60) hT97) hT112) hT119), (KO.tr (KO.tr (KO.tr (KO.tr (KO.tr (KO.tr (KO.tr (KO.tr (rfl : KO F F) hO2) hO15) hO20) hO44) hO60) hO97) hO112) hO119), trivial⟩
            · skip
              have e_122 := mt i_eq.mpr (show ¬ ((F44 11) = (29 : Int32)) from c_63)
              unfold cb_X4_simple_172
              have l_123 : (1 : Int32).toInt = 1 := rfl
              refine WP.bind (cs_X4_oldValue hfu r15 (1 : Int32) F60 G60 hI60 (by decide)) ?_
              rintro r124 F124 G124 ⟨hI124, hB124, hT124, hO124, hp124⟩
              dsimp only
              have q_125 := hI124.r 10 rfl
              have e_126 : (F124 10).toInt = (F60 10).toInt := hO124
              unfold cb_X4_simple_179
              refine WP.ite (fun c_127 => ?_) (fun c_127 => ?_)
              · skip
                have l_128 : (41 : Int32).toInt = 41 := rfl
                have e_129 := i_le.mp (show (41 : Int32) ≤ (F44 11) from c_127)
                unfold cb_X4_simple_196
                have l_130 : (66 : Int32).toInt = 66 := rfl
                refine WP.bind (cs_X1_addPair hfu (66 : Int32) (1 : Int32) F124 G124 hI124) ?_
                rintro r131 F131 G131 ⟨hI131, hB131, hT131, hO131, hp131⟩
                dsimp only
                have q_132 := hI131.r 10 rfl
                have e_133 : (F131 10).toInt = (F124 10).toInt := hO131
                unfold cb_X4_simple_206
                refine WP.ite (fun c_134 => ?_) (fun c_134 => ?_)
                · skip
                  have e_135 := i_eq.mp (show (F44 11) = (29 : Int32) from c_134)
                  unfold cb_X4_simple_229
                  refine WP.ite (fun c_136 => absurd c_136 (by decide)) (fun _ => ?_)
                  unfold cb_X4_simple_234
                  refine WP.bind (cs_X3_keep hfu r15 F131 G131 hI131) ?_
                  rintro r137 F137 G137 ⟨hI137, hB137, hT137, hO137, hp137⟩
                  dsimp only
                  have q_138 := hI137.r 10 rfl
                  have e_139 : (F137 10).toInt = (F131 10).toInt := hO137
                  unfold cb_X4_simple_242
                  unfold cb_X4_simple_253
                  refine WP.ret ?_
                  exact ⟨hI137, (KB.tr (KB.tr (KB.tr (KB.tr (KB.tr (KB.tr (KB.tr (KB.tr (KB.rf : KB F G F G) hB2) hB15) hB20) hB44) hB60) hB124) hB131) hB137), (KT.tr (KT.tr (KT.tr (KT.tr (KT.tr (KT.tr (KT.tr (KT.tr (rfl : KT F F) hT2) hT15) hT20) hT44) hT60) hT124) hT131) hT137), (KO.tr (KO.tr (KO.tr (KO.tr (KO.tr (KO.tr (KO.tr (KO.tr (rfl : KO F F) hO2) hO15) hO20) hO44) hO60) hO124) hO131) hO137), trivial⟩
                · skip
                  have e_140 := mt i_eq.mpr (show ¬ ((F44 11) = (29 : Int32)) from c_134)
                  unfold cb_X4_simple_213
                  have l_141 : (30 : Int32).toInt = 30 := rfl
                  obtain ⟨k_142, e_143, e_144⟩ := i_sub (F44 11) (30 : Int32)
                  refine WP.ix (show vp_in ((F44 11) - (30 : Int32)) 13 from vp_in_iff.mpr ⟨by omega, by omega⟩) ?_
                  have q_145 := i_rng (tb_5 ((F44 11) - (30 : Int32)).toNatClampNeg)
                  refine WP.bind (cs_X1_add hfu (tb_5 ((F44 11) - (30 : Int32)).toNatClampNeg) F131 G131 hI131) ?_
                  rintro r146 F146 G146 ⟨hI146, hB146, hT146, hO146, hp146⟩
                  dsimp only
                  have q_147 := hI146.r 10 rfl
                  have e_148 : (F146 10).toInt = (F131 10).toInt := hO146
                  have q_149 := hI131.r 21 rfl
                  have q_150 := hI146.r 21 rfl
                  have e_151 : (F146 21).toInt = (F131 21).toInt := congrArg Int32.toInt hp146
                  unfold cb_X4_simple_229
                  refine WP.ite (fun c_152 => absurd c_152 (by decide)) (fun _ => ?_)
                  unfold cb_X4_simple_234
                  refine WP.bind (cs_X3_keep hfu r15 F146 G146 hI146) ?_
                  rintro r153 F153 G153 ⟨hI153, hB153, hT153, hO153, hp153⟩
                  dsimp only
                  have q_154 := hI153.r 10 rfl
                  have e_155 : (F153 10).toInt = (F146 10).toInt := hO153
                  unfold cb_X4_simple_242
                  unfold cb_X4_simple_253
                  refine WP.ret ?_
                  exact ⟨hI153, (KB.tr (KB.tr (KB.tr (KB.tr (KB.tr (KB.tr (KB.tr (KB.tr (KB.tr (KB.rf : KB F G F G) hB2) hB15) hB20) hB44) hB60) hB124) hB131) hB146) hB153), (KT.tr (KT.tr (KT.tr (KT.tr (KT.tr (KT.tr (KT.tr (KT.tr (KT.tr (rfl : KT F F) hT2) hT15) hT20) hT44) hT60) hT124) hT131) hT146) hT153), (KO.tr (KO.tr (KO.tr (KO.tr (KO.tr (KO.tr (KO.tr (KO.tr (KO.tr (rfl : KO F F) hO2) hO15) hO20) hO44) hO60) hO124) hO131) hO146) hO153), trivial⟩
              · skip
                have l_156 : (41 : Int32).toInt = 41 := rfl
                have e_157 := mt i_le.mpr (show ¬ ((41 : Int32) ≤ (F44 11)) from c_127)
                unfold cb_X4_simple_186
                refine WP.bind (cs_X3_expression hfu F124 G124 hI124) ?_
                rintro r158 F158 G158 ⟨hI158, hB158, hT158, hO158, hp158⟩
                dsimp only
                have q_159 := hI158.r 10 rfl
                have e_160 : (F158 10).toInt = (F124 10).toInt := hO158
                unfold cb_X4_simple_193
                unfold cb_X4_simple_206
                refine WP.ite (fun c_161 => ?_) (fun c_161 => ?_)
                · skip
                  have e_162 := i_eq.mp (show (F44 11) = (29 : Int32) from c_161)
                  unfold cb_X4_simple_229
                  refine WP.ite (fun c_163 => absurd c_163 (by decide)) (fun _ => ?_)
                  unfold cb_X4_simple_234
                  refine WP.bind (cs_X3_keep hfu r15 F158 G158 hI158) ?_
                  rintro r164 F164 G164 ⟨hI164, hB164, hT164, hO164, hp164⟩
                  dsimp only
                  have q_165 := hI164.r 10 rfl
                  have e_166 : (F164 10).toInt = (F158 10).toInt := hO164
                  unfold cb_X4_simple_242
                  unfold cb_X4_simple_253
                  refine WP.ret ?_
                  exact ⟨hI164, (KB.tr (KB.tr (KB.tr (KB.tr (KB.tr (KB.tr (KB.tr (KB.tr (KB.rf : KB F G F G) hB2) hB15) hB20) hB44) hB60) hB124) hB158) hB164), (KT.tr (KT.tr (KT.tr (KT.tr (KT.tr (KT.tr (KT.tr (KT.tr (rfl : KT F F) hT2) hT15) hT20) hT44) hT60) hT124) hT158) hT164), (KO.tr (KO.tr (KO.tr (KO.tr (KO.tr (KO.tr (KO.tr (KO.tr (rfl : KO F F) hO2) hO15) hO20) hO44) hO60) hO124) hO158) hO164), trivial⟩
                · skip
                  have e_167 := mt i_eq.mpr (show ¬ ((F44 11) = (29 : Int32)) from c_161)
                  unfold cb_X4_simple_213
                  have l_168 : (30 : Int32).toInt = 30 := rfl
                  obtain ⟨k_169, e_170, e_171⟩ := i_sub (F44 11) (30 : Int32)
                  refine WP.ix (show vp_in ((F44 11) - (30 : Int32)) 13 from vp_in_iff.mpr ⟨by omega, by omega⟩) ?_
                  have q_172 := i_rng (tb_5 ((F44 11) - (30 : Int32)).toNatClampNeg)
                  refine WP.bind (cs_X1_add hfu (tb_5 ((F44 11) - (30 : Int32)).toNatClampNeg) F158 G158 hI158) ?_
                  rintro r173 F173 G173 ⟨hI173, hB173, hT173, hO173, hp173⟩
                  dsimp only
                  have q_174 := hI173.r 10 rfl
                  have e_175 : (F173 10).toInt = (F158 10).toInt := hO173
                  have q_176 := hI158.r 21 rfl
                  have q_177 := hI173.r 21 rfl
                  have e_178 : (F173 21).toInt = (F158 21).toInt := congrArg Int32.toInt hp173
                  unfold cb_X4_simple_229
                  refine WP.ite (fun c_179 => absurd c_179 (by decide)) (fun _ => ?_)
                  unfold cb_X4_simple_234
                  refine WP.bind (cs_X3_keep hfu r15 F173 G173 hI173) ?_
                  rintro r180 F180 G180 ⟨hI180, hB180, hT180, hO180, hp180⟩
                  dsimp only
                  have q_181 := hI180.r 10 rfl
                  have e_182 : (F180 10).toInt = (F173 10).toInt := hO180
                  unfold cb_X4_simple_242
                  unfold cb_X4_simple_253
                  refine WP.ret ?_
                  exact ⟨hI180, (KB.tr (KB.tr (KB.tr (KB.tr (KB.tr (KB.tr (KB.tr (KB.tr (KB.tr (KB.rf : KB F G F G) hB2) hB15) hB20) hB44) hB60) hB124) hB158) hB173) hB180), (KT.tr (KT.tr (KT.tr (KT.tr (KT.tr (KT.tr (KT.tr (KT.tr (KT.tr (rfl : KT F F) hT2) hT15) hT20) hT44) hT60) hT124) hT158) hT173) hT180), (KO.tr (KO.tr (KO.tr (KO.tr (KO.tr (KO.tr (KO.tr (KO.tr (KO.tr (rfl : KO F F) hO2) hO15) hO20) hO44) hO60) hO124) hO158) hO173) hO180), trivial⟩
          · skip
            have l_183 : (42 : Int32).toInt = 42 := rfl
            have e_184 := mt i_le.mpr (show ¬ ((F44 11) ≤ (42 : Int32)) from c_57)
            unfold cb_X4_simple_149
            refine WP.bind (cs_X2_fail hfu (2 : Int32) F44 G44 hI44) ?_
            rintro r185 F185 G185 ⟨hI185, hB185, hT185, hO185, hp185⟩
            dsimp only
            have q_186 := hI185.r 10 rfl
            have e_187 : (F185 10).toInt = (F44 10).toInt := hO185
            unfold cb_X4_simple_157
            refine WP.ret ?_
            exact ⟨hI185, (KB.tr (KB.tr (KB.tr (KB.tr (KB.tr (KB.rf : KB F G F G) hB2) hB15) hB20) hB44) hB185), (KT.tr (KT.tr (KT.tr (KT.tr (KT.tr (rfl : KT F F) hT2) hT15) hT20) hT44) hT185), (KO.tr (KO.tr (KO.tr (KO.tr (KO.tr (rfl : KO F F) hO2) hO15) hO20) hO44) hO185), trivial⟩
      · skip
        have l_188 : (21 : Int32).toInt = 21 := rfl
        have e_189 := mt i_eq.mpr (show ¬ ((F20 11) = (21 : Int32)) from c_40)
        unfold cb_X4_simple_110
        unfold cb_X4_simple_111
        refine WP.ite (fun _ => ?_) (fun c_190 => absurd (by decide) c_190)
        unfold cb_X4_simple_126
        refine WP.ite (fun c_191 => ?_) (fun c_191 => ?_)
        · skip
          have l_192 : (29 : Int32).toInt = 29 := rfl
          have e_193 := i_lt.mp (show (F20 11) < (29 : Int32) from c_191)
          unfold cb_X4_simple_149
          refine WP.bind (cs_X2_fail hfu (2 : Int32) F20 G20 hI20) ?_
          rintro r194 F194 G194 ⟨hI194, hB194, hT194, hO194, hp194⟩
          dsimp only
          have q_195 := hI194.r 10 rfl
          have e_196 : (F194 10).toInt = (F20 10).toInt := hO194
          unfold cb_X4_simple_157
          refine WP.ret ?_
          exact ⟨hI194, (KB.tr (KB.tr (KB.tr (KB.tr (KB.rf : KB F G F G) hB2) hB15) hB20) hB194), (KT.tr (KT.tr (KT.tr (KT.tr (rfl : KT F F) hT2) hT15) hT20) hT194), (KO.tr (KO.tr (KO.tr (KO.tr (rfl : KO F F) hO2) hO15) hO20) hO194), trivial⟩
        · skip
          have l_197 : (29 : Int32).toInt = 29 := rfl
          have e_198 := mt i_lt.mpr (show ¬ ((F20 11) < (29 : Int32)) from c_191)
          unfold cb_X4_simple_142
          refine WP.ite (fun c_199 => ?_) (fun c_199 => ?_)
          · skip
            have l_200 : (42 : Int32).toInt = 42 := rfl
            have e_201 := i_le.mp (show (F20 11) ≤ (42 : Int32) from c_199)
            unfold cb_X4_simple_158
            refine WP.bind (cs_X2_next hfu F20 G20 hI20) ?_
            rintro r202 F202 G202 ⟨hI202, hB202, hT202, hO202, hp202⟩
            dsimp only
            have q_203 := hI202.r 10 rfl
            have e_204 : (F202 10).toInt = (F20 10).toInt := hO202
            unfold cb_X4_simple_165
            refine WP.ite (fun c_205 => ?_) (fun c_205 => ?_)
            · skip
              have e_206 := i_eq.mp (show (F20 11) = (29 : Int32) from c_205)
              unfold cb_X4_simple_179
              refine WP.ite (fun c_207 => ?_) (fun c_207 => ?_)
              · skip
                have l_208 : (41 : Int32).toInt = 41 := rfl
                have e_209 := i_le.mp (show (41 : Int32) ≤ (F20 11) from c_207)
                unfold cb_X4_simple_196
                have l_210 : (66 : Int32).toInt = 66 := rfl
                have l_211 : (1 : Int32).toInt = 1 := rfl
                refine WP.bind (cs_X1_addPair hfu (66 : Int32) (1 : Int32) F202 G202 hI202) ?_
                rintro r212 F212 G212 ⟨hI212, hB212, hT212, hO212, hp212⟩
                dsimp only
                have q_213 := hI212.r 10 rfl
                have e_214 : (F212 10).toInt = (F202 10).toInt := hO212
                unfold cb_X4_simple_206
                refine WP.ite (fun c_215 => ?_) (fun c_215 => ?_)
                · skip
                  have e_216 := i_eq.mp (show (F20 11) = (29 : Int32) from c_215)
                  unfold cb_X4_simple_229
                  refine WP.ite (fun _ => ?_) (fun c_217 => absurd (by decide) c_217)
                  unfold cb_X4_simple_245
                  refine WP.bind (cs_X3_store hfu r15 F212 G212 hI212) ?_
                  rintro r218 F218 G218 ⟨hI218, hB218, hT218, hO218, hp218⟩
                  dsimp only
                  have q_219 := hI218.r 10 rfl
                  have e_220 : (F218 10).toInt = (F212 10).toInt := hO218
                  unfold cb_X4_simple_253
                  refine WP.ret ?_
                  exact ⟨hI218, (KB.tr (KB.tr (KB.tr (KB.tr (KB.tr (KB.tr (KB.rf : KB F G F G) hB2) hB15) hB20) hB202) hB212) hB218), (KT.tr (KT.tr (KT.tr (KT.tr (KT.tr (KT.tr (rfl : KT F F) hT2) hT15) hT20) hT202) hT212) hT218), (KO.tr (KO.tr (KO.tr (KO.tr (KO.tr (KO.tr (rfl : KO F F) hO2) hO15) hO20) hO202) hO212) hO218), trivial⟩
                · skip
                  have e_221 := mt i_eq.mpr (show ¬ ((F20 11) = (29 : Int32)) from c_215)
                  unfold cb_X4_simple_213
                  have l_222 : (30 : Int32).toInt = 30 := rfl
                  obtain ⟨k_223, e_224, e_225⟩ := i_sub (F20 11) (30 : Int32)
                  refine WP.ix (show vp_in ((F20 11) - (30 : Int32)) 13 from vp_in_iff.mpr ⟨by omega, by omega⟩) ?_
                  have q_226 := i_rng (tb_5 ((F20 11) - (30 : Int32)).toNatClampNeg)
                  refine WP.bind (cs_X1_add hfu (tb_5 ((F20 11) - (30 : Int32)).toNatClampNeg) F212 G212 hI212) ?_
                  rintro r227 F227 G227 ⟨hI227, hB227, hT227, hO227, hp227⟩
                  dsimp only
                  have q_228 := hI227.r 10 rfl
                  have e_229 : (F227 10).toInt = (F212 10).toInt := hO227
                  have q_230 := hI212.r 21 rfl
                  have q_231 := hI227.r 21 rfl
                  have e_232 : (F227 21).toInt = (F212 21).toInt := congrArg Int32.toInt hp227
                  unfold cb_X4_simple_229
                  refine WP.ite (fun _ => ?_) (fun c_233 => absurd (by decide) c_233)
                  unfold cb_X4_simple_245
                  refine WP.bind (cs_X3_store hfu r15 F227 G227 hI227) ?_
                  rintro r234 F234 G234 ⟨hI234, hB234, hT234, hO234, hp234⟩
                  dsimp only
                  have q_235 := hI234.r 10 rfl
                  have e_236 : (F234 10).toInt = (F227 10).toInt := hO234
                  unfold cb_X4_simple_253
                  refine WP.ret ?_
                  exact ⟨hI234, (KB.tr (KB.tr (KB.tr (KB.tr (KB.tr (KB.tr (KB.tr (KB.rf : KB F G F G) hB2) hB15) hB20) hB202) hB212) hB227) hB234), (KT.tr (KT.tr (KT.tr (KT.tr (KT.tr (KT.tr (KT.tr (rfl : KT F F) hT2) hT15) hT20) hT202) hT212) hT227) hT234), (KO.tr (KO.tr (KO.tr (KO.tr (KO.tr (KO.tr (KO.tr (rfl : KO F F) hO2) hO15) hO20) hO202) hO212) hO227) hO234), trivial⟩
              · skip
                have l_237 : (41 : Int32).toInt = 41 := rfl
                have e_238 := mt i_le.mpr (show ¬ ((41 : Int32) ≤ (F20 11)) from c_207)
                unfold cb_X4_simple_186
                refine WP.bind (cs_X3_expression hfu F202 G202 hI202) ?_
                rintro r239 F239 G239 ⟨hI239, hB239, hT239, hO239, hp239⟩
                dsimp only
                have q_240 := hI239.r 10 rfl
                have e_241 : (F239 10).toInt = (F202 10).toInt := hO239
                unfold cb_X4_simple_193
                unfold cb_X4_simple_206
                refine WP.ite (fun c_242 => ?_) (fun c_242 => ?_)
                · skip
                  have e_243 := i_eq.mp (show (F20 11) = (29 : Int32) from c_242)
                  unfold cb_X4_simple_229
                  refine WP.ite (fun _ => ?_) (fun c_244 => absurd (by decide) c_244)
                  unfold cb_X4_simple_245
                  refine WP.bind (cs_X3_store hfu r15 F239 G239 hI239) ?_
                  rintro r245 F245 G245 ⟨hI245, hB245, hT245, hO245, hp245⟩
                  dsimp only
                  have q_246 := hI245.r 10 rfl
                  have e_247 : (F245 10).toInt = (F239 10).toInt := hO245
                  unfold cb_X4_simple_253
                  refine WP.ret ?_
                  exact ⟨hI245, (KB.tr (KB.tr (KB.tr (KB.tr (KB.tr (KB.tr (KB.rf : KB F G F G) hB2) hB15) hB20) hB202) hB239) hB245), (KT.tr (KT.tr (KT.tr (KT.tr (KT.tr (KT.tr (rfl : KT F F) hT2) hT15) hT20) hT202) hT239) hT245), (KO.tr (KO.tr (KO.tr (KO.tr (KO.tr (KO.tr (rfl : KO F F) hO2) hO15) hO20) hO202) hO239) hO245), trivial⟩
                · skip
                  have e_248 := mt i_eq.mpr (show ¬ ((F20 11) = (29 : Int32)) from c_242)
                  unfold cb_X4_simple_213
                  have l_249 : (30 : Int32).toInt = 30 := rfl
                  obtain ⟨k_250, e_251, e_252⟩ := i_sub (F20 11) (30 : Int32)
                  refine WP.ix (show vp_in ((F20 11) - (30 : Int32)) 13 from vp_in_iff.mpr ⟨by omega, by omega⟩) ?_
                  have q_253 := i_rng (tb_5 ((F20 11) - (30 : Int32)).toNatClampNeg)
                  refine WP.bind (cs_X1_add hfu (tb_5 ((F20 11) - (30 : Int32)).toNatClampNeg) F239 G239 hI239) ?_
                  rintro r254 F254 G254 ⟨hI254, hB254, hT254, hO254, hp254⟩
                  dsimp only
                  have q_255 := hI254.r 10 rfl
                  have e_256 : (F254 10).toInt = (F239 10).toInt := hO254
                  have q_257 := hI239.r 21 rfl
                  have q_258 := hI254.r 21 rfl
                  have e_259 : (F254 21).toInt = (F239 21).toInt := congrArg Int32.toInt hp254
                  unfold cb_X4_simple_229
                  refine WP.ite (fun _ => ?_) (fun c_260 => absurd (by decide) c_260)
                  unfold cb_X4_simple_245
                  refine WP.bind (cs_X3_store hfu r15 F254 G254 hI254) ?_
                  rintro r261 F261 G261 ⟨hI261, hB261, hT261, hO261, hp261⟩
                  dsimp only
                  have q_262 := hI261.r 10 rfl
                  have e_263 : (F261 10).toInt = (F254 10).toInt := hO261
                  unfold cb_X4_simple_253
                  refine WP.ret ?_
                  exact ⟨hI261, (KB.tr (KB.tr (KB.tr (KB.tr (KB.tr (KB.tr (KB.tr (KB.rf : KB F G F G) hB2) hB15) hB20) hB202) hB239) hB254) hB261), (KT.tr (KT.tr (KT.tr (KT.tr (KT.tr (KT.tr (KT.tr (rfl : KT F F) hT2) hT15) hT20) hT202) hT239) hT254) hT261), (KO.tr (KO.tr (KO.tr (KO.tr (KO.tr (KO.tr (KO.tr (rfl : KO F F) hO2) hO15) hO20) hO202) hO239) hO254) hO261), trivial⟩
            · skip
              have e_264 := mt i_eq.mpr (show ¬ ((F20 11) = (29 : Int32)) from c_205)
              unfold cb_X4_simple_172
              have l_265 : (0 : Int32).toInt = 0 := rfl
              refine WP.bind (cs_X4_oldValue hfu r15 (0 : Int32) F202 G202 hI202 (by decide)) ?_
              rintro r266 F266 G266 ⟨hI266, hB266, hT266, hO266, hp266⟩
              dsimp only
              have q_267 := hI266.r 10 rfl
              have e_268 : (F266 10).toInt = (F202 10).toInt := hO266
              unfold cb_X4_simple_179
              refine WP.ite (fun c_269 => ?_) (fun c_269 => ?_)
              · skip
                have l_270 : (41 : Int32).toInt = 41 := rfl
                have e_271 := i_le.mp (show (41 : Int32) ≤ (F20 11) from c_269)
                unfold cb_X4_simple_196
                have l_272 : (66 : Int32).toInt = 66 := rfl
                have l_273 : (1 : Int32).toInt = 1 := rfl
                refine WP.bind (cs_X1_addPair hfu (66 : Int32) (1 : Int32) F266 G266 hI266) ?_
                rintro r274 F274 G274 ⟨hI274, hB274, hT274, hO274, hp274⟩
                dsimp only
                have q_275 := hI274.r 10 rfl
                have e_276 : (F274 10).toInt = (F266 10).toInt := hO274
                unfold cb_X4_simple_206
                refine WP.ite (fun c_277 => ?_) (fun c_277 => ?_)
                · skip
                  have e_278 := i_eq.mp (show (F20 11) = (29 : Int32) from c_277)
                  unfold cb_X4_simple_229
                  refine WP.ite (fun _ => ?_) (fun c_279 => absurd (by decide) c_279)
                  unfold cb_X4_simple_245
                  refine WP.bind (cs_X3_store hfu r15 F274 G274 hI274) ?_
                  rintro r280 F280 G280 ⟨hI280, hB280, hT280, hO280, hp280⟩
                  dsimp only
                  have q_281 := hI280.r 10 rfl
                  have e_282 : (F280 10).toInt = (F274 10).toInt := hO280
                  unfold cb_X4_simple_253
                  refine WP.ret ?_
                  exact ⟨hI280, (KB.tr (KB.tr (KB.tr (KB.tr (KB.tr (KB.tr (KB.tr (KB.rf : KB F G F G) hB2) hB15) hB20) hB202) hB266) hB274) hB280), (KT.tr (KT.tr (KT.tr (KT.tr (KT.tr (KT.tr (KT.tr (rfl : KT F F) hT2) hT15) hT20) hT202) hT266) hT274) hT280), (KO.tr (KO.tr (KO.tr (KO.tr (KO.tr (KO.tr (KO.tr (rfl : KO F F) hO2) hO15) hO20) hO202) hO266) hO274) hO280), trivial⟩
                · skip
                  have e_283 := mt i_eq.mpr (show ¬ ((F20 11) = (29 : Int32)) from c_277)
                  unfold cb_X4_simple_213
                  have l_284 : (30 : Int32).toInt = 30 := rfl
                  obtain ⟨k_285, e_286, e_287⟩ := i_sub (F20 11) (30 : Int32)
                  refine WP.ix (show vp_in ((F20 11) - (30 : Int32)) 13 from vp_in_iff.mpr ⟨by omega, by omega⟩) ?_
                  have q_288 := i_rng (tb_5 ((F20 11) - (30 : Int32)).toNatClampNeg)
                  refine WP.bind (cs_X1_add hfu (tb_5 ((F20 11) - (30 : Int32)).toNatClampNeg) F274 G274 hI274) ?_
                  rintro r289 F289 G289 ⟨hI289, hB289, hT289, hO289, hp289⟩
                  dsimp only
                  have q_290 := hI289.r 10 rfl
                  have e_291 : (F289 10).toInt = (F274 10).toInt := hO289
                  have q_292 := hI274.r 21 rfl
                  have q_293 := hI289.r 21 rfl
                  have e_294 : (F289 21).toInt = (F274 21).toInt := congrArg Int32.toInt hp289
                  unfold cb_X4_simple_229
                  refine WP.ite (fun _ => ?_) (fun c_295 => absurd (by decide) c_295)
                  unfold cb_X4_simple_245
                  refine WP.bind (cs_X3_store hfu r15 F289 G289 hI289) ?_
                  rintro r296 F296 G296 ⟨hI296, hB296, hT296, hO296, hp296⟩
                  dsimp only
                  have q_297 := hI296.r 10 rfl
                  have e_298 : (F296 10).toInt = (F289 10).toInt := hO296
                  unfold cb_X4_simple_253
                  refine WP.ret ?_
                  exact ⟨hI296, (KB.tr (KB.tr (KB.tr (KB.tr (KB.tr (KB.tr (KB.tr (KB.tr (KB.rf : KB F G F G) hB2) hB15) hB20) hB202) hB266) hB274) hB289) hB296), (KT.tr (KT.tr (KT.tr (KT.tr (KT.tr (KT.tr (KT.tr (KT.tr (rfl : KT F F) hT2) hT15) hT20) hT202) hT266) hT274) hT289) hT296), (KO.tr (KO.tr (KO.tr (KO.tr (KO.tr (KO.tr (KO.tr (KO.tr (rfl : KO F F) hO2) hO15) hO20) hO202) hO266) hO274) hO289) hO296), trivial⟩
              · skip
                have l_299 : (41 : Int32).toInt = 41 := rfl
                have e_300 := mt i_le.mpr (show ¬ ((41 : Int32) ≤ (F20 11)) from c_269)
                unfold cb_X4_simple_186
                refine WP.bind (cs_X3_expression hfu F266 G266 hI266) ?_
                rintro r301 F301 G301 ⟨hI301, hB301, hT301, hO301, hp301⟩
                dsimp only
                have q_302 := hI301.r 10 rfl
                have e_303 : (F301 10).toInt = (F266 10).toInt := hO301
                unfold cb_X4_simple_193
                unfold cb_X4_simple_206
                refine WP.ite (fun c_304 => ?_) (fun c_304 => ?_)
                · skip
                  have e_305 := i_eq.mp (show (F20 11) = (29 : Int32) from c_304)
                  unfold cb_X4_simple_229
                  refine WP.ite (fun _ => ?_) (fun c_306 => absurd (by decide) c_306)
                  unfold cb_X4_simple_245
                  refine WP.bind (cs_X3_store hfu r15 F301 G301 hI301) ?_
                  rintro r307 F307 G307 ⟨hI307, hB307, hT307, hO307, hp307⟩
                  dsimp only
                  have q_308 := hI307.r 10 rfl
                  have e_309 : (F307 10).toInt = (F301 10).toInt := hO307
                  unfold cb_X4_simple_253
                  refine WP.ret ?_
                  exact ⟨hI307, (KB.tr (KB.tr (KB.tr (KB.tr (KB.tr (KB.tr (KB.tr (KB.rf : KB F G F G) hB2) hB15) hB20) hB202) hB266) hB301) hB307), (KT.tr (KT.tr (KT.tr (KT.tr (KT.tr (KT.tr (KT.tr (rfl : KT F F) hT2) hT15) hT20) hT202) hT266) hT301) hT307), (KO.tr (KO.tr (KO.tr (KO.tr (KO.tr (KO.tr (KO.tr (rfl : KO F F) hO2) hO15) hO20) hO202) hO266) hO301) hO307), trivial⟩
                · skip
                  have e_310 := mt i_eq.mpr (show ¬ ((F20 11) = (29 : Int32)) from c_304)
                  unfold cb_X4_simple_213
                  have l_311 : (30 : Int32).toInt = 30 := rfl
                  obtain ⟨k_312, e_313, e_314⟩ := i_sub (F20 11) (30 : Int32)
                  refine WP.ix (show vp_in ((F20 11) - (30 : Int32)) 13 from vp_in_iff.mpr ⟨by omega, by omega⟩) ?_
                  have q_315 := i_rng (tb_5 ((F20 11) - (30 : Int32)).toNatClampNeg)
                  refine WP.bind (cs_X1_add hfu (tb_5 ((F20 11) - (30 : Int32)).toNatClampNeg) F301 G301 hI301) ?_
                  rintro r316 F316 G316 ⟨hI316, hB316, hT316, hO316, hp316⟩
                  dsimp only
                  have q_317 := hI316.r 10 rfl
                  have e_318 : (F316 10).toInt = (F301 10).toInt := hO316
                  have q_319 := hI301.r 21 rfl
                  have q_320 := hI316.r 21 rfl
                  have e_321 : (F316 21).toInt = (F301 21).toInt := congrArg Int32.toInt hp316
                  unfold cb_X4_simple_229
                  refine WP.ite (fun _ => ?_) (fun c_322 => absurd (by decide) c_322)
                  unfold cb_X4_simple_245
                  refine WP.bind (cs_X3_store hfu r15 F316 G316 hI316) ?_
                  rintro r323 F323 G323 ⟨hI323, hB323, hT323, hO323, hp323⟩
                  dsimp only
                  have q_324 := hI323.r 10 rfl
                  have e_325 : (F323 10).toInt = (F316 10).toInt := hO323
                  unfold cb_X4_simple_253
                  refine WP.ret ?_
                  exact ⟨hI323, (KB.tr (KB.tr (KB.tr (KB.tr (KB.tr (KB.tr (KB.tr (KB.tr (KB.rf : KB F G F G) hB2) hB15) hB20) hB202) hB266) hB301) hB316) hB323), (KT.tr (KT.tr (KT.tr (KT.tr (KT.tr (KT.tr (KT.tr (KT.tr (rfl : KT F F) hT2) hT15) hT20) hT202) hT266) hT301) hT316) hT323), (KO.tr (KO.tr (KO.tr (KO.tr (KO.tr (KO.tr (KO.tr (KO.tr (rfl : KO F F) hO2) hO15) hO20) hO202) hO266) hO301) hO316) hO323), trivial⟩
          · skip
            have l_326 : (42 : Int32).toInt = 42 := rfl
            have e_327 := mt i_le.mpr (show ¬ ((F20 11) ≤ (42 : Int32)) from c_199)
            unfold cb_X4_simple_149
            refine WP.bind (cs_X2_fail hfu (2 : Int32) F20 G20 hI20) ?_
            rintro r328 F328 G328 ⟨hI328, hB328, hT328, hO328, hp328⟩
            dsimp only
            have q_329 := hI328.r 10 rfl
            have e_330 : (F328 10).toInt = (F20 10).toInt := hO328
            unfold cb_X4_simple_157
            refine WP.ret ?_
            exact ⟨hI328, (KB.tr (KB.tr (KB.tr (KB.tr (KB.rf : KB F G F G) hB2) hB15) hB20) hB328), (KT.tr (KT.tr (KT.tr (KT.tr (rfl : KT F F) hT2) hT15) hT20) hT328), (KO.tr (KO.tr (KO.tr (KO.tr (rfl : KO F F) hO2) hO15) hO20) hO328), trivial⟩
theorem cs_X4_leap {fu : Nat} (hfu : 8589934592 ≤ fu) (F : PF) (G : PG) (hI : CI F G) : WP (cf_X4_leap fu F G) (fun r' F' G' => CI F' G' ∧ KB F G F' G' ∧ KT F F' ∧ KO F F' ∧ True) := by
  unfold cf_X4_leap
  unfold cb_X4_leap_0
  refine WP.ite (fun c_1 => ?_) (fun c_1 => ?_)
  · skip
    have q_2 := i_rng (F 29)
    have l_3 : (0 : Int32).toInt = 0 := rfl
    have e_4 := i_eq.mp (show (F 29) = (0 : Int32) from c_1)
    unfold cb_X4_leap_7
    have l_5 : (6 : Int32).toInt = 6 := rfl
    have q_6 := i_rng (F 13)
    refine WP.bind (cs_X5_note hfu (6 : Int32) (F 13) F G hI) ?_
    rintro r7 F7 G7 ⟨hI7, hB7, hT7, hO7, hp7⟩
    dsimp only
    have q_8 := hI.r 10 rfl
    have q_9 := hI7.r 10 rfl
    have e_10 : (F7 10).toInt = (F 10).toInt := hO7
    unfold cb_X4_leap_23
    refine WP.ite (fun c_11 => ?_) (fun c_11 => ?_)
    · skip
      have q_12 := i_rng (F7 11)
      have l_13 : (13 : Int32).toInt = 13 := rfl
      have e_14 := i_eq.mp (show (F7 11) = (13 : Int32) from c_11)
      unfold cb_X4_leap_35
      have l_15 : (84 : Int32).toInt = 84 := rfl
      have q_16 := i_rng (F7 30)
      refine WP.bind (cs_X1_addJump hfu (84 : Int32) (F7 30) F7 G7 hI7) ?_
      rintro r17 F17 G17 ⟨hI17, hB17, hT17, hO17, hp17⟩
      dsimp only
      have q_18 := hI17.r 10 rfl
      have e_19 : (F17 10).toInt = (F7 10).toInt := hO17
      have q_20 := hI7.r 21 rfl
      have q_21 := hI17.r 21 rfl
      have e_22 : (F17 21).toInt = (F7 21).toInt := congrArg Int32.toInt hp17
      unfold cb_X4_leap_49
      have q_23 := i_rng r17
      have j_24 : CI (fup F17 30 r17) G17 := CI.fr rfl hI17
      unfold cb_X4_leap_52
      unfold cb_X4_leap_72
      refine WP.bind (cs_X2_next hfu (fup F17 30 r17) G17 j_24) ?_
      rintro r25 F25 G25 ⟨hI25, hB25, hT25, hO25, hp25⟩
      dsimp only
      have q_26 := hI25.r 10 rfl
      have e_27 : (F25 10).toInt = (F17 10).toInt := hO25
      unfold cb_X4_leap_79
      have l_28 : (26 : Int32).toInt = 26 := rfl
      refine WP.bind (cs_X2_expect hfu (26 : Int32) F25 G25 hI25) ?_
      rintro r29 F29 G29 ⟨hI29, hB29, hT29, hO29, hp29⟩
      dsimp only
      have q_30 := hI29.r 10 rfl
      have e_31 : (F29 10).toInt = (F25 10).toInt := hO29
      unfold cb_X4_leap_88
      refine WP.ret ?_
      exact ⟨hI29, (KB.tr (KB.tr (KB.f (by decide) (KB.tr (KB.tr (KB.rf : KB F G F G) hB7) hB17)) hB25) hB29), (KT.tr (KT.tr (KT.f (by decide) (KT.tr (KT.tr (rfl : KT F F) hT7) hT17)) hT25) hT29), (KO.tr (KO.tr (KO.f (by decide) (KO.tr (KO.tr (rfl : KO F F) hO7) hO17)) hO25) hO29), trivial⟩
    · skip
      have q_32 := i_rng (F7 11)
      have l_33 : (13 : Int32).toInt = 13 := rfl
      have e_34 := mt i_eq.mpr (show ¬ ((F7 11) = (13 : Int32)) from c_11)
      unfold cb_X4_leap_55
      have l_35 : (84 : Int32).toInt = 84 := rfl
      have q_36 := i_rng (F7 31)
      refine WP.bind (cs_X1_addJump hfu (84 : Int32) (F7 31) F7 G7 hI7) ?_
      rintro r37 F37 G37 ⟨hI37, hB37, hT37, hO37, hp37⟩
      dsimp only
      have q_38 := hI37.r 10 rfl
      have e_39 : (F37 10).toInt = (F7 10).toInt := hO37
      have q_40 := hI7.r 21 rfl
      have q_41 := hI37.r 21 rfl
      have e_42 : (F37 21).toInt = (F7 21).toInt := congrArg Int32.toInt hp37
      unfold cb_X4_leap_69
      have q_43 := i_rng r37
      have j_44 : CI (fup F37 31 r37) G37 := CI.fr rfl hI37
      unfold cb_X4_leap_72
      refine WP.bind (cs_X2_next hfu (fup F37 31 r37) G37 j_44) ?_
      rintro r45 F45 G45 ⟨hI45, hB45, hT45, hO45, hp45⟩
      dsimp only
      have q_46 := hI45.r 10 rfl
      have e_47 : (F45 10).toInt = (F37 10).toInt := hO45
      unfold cb_X4_leap_79
      have l_48 : (26 : Int32).toInt = 26 := rfl
      refine WP.bind (cs_X2_expect hfu (26 : Int32) F45 G45 hI45) ?_
      rintro r49 F49 G49 ⟨hI49, hB49, hT49, hO49, hp49⟩
      dsimp only
      have q_50 := hI49.r 10 rfl
      have e_51 : (F49 10).toInt = (F45 10).toInt := hO49
      unfold cb_X4_leap_88
      refine WP.ret ?_
      exact ⟨hI49, (KB.tr (KB.tr (KB.f (by decide) (KB.tr (KB.tr (KB.rf : KB F G F G) hB7) hB37)) hB45) hB49), (KT.tr (KT.tr (KT.f (by decide) (KT.tr (KT.tr (rfl : KT F F) hT7) hT37)) hT45) hT49), (KO.tr (KO.tr (KO.f (by decide) (KO.tr (KO.tr (rfl : KO F F) hO7) hO37)) hO45) hO49), trivial⟩
  · skip
    have q_52 := i_rng (F 29)
    have l_53 : (0 : Int32).toInt = 0 := rfl
    have e_54 := mt i_eq.mpr (show ¬ ((F 29) = (0 : Int32)) from c_1)
    unfold cb_X4_leap_23
    refine WP.ite (fun c_55 => ?_) (fun c_55 => ?_)
    · skip
      have q_56 := i_rng (F 11)
      have l_57 : (13 : Int32).toInt = 13 := rfl
      have e_58 := i_eq.mp (show (F 11) = (13 : Int32) from c_55)
      unfold cb_X4_leap_35
      have l_59 : (84 : Int32).toInt = 84 := rfl
      have q_60 := i_rng (F 30)
      refine WP.bind (cs_X1_addJump hfu (84 : Int32) (F 30) F G hI) ?_
      rintro r61 F61 G61 ⟨hI61, hB61, hT61, hO61, hp61⟩
      dsimp only
      have q_62 := hI.r 10 rfl
      have q_63 := hI61.r 10 rfl
      have e_64 : (F61 10).toInt = (F 10).toInt := hO61
      have q_65 := hI.r 21 rfl
      have q_66 := hI61.r 21 rfl
      have e_67 : (F61 21).toInt = (F 21).toInt := congrArg Int32.toInt hp61
      unfold cb_X4_leap_49
      have q_68 := i_rng r61
      have j_69 : CI (fup F61 30 r61) G61 := CI.fr rfl hI61
      unfold cb_X4_leap_52
      unfold cb_X4_leap_72
      refine WP.bind (cs_X2_next hfu (fup F61 30 r61) G61 j_69) ?_
      rintro r70 F70 G70 ⟨hI70, hB70, hT70, hO70, hp70⟩
      dsimp only
      have q_71 := hI70.r 10 rfl
      have e_72 : (F70 10).toInt = (F61 10).toInt := hO70
      unfold cb_X4_leap_79
      have l_73 : (26 : Int32).toInt = 26 := rfl
      refine WP.bind (cs_X2_expect hfu (26 : Int32) F70 G70 hI70) ?_
      rintro r74 F74 G74 ⟨hI74, hB74, hT74, hO74, hp74⟩
      dsimp only
      have q_75 := hI74.r 10 rfl
      have e_76 : (F74 10).toInt = (F70 10).toInt := hO74
      unfold cb_X4_leap_88
      refine WP.ret ?_
      exact ⟨hI74, (KB.tr (KB.tr (KB.f (by decide) (KB.tr (KB.rf : KB F G F G) hB61)) hB70) hB74), (KT.tr (KT.tr (KT.f (by decide) (KT.tr (rfl : KT F F) hT61)) hT70) hT74), (KO.tr (KO.tr (KO.f (by decide) (KO.tr (rfl : KO F F) hO61)) hO70) hO74), trivial⟩
    · skip
      have q_77 := i_rng (F 11)
      have l_78 : (13 : Int32).toInt = 13 := rfl
      have e_79 := mt i_eq.mpr (show ¬ ((F 11) = (13 : Int32)) from c_55)
      unfold cb_X4_leap_55
      have l_80 : (84 : Int32).toInt = 84 := rfl
      have q_81 := i_rng (F 31)
      refine WP.bind (cs_X1_addJump hfu (84 : Int32) (F 31) F G hI) ?_
      rintro r82 F82 G82 ⟨hI82, hB82, hT82, hO82, hp82⟩
      dsimp only
      have q_83 := hI.r 10 rfl
      have q_84 := hI82.r 10 rfl
      have e_85 : (F82 10).toInt = (F 10).toInt := hO82
      have q_86 := hI.r 21 rfl
      have q_87 := hI82.r 21 rfl
      have e_88 : (F82 21).toInt = (F 21).toInt := congrArg Int32.toInt hp82
      unfold cb_X4_leap_69
      have q_89 := i_rng r82
      have j_90 : CI (fup F82 31 r82) G82 := CI.fr rfl hI82
      unfold cb_X4_leap_72
      refine WP.bind (cs_X2_next hfu (fup F82 31 r82) G82 j_90) ?_
      rintro r91 F91 G91 ⟨hI91, hB91, hT91, hO91, hp91⟩
      dsimp only
      have q_92 := hI91.r 10 rfl
      have e_93 : (F91 10).toInt = (F82 10).toInt := hO91
      unfold cb_X4_leap_79
      have l_94 : (26 : Int32).toInt = 26 := rfl
      refine WP.bind (cs_X2_expect hfu (26 : Int32) F91 G91 hI91) ?_
      rintro r95 F95 G95 ⟨hI95, hB95, hT95, hO95, hp95⟩
      dsimp only
      have q_96 := hI95.r 10 rfl
      have e_97 : (F95 10).toInt = (F91 10).toInt := hO95
      unfold cb_X4_leap_88
      refine WP.ret ?_
      exact ⟨hI95, (KB.tr (KB.tr (KB.f (by decide) (KB.tr (KB.rf : KB F G F G) hB82)) hB91) hB95), (KT.tr (KT.tr (KT.f (by decide) (KT.tr (rfl : KT F F) hT82)) hT91) hT95), (KO.tr (KO.tr (KO.f (by decide) (KO.tr (rfl : KO F F) hO82)) hO91) hO95), trivial⟩
def cIH2 (rc : RC) (d : Nat) : Prop := (∀ (F : PF) (G : PG), CI F G → 4 * (40 - (F 10).toInt) + 1 ≤ (d : Int) → WP (rc 0 0 0 F G) (fun r' F' G' => CI F' G' ∧ KB F G F' G' ∧ KT F F' ∧ KO F F' ∧ True)) ∧ (∀ (F : PF) (G : PG), CI F G → 4 * (40 - (F 10).toInt) + 3 ≤ (d : Int) → WP (rc 1 0 0 F G) (fun r' F' G' => CI F' G' ∧ KB F G F' G' ∧ KT F F' ∧ KO F F' ∧ True)) ∧ (∀ (F : PF) (G : PG), CI F G → 4 * (40 - (F 10).toInt) + 3 ≤ (d : Int) → WP (rc 2 0 0 F G) (fun r' F' G' => CI F' G' ∧ KB F G F' G' ∧ KT F F' ∧ KO F F' ∧ True)) ∧ (∀ (F : PF) (G : PG), CI F G → 4 * (40 - (F 10).toInt) + 2 ≤ (d : Int) → WP (rc 3 0 0 F G) (fun r' F' G' => CI F' G' ∧ KB F G F' G' ∧ KT F F' ∧ KO F F' ∧ True)) ∧ (∀ (F : PF) (G : PG), CI F G → 4 * (40 - (F 10).toInt) + 5 ≤ (d : Int) → WP (rc 4 0 0 F G) (fun r' F' G' => CI F' G' ∧ KB F G F' G' ∧ KT F F' ∧ KO F F' ∧ True)) ∧ (∀ (F : PF) (G : PG), CI F G → 4 * (40 - (F 10).toInt) + 6 ≤ (d : Int) → WP (rc 5 0 0 F G) (fun r' F' G' => CI F' G' ∧ KB F G F' G' ∧ KT F F' ∧ KO F F' ∧ True)) ∧ (∀ (F : PF) (G : PG), CI F G → 4 * (40 - (F 10).toInt) + 4 ≤ (d : Int) → WP (rc 6 0 0 F G) (fun r' F' G' => CI F' G' ∧ KB F G F' G' ∧ KT F F' ∧ KO F F' ∧ True)) ∧ (∀ (F : PF) (G : PG), CI F G → 4 * (40 - (F 10).toInt) + 3 ≤ (d : Int) → WP (rc 7 0 0 F G) (fun r' F' G' => CI F' G' ∧ KB F G F' G' ∧ KT F F' ∧ KO F F' ∧ True))
theorem cz_X4_block_15 {fu : Nat} (hfu : 8589934592 ≤ fu) (rc : RC) {d : Nat} (ih : cIH2 rc d) {F0 : PF} {G0 : PG} (hd : 4 * (40 - (F0 10).toInt) + 1 ≤ (d + 1 : Int)) : ∀ (n : Nat) (x1 : Int32) (F : PF) (G : PG) (hI : CI F G) (hB : KB F0 G0 F G) (hT : KT F0 F) (i_0 : (F 10).toInt = (F0 10).toInt + 1) (i_1 : 0 ≤ (F0 10).toInt) (i_2 : (F0 10).toInt < 40) (hn : (2147483647 - x1.toInt).toNat < n), WP (cl_X4_block_15 fu rc n x1 F G) (fun r' F' G' => CI F' G' ∧ KB F0 G0 F' G' ∧ KT F0 F' ∧ KO F0 F' ∧ True) := by
  intro n
  induction n with
  | zero =>
    intro x1 F G hI hB hT i_0 i_1 i_2 hn
    exact absurd hn (Nat.not_lt_zero _)
  | succ n ihn =>
    intro x1 F G hI hB hT i_0 i_1 i_2 hn
    show WP (cb_X4_block_15 fu rc (cl_X4_block_15 fu rc n)  x1 F G) _
    unfold cb_X4_block_15
    refine WP.ite (fun c_1 => ?_) (fun c_1 => ?_)
    · skip
      have l_2 : (4001 : Int32).toInt = 4001 := rfl
      have q_3 := i_rng x1
      have e_4 := i_le.mp (show (4001 : Int32) ≤ x1 from c_1)
      unfold cb_X4_block_56
      have l_5 : (24 : Int32).toInt = 24 := rfl
      have q_6 := hI.r 10 rfl
      refine WP.bind (cs_X2_closesWith hfu (24 : Int32) F G hI (show 1 ≤ (F 10).toInt by omega)) ?_
      rintro r7 F7 G7 ⟨hI7, hB7, hT7, hp7⟩
      dsimp only
      have q_8 := hI7.r 10 rfl
      have e_9 : (F7 10).toInt = (F 10).toInt - 1 := hp7
      unfold cb_X4_block_65
      refine WP.ret ?_
      have q_10 := i_rng (F0 10)
      exact ⟨hI7, (KB.tr hB hB7), (KT.tr hT hT7), (show (F7 10).toInt = (F0 10).toInt by omega), trivial⟩
    · skip
      have l_11 : (4001 : Int32).toInt = 4001 := rfl
      have q_12 := i_rng x1
      have e_13 := mt i_le.mpr (show ¬ ((4001 : Int32) ≤ x1) from c_1)
      unfold cb_X4_block_22
      refine WP.ite (fun c_14 => ?_) (fun c_14 => ?_)
      · skip
        have q_15 := i_rng (F 11)
        have l_16 : (24 : Int32).toInt = 24 := rfl
        have e_17 := i_eq.mp (show (F 11) = (24 : Int32) from c_14)
        unfold cb_X4_block_56
        have q_18 := hI.r 10 rfl
        refine WP.bind (cs_X2_closesWith hfu (24 : Int32) F G hI (show 1 ≤ (F 10).toInt by omega)) ?_
        rintro r19 F19 G19 ⟨hI19, hB19, hT19, hp19⟩
        dsimp only
        have q_20 := hI19.r 10 rfl
        have e_21 : (F19 10).toInt = (F 10).toInt - 1 := hp19
        unfold cb_X4_block_65
        refine WP.ret ?_
        have q_22 := i_rng (F0 10)
        exact ⟨hI19, (KB.tr hB hB19), (KT.tr hT hT19), (show (F19 10).toInt = (F0 10).toInt by omega), trivial⟩
      · skip
        have q_23 := i_rng (F 11)
        have l_24 : (24 : Int32).toInt = 24 := rfl
        have e_25 := mt i_eq.mpr (show ¬ ((F 11) = (24 : Int32)) from c_14)
        unfold cb_X4_block_34
        refine WP.ite (fun c_26 => ?_) (fun c_26 => ?_)
        · skip
          have l_27 : (-2 : Int32).toInt = -2 := rfl
          have e_28 := i_eq.mp (show (F 11) = (-2 : Int32) from c_26)
          unfold cb_X4_block_56
          have q_29 := hI.r 10 rfl
          refine WP.bind (cs_X2_closesWith hfu (24 : Int32) F G hI (show 1 ≤ (F 10).toInt by omega)) ?_
          rintro r30 F30 G30 ⟨hI30, hB30, hT30, hp30⟩
          dsimp only
          have q_31 := hI30.r 10 rfl
          have e_32 : (F30 10).toInt = (F 10).toInt - 1 := hp30
          unfold cb_X4_block_65
          refine WP.ret ?_
          have q_33 := i_rng (F0 10)
          exact ⟨hI30, (KB.tr hB hB30), (KT.tr hT hT30), (show (F30 10).toInt = (F0 10).toInt by omega), trivial⟩
        · skip
          have l_34 : (-2 : Int32).toInt = -2 := rfl
          have e_35 := mt i_eq.mpr (show ¬ ((F 11) = (-2 : Int32)) from c_26)
          unfold cb_X4_block_46
          have q_36 := hI.r 10 rfl
          refine WP.bind (ih.2.2.2.2.2.2.1 F G hI (by omega)) ?_
          rintro r37 F37 G37 ⟨hI37, hB37, hT37, hO37, hp37⟩
          dsimp only
          have q_38 := hI37.r 10 rfl
          have e_39 : (F37 10).toInt = (F 10).toInt := hO37
          unfold cb_X4_block_50
          have l_40 : (1 : Int32).toInt = 1 := rfl
          obtain ⟨k_41, e_42, e_43⟩ := i_add x1 (1 : Int32)
          exact ihn (x1 + (1 : Int32)) F37 G37 hI37 (KB.tr hB hB37) (KT.tr hT hT37) (show (F37 10).toInt = (F0 10).toInt + 1 by omega) (show 0 ≤ (F0 10).toInt by omega) (show (F0 10).toInt < 40 by omega) (by omega)
theorem ct_X4_block {fu d : Nat} (hfu : 8589934592 ≤ fu) (rc : RC) (ih : cIH2 rc d) (F : PF) (G : PG) (hI : CI F G) (hd : 4 * (40 - (F 10).toInt) + 1 ≤ (d + 1 : Int)) : WP (ch_X4_block fu rc F G) (fun r' F' G' => CI F' G' ∧ KB F G F' G' ∧ KT F F' ∧ KO F F' ∧ True) := by
  unfold ch_X4_block
  have q_10 := hI.r 10 rfl
  unfold cb_X4_block_0
  have l_1 : (23 : Int32).toInt = 23 := rfl
  refine WP.bind (cs_X2_opens hfu (23 : Int32) F G hI) ?_
  rintro r2 F2 G2 ⟨hI2, hB2, hT2, hp2⟩
  dsimp only
  have q_3 := b_rng (hp2.1)
  have q_4 := hI.r 10 rfl
  have q_5 := hI2.r 10 rfl
  have e_6 : r2.toInt = 1 → (F2 10).toInt = (F 10).toInt + 1 ∧ (F 10).toInt < 40 := hp2.2.1
  have e_7 : r2.toInt = 0 → (F2 10).toInt = (F 10).toInt := hp2.2.2
  unfold cb_X4_block_9
  refine WP.ite (fun c_8 => ?_) (fun c_8 => ?_)
  · skip
    have l_9 : (0 : Int32).toInt = 0 := rfl
    have e_10 := i_eq.mp (show r2 = (0 : Int32) from c_8)
    unfold cb_X4_block_12
    refine WP.ret ?_
    exact ⟨hI2, (KB.tr (KB.rf : KB F G F G) hB2), (KT.tr (rfl : KT F F) hT2), (show (F2 10).toInt = (F 10).toInt by omega), trivial⟩
  · skip
    have l_11 : (0 : Int32).toInt = 0 := rfl
    have e_12 := mt i_eq.mpr (show ¬ (r2 = (0 : Int32)) from c_8)
    unfold cb_X4_block_13
    exact cz_X4_block_15 (F0 := F) (G0 := G) hfu rc ih hd fu (0 : Int32) F2 G2 hI2 (KB.tr (KB.rf : KB F G F G) hB2) (KT.tr (rfl : KT F F) hT2) (show (F2 10).toInt = (F 10).toInt + 1 by omega) (show 0 ≤ (F 10).toInt by omega) (show (F 10).toInt < 40 by omega) (by omega)
theorem ct_X4_doStatement {fu d : Nat} (hfu : 8589934592 ≤ fu) (rc : RC) (ih : cIH2 rc d) (F : PF) (G : PG) (hI : CI F G) (hd : 4 * (40 - (F 10).toInt) + 3 ≤ (d + 1 : Int)) : WP (ch_X4_doStatement fu rc F G) (fun r' F' G' => CI F' G' ∧ KB F G F' G' ∧ KT F F' ∧ KO F F' ∧ True) := by
  unfold ch_X4_doStatement
  have q_10 := hI.r 10 rfl
  unfold cb_X4_doStatement_0
  have l_1 : (11 : Int32).toInt = 11 := rfl
  refine WP.bind (cs_X2_opens hfu (11 : Int32) F G hI) ?_
  rintro r2 F2 G2 ⟨hI2, hB2, hT2, hp2⟩
  dsimp only
  have q_3 := b_rng (hp2.1)
  have q_4 := hI.r 10 rfl
  have q_5 := hI2.r 10 rfl
  have e_6 : r2.toInt = 1 → (F2 10).toInt = (F 10).toInt + 1 ∧ (F 10).toInt < 40 := hp2.2.1
  have e_7 : r2.toInt = 0 → (F2 10).toInt = (F 10).toInt := hp2.2.2
  unfold cb_X4_doStatement_9
  refine WP.ite (fun c_8 => ?_) (fun c_8 => ?_)
  · skip
    have l_9 : (0 : Int32).toInt = 0 := rfl
    have e_10 := i_eq.mp (show r2 = (0 : Int32) from c_8)
    unfold cb_X4_doStatement_12
    refine WP.ret ?_
    exact ⟨hI2, (KB.tr (KB.rf : KB F G F G) hB2), (KT.tr (rfl : KT F F) hT2), (show (F2 10).toInt = (F 10).toInt by omega), trivial⟩
  · skip
    have l_11 : (0 : Int32).toInt = 0 := rfl
    have e_12 := mt i_eq.mpr (show ¬ (r2 = (0 : Int32)) from c_8)
    unfold cb_X4_doStatement_13
    refine WP.bind (ih.2.2.2.2.2.1 F2 G2 hI2 (by omega)) ?_
    rintro r13 F13 G13 ⟨hI13, hB13, hT13, hO13, hp13⟩
    dsimp only
    have q_14 := hI13.r 10 rfl
    have e_15 : (F13 10).toInt = (F2 10).toInt := hO13
    unfold cb_X4_doStatement_35
    have q_16 := i_rng (F13 31)
    have q_17 := hI13.r 6 rfl
    refine WP.bind (cs_X1_aim hfu (F13 31) (F13 6) F13 G13 hI13) ?_
    rintro r18 F18 G18 ⟨hI18, hB18, hT18, hO18, hp18⟩
    dsimp only
    have q_19 := hI18.r 10 rfl
    have e_20 : (F18 10).toInt = (F13 10).toInt := hO18
    unfold cb_X4_doStatement_53
    have l_21 : (10 : Int32).toInt = 10 := rfl
    refine WP.bind (cs_X2_expect hfu (10 : Int32) F18 G18 hI18) ?_
    rintro r22 F22 G22 ⟨hI22, hB22, hT22, hO22, hp22⟩
    dsimp only
    have q_23 := hI22.r 10 rfl
    have e_24 : (F22 10).toInt = (F18 10).toInt := hO22
    unfold cb_X4_doStatement_62
    refine WP.bind (cs_X4_condition hfu F22 G22 hI22) ?_
    rintro r25 F25 G25 ⟨hI25, hB25, hT25, hO25, hp25⟩
    dsimp only
    have q_26 := hI25.r 10 rfl
    have e_27 : (F25 10).toInt = (F22 10).toInt := hO25
    unfold cb_X4_doStatement_66
    have l_28 : (26 : Int32).toInt = 26 := rfl
    refine WP.bind (cs_X2_expect hfu (26 : Int32) F25 G25 hI25) ?_
    rintro r29 F29 G29 ⟨hI29, hB29, hT29, hO29, hp29⟩
    dsimp only
    have q_30 := hI29.r 10 rfl
    have e_31 : (F29 10).toInt = (F25 10).toInt := hO29
    unfold cb_X4_doStatement_75
    have l_32 : (85 : Int32).toInt = 85 := rfl
    have q_33 := hI2.r 6 rfl
    refine WP.bind (cs_X1_addPair hfu (85 : Int32) (F2 6) F29 G29 hI29) ?_
    rintro r34 F34 G34 ⟨hI34, hB34, hT34, hO34, hp34⟩
    dsimp only
    have q_35 := hI34.r 10 rfl
    have e_36 : (F34 10).toInt = (F29 10).toInt := hO34
    unfold cb_X4_doStatement_85
    have q_37 := i_rng (F34 30)
    have q_38 := hI34.r 6 rfl
    refine WP.bind (cs_X1_aim hfu (F34 30) (F34 6) F34 G34 hI34) ?_
    rintro r39 F39 G39 ⟨hI39, hB39, hT39, hO39, hp39⟩
    dsimp only
    have q_40 := hI39.r 10 rfl
    have e_41 : (F39 10).toInt = (F34 10).toInt := hO39
    unfold cb_X4_doStatement_103
    have q_42 := i_rng (F2 30)
    have j_43 : CI (fup F39 30 (F2 30)) G39 := CI.fr rfl hI39
    unfold cb_X4_doStatement_108
    have q_44 := i_rng (F2 31)
    have j_45 : CI (fup (fup F39 30 (F2 30)) 31 (F2 31)) G39 := CI.fr rfl j_43
    unfold cb_X4_doStatement_113
    refine WP.bind (cs_X2_closes hfu (fup (fup F39 30 (F2 30)) 31 (F2 31)) G39 j_45 (show 1 ≤ (F39 10).toInt by omega)) ?_
    rintro r46 F46 G46 ⟨hI46, hB46, hT46, hp46⟩
    dsimp only
    have q_47 := hI46.r 10 rfl
    have e_48 : (F46 10).toInt = (F39 10).toInt - 1 := hp46
    unfold cb_X4_doStatement_120
    refine WP.ret ?_
    exact ⟨hI46, (KB.tr (KB.f (by decide) (KB.f (by decide) (KB.tr (KB.tr (KB.tr (KB.tr (KB.tr (KB.tr (KB.tr (KB.tr (KB.rf : KB F G F G) hB2) hB13) hB18) hB22) hB25) hB29) hB34) hB39))) hB46), (KT.tr (KT.f (by decide) (KT.f (by decide) (KT.tr (KT.tr (KT.tr (KT.tr (KT.tr (KT.tr (KT.tr (KT.tr (rfl : KT F F) hT2) hT13) hT18) hT22) hT25) hT29) hT34) hT39))) hT46), (show (F46 10).toInt = (F 10).toInt by omega), trivial⟩
