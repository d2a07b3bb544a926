theorem cs_X5_wantPlace {fu : Nat} (hfu : 8589934592 ≤ fu) (x1 : Int32) (x2 : Int32) (x3 : Int32) (F : PF) (G : PG) (hI : CI F G) : WP (cf_X5_wantPlace fu x1 x2 x3 F G) (fun r' F' G' => CI F' G' ∧ KB F G F' G' ∧ KT F F' ∧ KO F F' ∧ KK F F' ∧ True) := by
  unfold cf_X5_wantPlace
  unfold cb_X5_wantPlace_0
  have q_1 := i_rng x1
  refine WP.bind (cs_X5_kind hfu x1 F G hI) ?_
  rintro r2 _ _ ⟨rfl, rfl, hp2⟩
  dsimp only
  have q_3 := i_rng r2
  unfold cb_X5_wantPlace_5
  refine WP.ite (fun c_4 => ?_) (fun c_4 => ?_)
  · skip
    have l_5 : (-1 : Int32).toInt = -1 := rfl
    have e_6 := i_eq.mp (show r2 = (-1 : Int32) from c_4)
    unfold cb_X5_wantPlace_28
    refine WP.ret ?_
    exact ⟨hI, (KB.rf : KB F G F G), (rfl : KT F F), (rfl : KO F F), (rfl : KK F F), trivial⟩
  · skip
    have l_7 : (-1 : Int32).toInt = -1 := rfl
    have e_8 := mt i_eq.mpr (show ¬ (r2 = (-1 : Int32)) from c_4)
    unfold cb_X5_wantPlace_13
    have q_9 := i_rng x3
    refine WP.bind (cs_X5_fits hfu r2 x3 F G hI) ?_
    rintro r10 _ _ ⟨rfl, rfl, hp10⟩
    dsimp only
    have q_11 := b_rng hp10
    unfold cb_X5_wantPlace_19
    refine WP.ite (fun c_12 => ?_) (fun c_12 => ?_)
    · skip
      have l_13 : (0 : Int32).toInt = 0 := rfl
      have e_14 := i_eq.mp (show r10 = (0 : Int32) from c_12)
      unfold cb_X5_wantPlace_22
      have l_15 : (4 : Int32).toInt = 4 := rfl
      have q_16 := i_rng x2
      refine WP.bind (cs_X5_note hfu (4 : Int32) x2 F G hI) ?_
      rintro r17 F17 G17 ⟨hI17, hB17, hT17, hO17, hK17, hp17⟩
      dsimp only
      have q_18 := hI.r 10 rfl
      have q_19 := hI17.r 10 rfl
      have e_20 : (F17 10).toInt = (F 10).toInt := hO17
      unfold cb_X5_wantPlace_28
      refine WP.ret ?_
      exact ⟨hI17, (KB.tr (KB.rf : KB F G F G) hB17), (KT.tr (rfl : KT F F) hT17), (KO.tr (rfl : KO F F) hO17), (KK.tr (rfl : KK F F) hK17), trivial⟩
    · skip
      have l_21 : (0 : Int32).toInt = 0 := rfl
      have e_22 := mt i_eq.mpr (show ¬ (r10 = (0 : Int32)) from c_12)
      unfold cb_X5_wantPlace_28
      refine WP.ret ?_
      exact ⟨hI, (KB.rf : KB F G F G), (rfl : KT F F), (rfl : KO F F), (rfl : KK F F), trivial⟩
theorem cs_X4_oldValue {fu : Nat} (hfu : 8589934592 ≤ fu) (x1 : Int32) (x2 : Int32) (F : PF) (G : PG) (hI : CI F G) (hz_x2 : x2 = 0 ∨ x2 = 1) : WP (cf_X4_oldValue fu x1 x2 F G) (fun r' F' G' => CI F' G' ∧ KB F G F' G' ∧ KT F F' ∧ KO F F' ∧ KK F F' ∧ True) := by
  have q_x2 := b_rng hz_x2
  unfold cf_X4_oldValue
  unfold cb_X4_oldValue_0
  refine WP.ite (fun c_1 => ?_) (fun c_1 => ?_)
  · skip
    have q_2 := i_rng x2
    have l_3 : (0 : Int32).toInt = 0 := rfl
    have e_4 := i_eq.mp (show x2 = (0 : Int32) from c_1)
    unfold cb_X4_oldValue_24
    have q_5 := i_rng x1
    refine WP.bind (cs_X3_load hfu x1 F G hI) ?_
    rintro r6 F6 G6 ⟨hI6, hB6, hT6, hO6, hK6, hp6⟩
    dsimp only
    have q_7 := hI.r 10 rfl
    have q_8 := hI6.r 10 rfl
    have e_9 : (F6 10).toInt = (F 10).toInt := hO6
    unfold cb_X4_oldValue_32
    refine WP.ret ?_
    exact ⟨hI6, (KB.tr (KB.rf : KB F G F G) hB6), (KT.tr (rfl : KT F F) hT6), (KO.tr (rfl : KO F F) hO6), (KK.tr (rfl : KK F F) hK6), trivial⟩
  · skip
    have q_10 := i_rng x2
    have l_11 : (0 : Int32).toInt = 0 := rfl
    have e_12 := mt i_eq.mpr (show ¬ (x2 = (0 : Int32)) from c_1)
    unfold cb_X4_oldValue_4
    have l_13 : (67 : Int32).toInt = 67 := rfl
    refine WP.bind (cs_X1_add hfu (67 : Int32) F G hI) ?_
    rintro r14 F14 G14 ⟨hI14, hB14, hT14, hO14, hK14, hp14⟩
    dsimp only
    have q_15 := hI.r 10 rfl
    have q_16 := hI14.r 10 rfl
    have e_17 : (F14 10).toInt = (F 10).toInt := hO14
    have q_18 := hI.r 21 rfl
    have q_19 := hI14.r 21 rfl
    have e_20 : (F14 21).toInt = (F 21).toInt := congrArg Int32.toInt hp14
    unfold cb_X4_oldValue_13
    have q_21 := i_rng x1
    refine WP.bind (cs_X3_fetch hfu x1 F14 G14 hI14) ?_
    rintro r22 F22 G22 ⟨hI22, hB22, hT22, hO22, hK22, hp22⟩
    dsimp only
    have q_23 := hI22.r 10 rfl
    have e_24 : (F22 10).toInt = (F14 10).toInt := hO22
    unfold cb_X4_oldValue_21
    unfold cb_X4_oldValue_32
    refine WP.ret ?_
    exact ⟨hI22, (KB.tr (KB.tr (KB.rf : KB F G F G) hB14) hB22), (KT.tr (KT.tr (rfl : KT F F) hT14) hT22), (KO.tr (KO.tr (rfl : KO F F) hO14) hO22), (KK.tr (KK.tr (rfl : KK F F) hK14) hK22), trivial⟩
theorem cs_X4_simple {fu : Nat} (hfu : 8589934592 ≤ fu) (F : PF) (G : PG) (hI : CI F G) : WP (cf_X4_simple fu F G) (fun r' F' G' => CI F' G' ∧ KB F G F' G' ∧ KT F F' ∧ KO F F' ∧ KS F F' ∧ True) := by
  unfold cf_X4_simple
  unfold cb_X4_simple_0
  have l_1 : (2 : Int32).toInt = 2 := rfl
  refine WP.bind (cs_X2_expect hfu (2 : Int32) F G hI (show (2 : Int32).toInt ≠ -2 by omega)) ?_
  rintro r2 F2 G2 ⟨hI2, hB2, hT2, hO2, hS2, hp2⟩
  dsimp only
  have q_3 := i_rng (F 11)
  have q_4 := i_rng (F2 11)
  have e_5 : (F 11).toInt = -2 → (F2 11).toInt = -2 := hS2
  have q_6 := hI.r 10 rfl
  have q_7 := hI2.r 10 rfl
  have e_8 : (F2 10).toInt = (F 10).toInt := hO2
  unfold cb_X4_simple_24
  refine WP.ite (fun c_9 => ?_) (fun c_9 => ?_)
  · skip
    have l_10 : (-2 : Int32).toInt = -2 := rfl
    have e_11 := i_eq.mp (show (F2 11) = (-2 : Int32) from c_9)
    unfold cb_X4_simple_36
    refine WP.ret ?_
    exact ⟨hI2, (KB.tr (KB.rf : KB F G F G) hB2), (KT.tr (rfl : KT F F) hT2), (KO.tr (rfl : KO F F) hO2), (show (F 11).toInt = -2 → (F2 11).toInt = -2 by omega), trivial⟩
  · skip
    have l_12 : (-2 : Int32).toInt = -2 := rfl
    have e_13 := mt i_eq.mpr (show ¬ ((F2 11) = (-2 : Int32)) from c_9)
    unfold cb_X4_simple_37
    have q_14 := i_rng (F 12)
    have q_15 := i_rng (F 13)
    refine WP.bind (cs_X5_meant hfu (F 12) (F 13) F2 G2 hI2) ?_
    rintro r16 F16 G16 ⟨hI16, hB16, hT16, hO16, hK16, hp16⟩
    dsimp only
    have q_17 := i_rng (F16 11)
    have e_18 : (F16 11).toInt = (F2 11).toInt := congrArg Int32.toInt hK16
    have q_19 := hI16.r 10 rfl
    have e_20 : (F16 10).toInt = (F2 10).toInt := hO16
    unfold cb_X4_simple_46
    have q_21 := i_rng r16
    refine WP.bind (cs_X5_wantPlace hfu r16 (F 13) (F16 11) F16 G16 hI16) ?_
    rintro r22 F22 G22 ⟨hI22, hB22, hT22, hO22, hK22, hp22⟩
    dsimp only
    have q_23 := i_rng (F22 11)
    have e_24 : (F22 11).toInt = (F16 11).toInt := congrArg Int32.toInt hK22
    have q_25 := hI22.r 10 rfl
    have e_26 : (F22 10).toInt = (F16 10).toInt := hO22
    unfold cb_X4_simple_63
    refine WP.ite (fun c_27 => ?_) (fun c_27 => ?_)
    · skip
      have l_28 : (19 : Int32).toInt = 19 := rfl
      have e_29 := i_eq.mp (show (F22 11) = (19 : Int32) from c_27)
      unfold cb_X4_simple_75
      refine WP.bind (cs_X3_call hfu r16 (F 13) F22 G22 hI22) ?_
      rintro r30 F30 G30 ⟨hI30, hB30, hT30, hO30, hp30⟩
      dsimp only
      have q_31 := hI30.r 10 rfl
      have e_32 : (F30 10).toInt = (F22 10).toInt := hO30
      unfold cb_X4_simple_84
      have l_33 : (68 : Int32).toInt = 68 := rfl
      refine WP.bind (cs_X1_add hfu (68 : Int32) F30 G30 hI30) ?_
      rintro r34 F34 G34 ⟨hI34, hB34, hT34, hO34, hK34, hp34⟩
      dsimp only
      have q_35 := i_rng (F30 11)
      have q_36 := i_rng (F34 11)
      have e_37 : (F34 11).toInt = (F30 11).toInt := congrArg Int32.toInt hK34
      have q_38 := hI34.r 10 rfl
      have e_39 : (F34 10).toInt = (F30 10).toInt := hO34
      have q_40 := hI30.r 21 rfl
      have q_41 := hI34.r 21 rfl
      have e_42 : (F34 21).toInt = (F30 21).toInt := congrArg Int32.toInt hp34
      unfold cb_X4_simple_93
      refine WP.ret ?_
      exact ⟨hI34, (KB.tr (KB.tr (KB.tr (KB.tr (KB.tr (KB.rf : KB F G F G) hB2) hB16) hB22) hB30) hB34), (KT.tr (KT.tr (KT.tr (KT.tr (KT.tr (rfl : KT F F) hT2) hT16) hT22) hT30) hT34), (KO.tr (KO.tr (KO.tr (KO.tr (KO.tr (rfl : KO F F) hO2) hO16) hO22) hO30) hO34), (show (F 11).toInt = -2 → (F34 11).toInt = -2 by omega), trivial⟩
    · skip
      have l_43 : (19 : Int32).toInt = 19 := rfl
      have e_44 := mt i_eq.mpr (show ¬ ((F22 11) = (19 : Int32)) from c_27)
      unfold cb_X4_simple_94
      refine WP.ite (fun c_45 => ?_) (fun c_45 => ?_)
      · skip
        have l_46 : (21 : Int32).toInt = 21 := rfl
        have e_47 := i_eq.mp (show (F22 11) = (21 : Int32) from c_45)
        unfold cb_X4_simple_106
        unfold cb_X4_simple_111
        refine WP.ite (fun c_48 => absurd c_48 (by decide)) (fun _ => ?_)
        unfold cb_X4_simple_118
        refine WP.bind (cs_X3_index hfu r16 F22 G22 hI22) ?_
        rintro r49 F49 G49 ⟨hI49, hB49, hT49, hO49, hp49⟩
        dsimp only
        have q_50 := hI49.r 10 rfl
        have e_51 : (F49 10).toInt = (F22 10).toInt := hO49
        unfold cb_X4_simple_126
        refine WP.ite (fun c_52 => ?_) (fun c_52 => ?_)
        · skip
          have q_53 := i_rng (F49 11)
          have l_54 : (29 : Int32).toInt = 29 := rfl
          have e_55 := i_lt.mp (show (F49 11) < (29 : Int32) from c_52)
          unfold cb_X4_simple_149
          refine WP.bind (cs_X2_fail hfu (2 : Int32) F49 G49 hI49) ?_
          rintro r56 F56 G56 ⟨hI56, hB56, hT56, hO56, hp56⟩
          dsimp only
          have q_57 := hI56.r 10 rfl
          have e_58 : (F56 10).toInt = (F49 10).toInt := hO56
          have q_59 := i_rng (F56 11)
          have e_60 : (F56 11).toInt = -2 := hp56
          unfold cb_X4_simple_157
          refine WP.ret ?_
          exact ⟨hI56, (KB.tr (KB.tr (KB.tr (KB.tr (KB.tr (KB.rf : KB F G F G) hB2) hB16) hB22) hB49) hB56), (KT.tr (KT.tr (KT.tr (KT.tr (KT.tr (rfl : KT F F) hT2) hT16) hT22) hT49) hT56), (KO.tr (KO.tr (KO.tr (KO.tr (KO.tr (rfl : KO F F) hO2) hO16) hO22) hO49) hO56), (show (F 11).toInt = -2 → (F56 11).toInt = -2 by omega), trivial⟩
        · skip
          have q_61 := i_rng (F49 11)
          have l_62 : (29 : Int32).toInt = 29 := rfl
          have e_63 := mt i_lt.mpr (show ¬ ((F49 11) < (29 : Int32)) from c_52)
          unfold cb_X4_simple_142
          refine WP.ite (fun c_64 => ?_) (fun c_64 => ?_)
          · skip
            have l_65 : (42 : Int32).toInt = 42 := rfl
            have e_66 := i_le.mp (show (F49 11) ≤ (42 : Int32) from c_64)
            unfold cb_X4_simple_158
            refine WP.bind (cs_X2_next hfu F49 G49 hI49) ?_
            rintro r67 F67 G67 ⟨hI67, hB67, hT67, hO67, hp67⟩
            dsimp only
            have q_68 := hI67.r 10 rfl
            have e_69 : (F67 10).toInt = (F49 10).toInt := hO67
            unfold cb_X4_simple_165
            refine WP.ite (fun c_70 => ?_) (fun c_70 => ?_)
            · skip
              have e_71 := i_eq.mp (show (F49 11) = (29 : Int32) from c_70)
              unfold cb_X4_simple_179
              refine WP.ite (fun c_72 => ?_) (fun c_72 => ?_)
              · skip
                have l_73 : (41 : Int32).toInt = 41 := rfl
                have e_74 := i_le.mp (show (41 : Int32) ≤ (F49 11) from c_72)
                unfold cb_X4_simple_196
                have l_75 : (66 : Int32).toInt = 66 := rfl
                have l_76 : (1 : Int32).toInt = 1 := rfl
                refine WP.bind (cs_X1_addPair hfu (66 : Int32) (1 : Int32) F67 G67 hI67) ?_
                rintro r77 F77 G77 ⟨hI77, hB77, hT77, hO77, hK77, hp77⟩
                dsimp only
                have q_78 := i_rng (F67 11)
                have q_79 := i_rng (F77 11)
                have e_80 : (F77 11).toInt = (F67 11).toInt := congrArg Int32.toInt hK77
                have q_81 := hI77.r 10 rfl
                have e_82 : (F77 10).toInt = (F67 10).toInt := hO77
                unfold cb_X4_simple_206
                refine WP.ite (fun c_83 => ?_) (fun c_83 => ?_)
                · skip
                  have e_84 := i_eq.mp (show (F49 11) = (29 : Int32) from c_83)
                  unfold cb_X4_simple_229
                  refine WP.ite (fun c_85 => absurd c_85 (by decide)) (fun _ => ?_)
                  unfold cb_X4_simple_234
                  refine WP.bind (cs_X3_keep hfu r16 F77 G77 hI77) ?_
                  rintro r86 F86 G86 ⟨hI86, hB86, hT86, hO86, hK86, hp86⟩
                  dsimp only
                  have q_87 := i_rng (F86 11)
                  have e_88 : (F86 11).toInt = (F77 11).toInt := congrArg Int32.toInt hK86
                  have q_89 := hI86.r 10 rfl
                  have e_90 : (F86 10).toInt = (F77 10).toInt := hO86
                  unfold cb_X4_simple_242
                  unfold cb_X4_simple_253
                  refine WP.ret ?_
                  exact ⟨hI86, (KB.tr (KB.tr (KB.tr (KB.tr (KB.tr (KB.tr (KB.tr (KB.rf : KB F G F G) hB2) hB16) hB22) hB49) hB67) hB77) hB86), (KT.tr (KT.tr (KT.tr (KT.tr (KT.tr (KT.tr (KT.tr (rfl : KT F F) hT2) hT16) hT22) hT49) hT67) hT77) hT86), (KO.tr (KO.tr (KO.tr (KO.tr (KO.tr (KO.tr (KO.tr (rfl : KO F F) hO2) hO16) hO22) hO49) hO67) hO77) hO86), (show (F 11).toInt = -2 → (F86 11).toInt = -2 by omega), trivial⟩
                · skip
                  have e_91 := mt i_eq.mpr (show ¬ ((F49 11) = (29 : Int32)) from c_83)
                  unfold cb_X4_simple_213
                  first | have e_92 : ((F49 11) - (30 : Int32)).toInt = (F49 11).toInt - (30) := i_subn (F49 11) rfl (by omega) (by omega) | have e_93 := i_rng ((F49 11) - (30 : Int32))
                  refine WP.ix (show vp_in ((F49 11) - (30 : Int32)) 13 from vp_in_iff.mpr ⟨by omega, by omega⟩) ?_
                  have q_94 := i_rng (tb_5 ((F49 11) - (30 : Int32)).toNatClampNeg)
                  refine WP.bind (cs_X1_add hfu (tb_5 ((F49 11) - (30 : Int32)).toNatClampNeg) F77 G77 hI77) ?_
                  rintro r95 F95 G95 ⟨hI95, hB95, hT95, hO95, hK95, hp95⟩
                  dsimp only
                  have q_96 := i_rng (F95 11)
                  have e_97 : (F95 11).toInt = (F77 11).toInt := congrArg Int32.toInt hK95
                  have q_98 := hI95.r 10 rfl
                  have e_99 : (F95 10).toInt = (F77 10).toInt := hO95
                  have q_100 := hI77.r 21 rfl
                  have q_101 := hI95.r 21 rfl
                  have e_102 : (F95 21).toInt = (F77 21).toInt := congrArg Int32.toInt hp95
                  unfold cb_X4_simple_229
                  refine WP.ite (fun c_103 => absurd c_103 (by decide)) (fun _ => ?_)
                  unfold cb_X4_simple_234
                  refine WP.bind (cs_X3_keep hfu r16 F95 G95 hI95) ?_
                  rintro r104 F104 G104 ⟨hI104, hB104, hT104, hO104, hK104, hp104⟩
                  dsimp only
                  have q_105 := i_rng (F104 11)
                  have e_106 : (F104 11).toInt = (F95 11).toInt := congrArg Int32.toInt hK104
                  have q_107 := hI104.r 10 rfl
                  have e_108 : (F104 10).toInt = (F95 10).toInt := hO104
                  unfold cb_X4_simple_242
                  unfold cb_X4_simple_253
                  refine WP.ret ?_
                  exact ⟨hI104, (KB.tr (KB.tr (KB.tr (KB.tr (KB.tr (KB.tr (KB.tr (KB.tr (KB.rf : KB F G F G) hB2) hB16) hB22) hB49) hB67) hB77) hB95) hB104), (KT.tr (KT.tr (KT.tr (KT.tr (KT.tr (KT.tr (KT.tr (KT.tr (rfl : KT F F) hT2) hT16) hT22) hT49) hT67) hT77) hT95) hT104), (KO.tr (KO.tr (KO.tr (KO.tr (KO.tr (KO.tr (KO.tr (KO.tr (rfl : KO F F) hO2) hO16) hO22) hO49) hO67) hO77) hO95) hO104), (show (F 11).toInt = -2 → (F104 11).toInt = -2 by omega), trivial⟩
              · skip
                have l_109 : (41 : Int32).toInt = 41 := rfl
                have e_110 := mt i_le.mpr (show ¬ ((41 : Int32) ≤ (F49 11)) from c_72)
                unfold cb_X4_simple_186
                refine WP.bind (cs_X3_expression hfu F67 G67 hI67) ?_
                rintro r111 F111 G111 ⟨hI111, hB111, hT111, hO111, hS111, hp111⟩
                dsimp only
                have q_112 := i_rng (F67 11)
                have q_113 := i_rng (F111 11)
                have e_114 : (F67 11).toInt = -2 → (F111 11).toInt = -2 := hS111
                have q_115 := hI111.r 10 rfl
                have e_116 : (F111 10).toInt = (F67 10).toInt := hO111
                unfold cb_X4_simple_193
                unfold cb_X4_simple_206
                refine WP.ite (fun c_117 => ?_) (fun c_117 => ?_)
                · skip
                  have e_118 := i_eq.mp (show (F49 11) = (29 : Int32) from c_117)
                  unfold cb_X4_simple_229
                  refine WP.ite (fun c_119 => absurd c_119 (by decide)) (fun _ => ?_)
                  unfold cb_X4_simple_234
                  refine WP.bind (cs_X3_keep hfu r16 F111 G111 hI111) ?_
                  rintro r120 F120 G120 ⟨hI120, hB120, hT120, hO120, hK120, hp120⟩
                  dsimp only
                  have q_121 := i_rng (F120 11)
                  have e_122 : (F120 11).toInt = (F111 11).toInt := congrArg Int32.toInt hK120
                  have q_123 := hI120.r 10 rfl
                  have e_124 : (F120 10).toInt = (F111 10).toInt := hO120
                  unfold cb_X4_simple_242
                  unfold cb_X4_simple_253
                  refine WP.ret ?_
                  exact ⟨hI120, (KB.tr (KB.tr (KB.tr (KB.tr (KB.tr (KB.tr (KB.tr (KB.rf : KB F G F G) hB2) hB16) hB22) hB49) hB67) hB111) hB120), (KT.tr (KT.tr (KT.tr (KT.tr (KT.tr (KT.tr (KT.tr (rfl : KT F F) hT2) hT16) hT22) hT49) hT67) hT111) hT120), (KO.tr (KO.tr (KO.tr (KO.tr (KO.tr (KO.tr (KO.tr (rfl : KO F F) hO2) hO16) hO22) hO49) hO67) hO111) hO120), (show (F 11).toInt = -2 → (F120 11).toInt = -2 by omega), trivial⟩
                · skip
                  have e_125 := mt i_eq.mpr (show ¬ ((F49 11) = (29 : Int32)) from c_117)
                  unfold cb_X4_simple_213
                  first | have e_126 : ((F49 11) - (30 : Int32)).toInt = (F49 11).toInt - (30) := i_subn (F49 11) rfl (by omega) (by omega) | have e_127 := i_rng ((F49 11) - (30 : Int32))
                  refine WP.ix (show vp_in ((F49 11) - (30 : Int32)) 13 from vp_in_iff.mpr ⟨by omega, by omega⟩) ?_
                  have q_128 := i_rng (tb_5 ((F49 11) - (30 : Int32)).toNatClampNeg)
                  refine WP.bind (cs_X1_add hfu (tb_5 ((F49 11) - (30 : Int32)).toNatClampNeg) F111 G111 hI111) ?_
                  rintro r129 F129 G129 ⟨hI129, hB129, hT129, hO129, hK129, hp129⟩
                  dsimp only
                  have q_130 := i_rng (F129 11)
                  have e_131 : (F129 11).toInt = (F111 11).toInt := congrArg Int32.toInt hK129
                  have q_132 := hI129.r 10 rfl
                  have e_133 : (F129 10).toInt = (F111 10).toInt := hO129
                  have q_134 := hI111.r 21 rfl
                  have q_135 := hI129.r 21 rfl
                  have e_136 : (F129 21).toInt = (F111 21).toInt := congrArg Int32.toInt hp129
                  unfold cb_X4_simple_229
                  refine WP.ite (fun c_137 => absurd c_137 (by decide)) (fun _ => ?_)
                  unfold cb_X4_simple_234
                  refine WP.bind (cs_X3_keep hfu r16 F129 G129 hI129) ?_
                  rintro r138 F138 G138 ⟨hI138, hB138, hT138, hO138, hK138, hp138⟩
                  dsimp only
                  have q_139 := i_rng (F138 11)
                  have e_140 : (F138 11).toInt = (F129 11).toInt := congrArg Int32.toInt hK138
                  have q_141 := hI138.r 10 rfl
                  have e_142 : (F138 10).toInt = (F129 10).toInt := hO138
                  unfold cb_X4_simple_242
                  unfold cb_X4_simple_253
                  refine WP.ret ?_
                  exact ⟨hI138, (KB.tr (KB.tr (KB.tr (KB.tr (KB.tr (KB.tr (KB.tr (KB.tr (KB.rf : KB F G F G) hB2) hB16) hB22) hB49) hB67) hB111) hB129) hB138), (KT.tr (KT.tr (KT.tr (KT.tr (KT.tr (KT.tr (KT.tr (KT.tr (rfl : KT F F) hT2) hT16) hT22) hT49) hT67) hT111) hT129) hT138), (KO.tr (KO.tr (KO.tr (KO.tr (KO.tr (KO.tr (KO.tr (KO.tr (rfl : KO F F) hO2) hO16) hO22) hO49) hO67) hO111) hO129) hO138), (show (F 11).toInt = -2 → (F138 11).toInt = -2 by omega), trivial⟩
            · skip
              have e_143 := mt i_eq.mpr (show ¬ ((F49 11) = (29 : Int32)) from c_70)
              unfold cb_X4_simple_172
              have l_144 : (1 : Int32).toInt = 1 := rfl
              refine WP.bind (cs_X4_oldValue hfu r16 (1 : Int32) F67 G67 hI67 (by decide)) ?_
              rintro r145 F145 G145 ⟨hI145, hB145, hT145, hO145, hK145, hp145⟩
              dsimp only
              have q_146 := i_rng (F67 11)
              have q_147 := i_rng (F145 11)
              have e_148 : (F145 11).toInt = (F67 11).toInt := congrArg Int32.toInt hK145
              have q_149 := hI145.r 10 rfl
              have e_150 : (F145 10).toInt = (F67 10).toInt := hO145
              unfold cb_X4_simple_179
              refine WP.ite (fun c_151 => ?_) (fun c_151 => ?_)
              · skip
                have l_152 : (41 : Int32).toInt = 41 := rfl
                have e_153 := i_le.mp (show (41 : Int32) ≤ (F49 11) from c_151)
                unfold cb_X4_simple_196
                have l_154 : (66 : Int32).toInt = 66 := rfl
                refine WP.bind (cs_X1_addPair hfu (66 : Int32) (1 : Int32) F145 G145 hI145) ?_
                rintro r155 F155 G155 ⟨hI155, hB155, hT155, hO155, hK155, hp155⟩
                dsimp only
                have q_156 := i_rng (F155 11)
                have e_157 : (F155 11).toInt = (F145 11).toInt := congrArg Int32.toInt hK155
                have q_158 := hI155.r 10 rfl
                have e_159 : (F155 10).toInt = (F145 10).toInt := hO155
                unfold cb_X4_simple_206
                refine WP.ite (fun c_160 => ?_) (fun c_160 => ?_)
                · skip
                  have e_161 := i_eq.mp (show (F49 11) = (29 : Int32) from c_160)
                  unfold cb_X4_simple_229
                  refine WP.ite (fun c_162 => absurd c_162 (by decide)) (fun _ => ?_)
                  unfold cb_X4_simple_234
                  refine WP.bind (cs_X3_keep hfu r16 F155 G155 hI155) ?_
                  rintro r163 F163 G163 ⟨hI163, hB163, hT163, hO163, hK163, hp163⟩
                  dsimp only
                  have q_164 := i_rng (F163 11)
                  have e_165 : (F163 11).toInt = (F155 11).toInt := congrArg Int32.toInt hK163
                  have q_166 := hI163.r 10 rfl
                  have e_167 : (F163 10).toInt = (F155 10).toInt := hO163
                  unfold cb_X4_simple_242
                  unfold cb_X4_simple_253
                  refine WP.ret ?_
                  exact ⟨hI163, (KB.tr (KB.tr (KB.tr (KB.tr (KB.tr (KB.tr (KB.tr (KB.tr (KB.rf : KB F G F G) hB2) hB16) hB22) hB49) hB67) hB145) hB155) hB163), (KT.tr (KT.tr (KT.tr (KT.tr (KT.tr (KT.tr (KT.tr (KT.tr (rfl : KT F F) hT2) hT16) hT22) hT49) hT67) hT145) hT155) hT163), (KO.tr (KO.tr (KO.tr (KO.tr (KO.tr (KO.tr (KO.tr (KO.tr (rfl : KO F F) hO2) hO16) hO22) hO49) hO67) hO145) hO155) hO163), (show (F 11).toInt = -2 → (F163 11).toInt = -2 by omega), trivial⟩
                · skip
                  have e_168 := mt i_eq.mpr (show ¬ ((F49 11) = (29 : Int32)) from c_160)
                  unfold cb_X4_simple_213
                  first | have e_169 : ((F49 11) - (30 : Int32)).toInt = (F49 11).toInt - (30) := i_subn (F49 11) rfl (by omega) (by omega) | have e_170 := i_rng ((F49 11) - (30 : Int32))
                  refine WP.ix (show vp_in ((F49 11) - (30 : Int32)) 13 from vp_in_iff.mpr ⟨by omega, by omega⟩) ?_
                  have q_171 := i_rng (tb_5 ((F49 11) - (30 : Int32)).toNatClampNeg)
                  refine WP.bind (cs_X1_add hfu (tb_5 ((F49 11) - (30 : Int32)).toNatClampNeg) F155 G155 hI155) ?_
                  rintro r172 F172 G172 ⟨hI172, hB172, hT172, hO172, hK172, hp172⟩
                  dsimp only
                  have q_173 := i_rng (F172 11)
                  have e_174 : (F172 11).toInt = (F155 11).toInt := congrArg Int32.toInt hK172
                  have q_175 := hI172.r 10 rfl
                  have e_176 : (F172 10).toInt = (F155 10).toInt := hO172
                  have q_177 := hI155.r 21 rfl
                  have q_178 := hI172.r 21 rfl
                  have e_179 : (F172 21).toInt = (F155 21).toInt := congrArg Int32.toInt hp172
                  unfold cb_X4_simple_229
                  refine WP.ite (fun c_180 => absurd c_180 (by decide)) (fun _ => ?_)
                  unfold cb_X4_simple_234
                  refine WP.bind (cs_X3_keep hfu r16 F172 G172 hI172) ?_
                  rintro r181 F181 G181 ⟨hI181, hB181, hT181, hO181, hK181, hp181⟩
                  dsimp only
                  have q_182 := i_rng (F181 11)
                  have e_183 : (F181 11).toInt = (F172 11).toInt := congrArg Int32.toInt hK181
                  have q_184 := hI181.r 10 rfl
                  have e_185 : (F181 10).toInt = (F172 10).toInt := hO181
                  unfold cb_X4_simple_242
                  unfold cb_X4_simple_253
                  refine WP.ret ?_
                  exact ⟨hI181, (KB.tr (KB.tr (KB.tr (KB.tr (KB.tr (KB.tr (KB.tr (KB.tr (KB.tr (KB.rf : KB F G F G) hB2) hB16) hB22) hB49) hB67) hB145) hB155) hB172) hB181), (KT.tr (KT.tr (KT.tr (KT.tr (KT.tr (KT.tr (KT.tr (KT.tr (KT.tr (rfl : KT F F) hT2) hT16) hT22) hT49) hT67) hT145) hT155) hT172) hT181), (KO.tr (KO.tr (KO.tr (KO.tr (KO.tr (KO.tr (KO.tr (KO.tr (KO.tr (rfl : KO F F) hO2) hO16) hO22) hO49) hO67) hO145) hO155) hO172) hO181), (show (F 11).toInt = -2 → (F181 11).toInt = -2 by omega), trivial⟩
              · skip
                have l_186 : (41 : Int32).toInt = 41 := rfl
                have e_187 := mt i_le.mpr (show ¬ ((41 : Int32) ≤ (F49 11)) from c_151)
                unfold cb_X4_simple_186
                refine WP.bind (cs_X3_expression hfu F145 G145 hI145) ?_
                rintro r188 F188 G188 ⟨hI188, hB188, hT188, hO188, hS188, hp188⟩
                dsimp only
                have q_189 := i_rng (F188 11)
                have e_190 : (F145 11).toInt = -2 → (F188 11).toInt = -2 := hS188
                have q_191 := hI188.r 10 rfl
                have e_192 : (F188 10).toInt = (F145 10).toInt := hO188
                unfold cb_X4_simple_193
                unfold cb_X4_simple_206
                refine WP.ite (fun c_193 => ?_) (fun c_193 => ?_)
                · skip
                  have e_194 := i_eq.mp (show (F49 11) = (29 : Int32) from c_193)
                  unfold cb_X4_simple_229
                  refine WP.ite (fun c_195 => absurd c_195 (by decide)) (fun _ => ?_)
                  unfold cb_X4_simple_234
                  refine WP.bind (cs_X3_keep hfu r16 F188 G188 hI188) ?_
                  rintro r196 F196 G196 ⟨hI196, hB196, hT196, hO196, hK196, hp196⟩
                  dsimp only
                  have q_197 := i_rng (F196 11)
                  have e_198 : (F196 11).toInt = (F188 11).toInt := congrArg Int32.toInt hK196
                  have q_199 := hI196.r 10 rfl
                  have e_200 : (F196 10).toInt = (F188 10).toInt := hO196
                  unfold cb_X4_simple_242
                  unfold cb_X4_simple_253
                  refine WP.ret ?_
                  exact ⟨hI196, (KB.tr (KB.tr (KB.tr (KB.tr (KB.tr (KB.tr (KB.tr (KB.tr (KB.rf : KB F G F G) hB2) hB16) hB22) hB49) hB67) hB145) hB188) hB196), (KT.tr (KT.tr (KT.tr (KT.tr (KT.tr (KT.tr (KT.tr (KT.tr (rfl : KT F F) hT2) hT16) hT22) hT49) hT67) hT145) hT188) hT196), (KO.tr (KO.tr (KO.tr (KO.tr (KO.tr (KO.tr (KO.tr (KO.tr (rfl : KO F F) hO2) hO16) hO22) hO49) hO67) hO145) hO188) hO196), (show (F 11).toInt = -2 → (F196 11).toInt = -2 by omega), trivial⟩
                · skip
                  have e_201 := mt i_eq.mpr (show ¬ ((F49 11) = (29 : Int32)) from c_193)
                  unfold cb_X4_simple_213
                  first | have e_202 : ((F49 11) - (30 : Int32)).toInt = (F49 11).toInt - (30) := i_subn (F49 11) rfl (by omega) (by omega) | have e_203 := i_rng ((F49 11) - (30 : Int32))
                  refine WP.ix (show vp_in ((F49 11) - (30 : Int32)) 13 from vp_in_iff.mpr ⟨by omega, by omega⟩) ?_
                  have q_204 := i_rng (tb_5 ((F49 11) - (30 : Int32)).toNatClampNeg)
                  refine WP.bind (cs_X1_add hfu (tb_5 ((F49 11) - (30 : Int32)).toNatClampNeg) F188 G188 hI188) ?_
                  rintro r205 F205 G205 ⟨hI205, hB205, hT205, hO205, hK205, hp205⟩
                  dsimp only
                  have q_206 := i_rng (F205 11)
                  have e_207 : (F205 11).toInt = (F188 11).toInt := congrArg Int32.toInt hK205
                  have q_208 := hI205.r 10 rfl
                  have e_209 : (F205 10).toInt = (F188 10).toInt := hO205
                  have q_210 := hI188.r 21 rfl
                  have q_211 := hI205.r 21 rfl
                  have e_212 : (F205 21).toInt = (F188 21).toInt := congrArg Int32.toInt hp205
                  unfold cb_X4_simple_229
                  refine WP.ite (fun c_213 => absurd c_213 (by decide)) (fun _ => ?_)
                  unfold cb_X4_simple_234
                  refine WP.bind (cs_X3_keep hfu r16 F205 G205 hI205) ?_
                  rintro r214 F214 G214 ⟨hI214, hB214, hT214, hO214, hK214, hp214⟩
                  dsimp only
                  have q_215 := i_rng (F214 11)
                  have e_216 : (F214 11).toInt = (F205 11).toInt := congrArg Int32.toInt hK214
                  have q_217 := hI214.r 10 rfl
                  have e_218 : (F214 10).toInt = (F205 10).toInt := hO214
                  unfold cb_X4_simple_242
                  unfold cb_X4_simple_253
                  refine WP.ret ?_
                  exact ⟨hI214, (KB.tr (KB.tr (KB.tr (KB.tr (KB.tr (KB.tr (KB.tr (KB.tr (KB.tr (KB.rf : KB F G F G) hB2) hB16) hB22) hB49) hB67) hB145) hB188) hB205) hB214), (KT.tr (KT.tr (KT.tr (KT.tr (KT.tr (KT.tr (KT.tr (KT.tr (KT.tr (rfl : KT F F) hT2) hT16) hT22) hT49) hT67) hT145) hT188) hT205) hT214), (KO.tr (KO.tr (KO.tr (KO.tr (KO.tr (KO.tr (KO.tr (KO.tr (KO.tr (rfl : KO F F) hO2) hO16) hO22) hO49) hO67) hO145) hO188) hO205) hO214), (show (F 11).toInt = -2 → (F214 11).toInt = -2 by omega), trivial⟩
          · skip
            have l_219 : (42 : Int32).toInt = 42 := rfl
            have e_220 := mt i_le.mpr (show ¬ ((F49 11) ≤ (42 : Int32)) from c_64)
            unfold cb_X4_simple_149
            refine WP.bind (cs_X2_fail hfu (2 : Int32) F49 G49 hI49) ?_
            rintro r221 F221 G221 ⟨hI221, hB221, hT221, hO221, hp221⟩
            dsimp only
            have q_222 := hI221.r 10 rfl
            have e_223 : (F221 10).toInt = (F49 10).toInt := hO221
            have q_224 := i_rng (F221 11)
            have e_225 : (F221 11).toInt = -2 := hp221
            unfold cb_X4_simple_157
            refine WP.ret ?_
            exact ⟨hI221, (KB.tr (KB.tr (KB.tr (KB.tr (KB.tr (KB.rf : KB F G F G) hB2) hB16) hB22) hB49) hB221), (KT.tr (KT.tr (KT.tr (KT.tr (KT.tr (rfl : KT F F) hT2) hT16) hT22) hT49) hT221), (KO.tr (KO.tr (KO.tr (KO.tr (KO.tr (rfl : KO F F) hO2) hO16) hO22) hO49) hO221), (show (F 11).toInt = -2 → (F221 11).toInt = -2 by omega), trivial⟩
      · skip
        have l_226 : (21 : Int32).toInt = 21 := rfl
        have e_227 := mt i_eq.mpr (show ¬ ((F22 11) = (21 : Int32)) from c_45)
        unfold cb_X4_simple_110
        unfold cb_X4_simple_111
        refine WP.ite (fun _ => ?_) (fun c_228 => absurd (by decide) c_228)
        unfold cb_X4_simple_126
        refine WP.ite (fun c_229 => ?_) (fun c_229 => ?_)
        · skip
          have l_230 : (29 : Int32).toInt = 29 := rfl
          have e_231 := i_lt.mp (show (F22 11) < (29 : Int32) from c_229)
          unfold cb_X4_simple_149
          refine WP.bind (cs_X2_fail hfu (2 : Int32) F22 G22 hI22) ?_
          rintro r232 F232 G232 ⟨hI232, hB232, hT232, hO232, hp232⟩
          dsimp only
          have q_233 := hI232.r 10 rfl
          have e_234 : (F232 10).toInt = (F22 10).toInt := hO232
          have q_235 := i_rng (F232 11)
          have e_236 : (F232 11).toInt = -2 := hp232
          unfold cb_X4_simple_157
          refine WP.ret ?_
          exact ⟨hI232, (KB.tr (KB.tr (KB.tr (KB.tr (KB.rf : KB F G F G) hB2) hB16) hB22) hB232), (KT.tr (KT.tr (KT.tr (KT.tr (rfl : KT F F) hT2) hT16) hT22) hT232), (KO.tr (KO.tr (KO.tr (KO.tr (rfl : KO F F) hO2) hO16) hO22) hO232), (show (F 11).toInt = -2 → (F232 11).toInt = -2 by omega), trivial⟩
        · skip
          have l_237 : (29 : Int32).toInt = 29 := rfl
          have e_238 := mt i_lt.mpr (show ¬ ((F22 11) < (29 : Int32)) from c_229)
          unfold cb_X4_simple_142
          refine WP.ite (fun c_239 => ?_) (fun c_239 => ?_)
          · skip
            have l_240 : (42 : Int32).toInt = 42 := rfl
            have e_241 := i_le.mp (show (F22 11) ≤ (42 : Int32) from c_239)
            unfold cb_X4_simple_158
            refine WP.bind (cs_X2_next hfu F22 G22 hI22) ?_
            rintro r242 F242 G242 ⟨hI242, hB242, hT242, hO242, hp242⟩
            dsimp only
            have q_243 := hI242.r 10 rfl
            have e_244 : (F242 10).toInt = (F22 10).toInt := hO242
            unfold cb_X4_simple_165
            refine WP.ite (fun c_245 => ?_) (fun c_245 => ?_)
            · skip
              have e_246 := i_eq.mp (show (F22 11) = (29 : Int32) from c_245)
              unfold cb_X4_simple_179
              refine WP.ite (fun c_247 => ?_) (fun c_247 => ?_)
              · skip
                have l_248 : (41 : Int32).toInt = 41 := rfl
                have e_249 := i_le.mp (show (41 : Int32) ≤ (F22 11) from c_247)
                unfold cb_X4_simple_196
                have l_250 : (66 : Int32).toInt = 66 := rfl
                have l_251 : (1 : Int32).toInt = 1 := rfl
                refine WP.bind (cs_X1_addPair hfu (66 : Int32) (1 : Int32) F242 G242 hI242) ?_
                rintro r252 F252 G252 ⟨hI252, hB252, hT252, hO252, hK252, hp252⟩
                dsimp only
                have q_253 := i_rng (F242 11)
                have q_254 := i_rng (F252 11)
                have e_255 : (F252 11).toInt = (F242 11).toInt := congrArg Int32.toInt hK252
                have q_256 := hI252.r 10 rfl
                have e_257 : (F252 10).toInt = (F242 10).toInt := hO252
                unfold cb_X4_simple_206
                refine WP.ite (fun c_258 => ?_) (fun c_258 => ?_)
                · skip
                  have e_259 := i_eq.mp (show (F22 11) = (29 : Int32) from c_258)
                  unfold cb_X4_simple_229
                  refine WP.ite (fun _ => ?_) (fun c_260 => absurd (by decide) c_260)
                  unfold cb_X4_simple_245
                  refine WP.bind (cs_X3_store hfu r16 F252 G252 hI252) ?_
                  rintro r261 F261 G261 ⟨hI261, hB261, hT261, hO261, hK261, hp261⟩
                  dsimp only
                  have q_262 := i_rng (F261 11)
                  have e_263 : (F261 11).toInt = (F252 11).toInt := congrArg Int32.toInt hK261
                  have q_264 := hI261.r 10 rfl
                  have e_265 : (F261 10).toInt = (F252 10).toInt := hO261
                  unfold cb_X4_simple_253
                  refine WP.ret ?_
                  exact ⟨hI261, (KB.tr (KB.tr (KB.tr (KB.tr (KB.tr (KB.tr (KB.rf : KB F G F G) hB2) hB16) hB22) hB242) hB252) hB261), (KT.tr (KT.tr (KT.tr (KT.tr (KT.tr (KT.tr (rfl : KT F F) hT2) hT16) hT22) hT242) hT252) hT261), (KO.tr (KO.tr (KO.tr (KO.tr (KO.tr (KO.tr (rfl : KO F F) hO2) hO16) hO22) hO242) hO252) hO261), (show (F 11).toInt = -2 → (F261 11).toInt = -2 by omega), trivial⟩
                · skip
                  have e_266 := mt i_eq.mpr (show ¬ ((F22 11) = (29 : Int32)) from c_258)
                  unfold cb_X4_simple_213
                  first | have e_267 : ((F22 11) - (30 : Int32)).toInt = (F22 11).toInt - (30) := i_subn (F22 11) rfl (by omega) (by omega) | have e_268 := i_rng ((F22 11) - (30 : Int32))
                  refine WP.ix (show vp_in ((F22 11) - (30 : Int32)) 13 from vp_in_iff.mpr ⟨by omega, by omega⟩) ?_
                  have q_269 := i_rng (tb_5 ((F22 11) - (30 : Int32)).toNatClampNeg)
                  refine WP.bind (cs_X1_add hfu (tb_5 ((F22 11) - (30 : Int32)).toNatClampNeg) F252 G252 hI252) ?_
                  rintro r270 F270 G270 ⟨hI270, hB270, hT270, hO270, hK270, hp270⟩
                  dsimp only
                  have q_271 := i_rng (F270 11)
                  have e_272 : (F270 11).toInt = (F252 11).toInt := congrArg Int32.toInt hK270
                  have q_273 := hI270.r 10 rfl
                  have e_274 : (F270 10).toInt = (F252 10).toInt := hO270
                  have q_275 := hI252.r 21 rfl
                  have q_276 := hI270.r 21 rfl
                  have e_277 : (F270 21).toInt = (F252 21).toInt := congrArg Int32.toInt hp270
                  unfold cb_X4_simple_229
                  refine WP.ite (fun _ => ?_) (fun c_278 => absurd (by decide) c_278)
                  unfold cb_X4_simple_245
                  refine WP.bind (cs_X3_store hfu r16 F270 G270 hI270) ?_
                  rintro r279 F279 G279 ⟨hI279, hB279, hT279, hO279, hK279, hp279⟩
                  dsimp only
                  have q_280 := i_rng (F279 11)
                  have e_281 : (F279 11).toInt = (F270 11).toInt := congrArg Int32.toInt hK279
                  have q_282 := hI279.r 10 rfl
                  have e_283 : (F279 10).toInt = (F270 10).toInt := hO279
                  unfold cb_X4_simple_253
                  refine WP.ret ?_
                  exact ⟨hI279, (KB.tr (KB.tr (KB.tr (KB.tr (KB.tr (KB.tr (KB.tr (KB.rf : KB F G F G) hB2) hB16) hB22) hB242) hB252) hB270) hB279), (KT.tr (KT.tr (KT.tr (KT.tr (KT.tr (KT.tr (KT.tr (rfl : KT F F) hT2) hT16) hT22) hT242) hT252) hT270) hT279), (KO.tr (KO.tr (KO.tr (KO.tr (KO.tr (KO.tr (KO.tr (rfl : KO F F) hO2) hO16) hO22) hO242) hO252) hO270) hO279), (show (F 11).toInt = -2 → (F279 11).toInt = -2 by omega), trivial⟩
              · skip
                have l_284 : (41 : Int32).toInt = 41 := rfl
                have e_285 := mt i_le.mpr (show ¬ ((41 : Int32) ≤ (F22 11)) from c_247)
                unfold cb_X4_simple_186
                refine WP.bind (cs_X3_expression hfu F242 G242 hI242) ?_
                rintro r286 F286 G286 ⟨hI286, hB286, hT286, hO286, hS286, hp286⟩
                dsimp only
                have q_287 := i_rng (F242 11)
                have q_288 := i_rng (F286 11)
                have e_289 : (F242 11).toInt = -2 → (F286 11).toInt = -2 := hS286
                have q_290 := hI286.r 10 rfl
                have e_291 : (F286 10).toInt = (F242 10).toInt := hO286
                unfold cb_X4_simple_193
                unfold cb_X4_simple_206
                refine WP.ite (fun c_292 => ?_) (fun c_292 => ?_)
                · skip
                  have e_293 := i_eq.mp (show (F22 11) = (29 : Int32) from c_292)
                  unfold cb_X4_simple_229
                  refine WP.ite (fun _ => ?_) (fun c_294 => absurd (by decide) c_294)
                  unfold cb_X4_simple_245
                  refine WP.bind (cs_X3_store hfu r16 F286 G286 hI286) ?_
                  rintro r295 F295 G295 ⟨hI295, hB295, hT295, hO295, hK295, hp295⟩
                  dsimp only
                  have q_296 := i_rng (F295 11)
                  have e_297 : (F295 11).toInt = (F286 11).toInt := congrArg Int32.toInt hK295
                  have q_298 := hI295.r 10 rfl
                  have e_299 : (F295 10).toInt = (F286 10).toInt := hO295
                  unfold cb_X4_simple_253
                  refine WP.ret ?_
                  exact ⟨hI295, (KB.tr (KB.tr (KB.tr (KB.tr (KB.tr (KB.tr (KB.rf : KB F G F G) hB2) hB16) hB22) hB242) hB286) hB295), (KT.tr (KT.tr (KT.tr (KT.tr (KT.tr (KT.tr (rfl : KT F F) hT2) hT16) hT22) hT242) hT286) hT295), (KO.tr (KO.tr (KO.tr (KO.tr (KO.tr (KO.tr (rfl : KO F F) hO2) hO16) hO22) hO242) hO286) hO295), (show (F 11).toInt = -2 → (F295 11).toInt = -2 by omega), trivial⟩
                · skip
                  have e_300 := mt i_eq.mpr (show ¬ ((F22 11) = (29 : Int32)) from c_292)
                  unfold cb_X4_simple_213
                  first | have e_301 : ((F22 11) - (30 : Int32)).toInt = (F22 11).toInt - (30) := i_subn (F22 11) rfl (by omega) (by omega) | have e_302 := i_rng ((F22 11) - (30 : Int32))
                  refine WP.ix (show vp_in ((F22 11) - (30 : Int32)) 13 from vp_in_iff.mpr ⟨by omega, by omega⟩) ?_
                  have q_303 := i_rng (tb_5 ((F22 11) - (30 : Int32)).toNatClampNeg)
                  refine WP.bind (cs_X1_add hfu (tb_5 ((F22 11) - (30 : Int32)).toNatClampNeg) F286 G286 hI286) ?_
                  rintro r304 F304 G304 ⟨hI304, hB304, hT304, hO304, hK304, hp304⟩
                  dsimp only
                  have q_305 := i_rng (F304 11)
                  have e_306 : (F304 11).toInt = (F286 11).toInt := congrArg Int32.toInt hK304
                  have q_307 := hI304.r 10 rfl
                  have e_308 : (F304 10).toInt = (F286 10).toInt := hO304
                  have q_309 := hI286.r 21 rfl
                  have q_310 := hI304.r 21 rfl
                  have e_311 : (F304 21).toInt = (F286 21).toInt := congrArg Int32.toInt hp304
                  unfold cb_X4_simple_229
                  refine WP.ite (fun _ => ?_) (fun c_312 => absurd (by decide) c_312)
                  unfold cb_X4_simple_245
                  refine WP.bind (cs_X3_store hfu r16 F304 G304 hI304) ?_
                  rintro r313 F313 G313 ⟨hI313, hB313, hT313, hO313, hK313, hp313⟩
                  dsimp only
                  have q_314 := i_rng (F313 11)
                  have e_315 : (F313 11).toInt = (F304 11).toInt := congrArg Int32.toInt hK313
                  have q_316 := hI313.r 10 rfl
                  have e_317 : (F313 10).toInt = (F304 10).toInt := hO313
                  unfold cb_X4_simple_253
                  refine WP.ret ?_
                  exact ⟨hI313, (KB.tr (KB.tr (KB.tr (KB.tr (KB.tr (KB.tr (KB.tr (KB.rf : KB F G F G) hB2) hB16) hB22) hB242) hB286) hB304) hB313), (KT.tr (KT.tr (KT.tr (KT.tr (KT.tr (KT.tr (KT.tr (rfl : KT F F) hT2) hT16) hT22) hT242) hT286) hT304) hT313), (KO.tr (KO.tr (KO.tr (KO.tr (KO.tr (KO.tr (KO.tr (rfl : KO F F) hO2) hO16) hO22) hO242) hO286) hO304) hO313), (show (F 11).toInt = -2 → (F313 11).toInt = -2 by omega), trivial⟩
            · skip
              have e_318 := mt i_eq.mpr (show ¬ ((F22 11) = (29 : Int32)) from c_245)
              unfold cb_X4_simple_172
              have l_319 : (0 : Int32).toInt = 0 := rfl
              refine WP.bind (cs_X4_oldValue hfu r16 (0 : Int32) F242 G242 hI242 (by decide)) ?_
              rintro r320 F320 G320 ⟨hI320, hB320, hT320, hO320, hK320, hp320⟩
              dsimp only
              have q_321 := i_rng (F242 11)
              have q_322 := i_rng (F320 11)
              have e_323 : (F320 11).toInt = (F242 11).toInt := congrArg Int32.toInt hK320
              have q_324 := hI320.r 10 rfl
              have e_325 : (F320 10).toInt = (F242 10).toInt := hO320
              unfold cb_X4_simple_179
              refine WP.ite (fun c_326 => ?_) (fun c_326 => ?_)
              · skip
                have l_327 : (41 : Int32).toInt = 41 := rfl
                have e_328 := i_le.mp (show (41 : Int32) ≤ (F22 11) from c_326)
                unfold cb_X4_simple_196
                have l_329 : (66 : Int32).toInt = 66 := rfl
                have l_330 : (1 : Int32).toInt = 1 := rfl
                refine WP.bind (cs_X1_addPair hfu (66 : Int32) (1 : Int32) F320 G320 hI320) ?_
                rintro r331 F331 G331 ⟨hI331, hB331, hT331, hO331, hK331, hp331⟩
                dsimp only
                have q_332 := i_rng (F331 11)
                have e_333 : (F331 11).toInt = (F320 11).toInt := congrArg Int32.toInt hK331
                have q_334 := hI331.r 10 rfl
                have e_335 : (F331 10).toInt = (F320 10).toInt := hO331
                unfold cb_X4_simple_206
                refine WP.ite (fun c_336 => ?_) (fun c_336 => ?_)
                · skip
                  have e_337 := i_eq.mp (show (F22 11) = (29 : Int32) from c_336)
                  unfold cb_X4_simple_229
                  refine WP.ite (fun _ => ?_) (fun c_338 => absurd (by decide) c_338)
                  unfold cb_X4_simple_245
                  refine WP.bind (cs_X3_store hfu r16 F331 G331 hI331) ?_
                  rintro r339 F339 G339 ⟨hI339, hB339, hT339, hO339, hK339, hp339⟩
                  dsimp only
                  have q_340 := i_rng (F339 11)
                  have e_341 : (F339 11).toInt = (F331 11).toInt := congrArg Int32.toInt hK339
                  have q_342 := hI339.r 10 rfl
                  have e_343 : (F339 10).toInt = (F331 10).toInt := hO339
                  unfold cb_X4_simple_253
                  refine WP.ret ?_
                  exact ⟨hI339, (KB.tr (KB.tr (KB.tr (KB.tr (KB.tr (KB.tr (KB.tr (KB.rf : KB F G F G) hB2) hB16) hB22) hB242) hB320) hB331) hB339), (KT.tr (KT.tr (KT.tr (KT.tr (KT.tr (KT.tr (KT.tr (rfl : KT F F) hT2) hT16) hT22) hT242) hT320) hT331) hT339), (KO.tr (KO.tr (KO.tr (KO.tr (KO.tr (KO.tr (KO.tr (rfl : KO F F) hO2) hO16) hO22) hO242) hO320) hO331) hO339), (show (F 11).toInt = -2 → (F339 11).toInt = -2 by omega), trivial⟩
                · skip
                  have e_344 := mt i_eq.mpr (show ¬ ((F22 11) = (29 : Int32)) from c_336)
                  unfold cb_X4_simple_213
                  first | have e_345 : ((F22 11) - (30 : Int32)).toInt = (F22 11).toInt - (30) := i_subn (F22 11) rfl (by omega) (by omega) | have e_346 := i_rng ((F22 11) - (30 : Int32))
                  refine WP.ix (show vp_in ((F22 11) - (30 : Int32)) 13 from vp_in_iff.mpr ⟨by omega, by omega⟩) ?_
                  have q_347 := i_rng (tb_5 ((F22 11) - (30 : Int32)).toNatClampNeg)
                  refine WP.bind (cs_X1_add hfu (tb_5 ((F22 11) - (30 : Int32)).toNatClampNeg) F331 G331 hI331) ?_
                  rintro r348 F348 G348 ⟨hI348, hB348, hT348, hO348, hK348, hp348⟩
                  dsimp only
                  have q_349 := i_rng (F348 11)
                  have e_350 : (F348 11).toInt = (F331 11).toInt := congrArg Int32.toInt hK348
                  have q_351 := hI348.r 10 rfl
                  have e_352 : (F348 10).toInt = (F331 10).toInt := hO348
                  have q_353 := hI331.r 21 rfl
                  have q_354 := hI348.r 21 rfl
                  have e_355 : (F348 21).toInt = (F331 21).toInt := congrArg Int32.toInt hp348
                  unfold cb_X4_simple_229
                  refine WP.ite (fun _ => ?_) (fun c_356 => absurd (by decide) c_356)
                  unfold cb_X4_simple_245
                  refine WP.bind (cs_X3_store hfu r16 F348 G348 hI348) ?_
                  rintro r357 F357 G357 ⟨hI357, hB357, hT357, hO357, hK357, hp357⟩
                  dsimp only
                  have q_358 := i_rng (F357 11)
                  have e_359 : (F357 11).toInt = (F348 11).toInt := congrArg Int32.toInt hK357
                  have q_360 := hI357.r 10 rfl
                  have e_361 : (F357 10).toInt = (F348 10).toInt := hO357
                  unfold cb_X4_simple_253
                  refine WP.ret ?_
                  exact ⟨hI357, (KB.tr (KB.tr (KB.tr (KB.tr (KB.tr (KB.tr (KB.tr (KB.tr (KB.rf : KB F G F G) hB2) hB16) hB22) hB242) hB320) hB331) hB348) hB357), (KT.tr (KT.tr (KT.tr (KT.tr (KT.tr (KT.tr (KT.tr (KT.tr (rfl : KT F F) hT2) hT16) hT22) hT242) hT320) hT331) hT348) hT357), (KO.tr (KO.tr (KO.tr (KO.tr (KO.tr (KO.tr (KO.tr (KO.tr (rfl : KO F F) hO2) hO16) hO22) hO242) hO320) hO331) hO348) hO357), (show (F 11).toInt = -2 → (F357 11).toInt = -2 by omega), trivial⟩
              · skip
                have l_362 : (41 : Int32).toInt = 41 := rfl
                have e_363 := mt i_le.mpr (show ¬ ((41 : Int32) ≤ (F22 11)) from c_326)
                unfold cb_X4_simple_186
                refine WP.bind (cs_X3_expression hfu F320 G320 hI320) ?_
                rintro r364 F364 G364 ⟨hI364, hB364, hT364, hO364, hS364, hp364⟩
                dsimp only
                have q_365 := i_rng (F364 11)
                have e_366 : (F320 11).toInt = -2 → (F364 11).toInt = -2 := hS364
                have q_367 := hI364.r 10 rfl
                have e_368 : (F364 10).toInt = (F320 10).toInt := hO364
                unfold cb_X4_simple_193
                unfold cb_X4_simple_206
                refine WP.ite (fun c_369 => ?_) (fun c_369 => ?_)
                · skip
                  have e_370 := i_eq.mp (show (F22 11) = (29 : Int32) from c_369)
                  unfold cb_X4_simple_229
                  refine WP.ite (fun _ => ?_) (fun c_371 => absurd (by decide) c_371)
                  unfold cb_X4_simple_245
                  refine WP.bind (cs_X3_store hfu r16 F364 G364 hI364) ?_
                  rintro r372 F372 G372 ⟨hI372, hB372, hT372, hO372, hK372, hp372⟩
                  dsimp only
                  have q_373 := i_rng (F372 11)
                  have e_374 : (F372 11).toInt = (F364 11).toInt := congrArg Int32.toInt hK372
                  have q_375 := hI372.r 10 rfl
                  have e_376 : (F372 10).toInt = (F364 10).toInt := hO372
                  unfold cb_X4_simple_253
                  refine WP.ret ?_
                  exact ⟨hI372, (KB.tr (KB.tr (KB.tr (KB.tr (KB.tr (KB.tr (KB.tr (KB.rf : KB F G F G) hB2) hB16) hB22) hB242) hB320) hB364) hB372), (KT.tr (KT.tr (KT.tr (KT.tr (KT.tr (KT.tr (KT.tr (rfl : KT F F) hT2) hT16) hT22) hT242) hT320) hT364) hT372), (KO.tr (KO.tr (KO.tr (KO.tr (KO.tr (KO.tr (KO.tr (rfl : KO F F) hO2) hO16) hO22) hO242) hO320) hO364) hO372), (show (F 11).toInt = -2 → (F372 11).toInt = -2 by omega), trivial⟩
                · skip
                  have e_377 := mt i_eq.mpr (show ¬ ((F22 11) = (29 : Int32)) from c_369)
                  unfold cb_X4_simple_213
                  first | have e_378 : ((F22 11) - (30 : Int32)).toInt = (F22 11).toInt - (30) := i_subn (F22 11) rfl (by omega) (by omega) | have e_379 := i_rng ((F22 11) - (30 : Int32))
                  refine WP.ix (show vp_in ((F22 11) - (30 : Int32)) 13 from vp_in_iff.mpr ⟨by omega, by omega⟩) ?_
                  have q_380 := i_rng (tb_5 ((F22 11) - (30 : Int32)).toNatClampNeg)
                  refine WP.bind (cs_X1_add hfu (tb_5 ((F22 11) - (30 : Int32)).toNatClampNeg) F364 G364 hI364) ?_
                  rintro r381 F381 G381 ⟨hI381, hB381, hT381, hO381, hK381, hp381⟩
                  dsimp only
                  have q_382 := i_rng (F381 11)
                  have e_383 : (F381 11).toInt = (F364 11).toInt := congrArg Int32.toInt hK381
                  have q_384 := hI381.r 10 rfl
                  have e_385 : (F381 10).toInt = (F364 10).toInt := hO381
                  have q_386 := hI364.r 21 rfl
                  have q_387 := hI381.r 21 rfl
                  have e_388 : (F381 21).toInt = (F364 21).toInt := congrArg Int32.toInt hp381
                  unfold cb_X4_simple_229
                  refine WP.ite (fun _ => ?_) (fun c_389 => absurd (by decide) c_389)
                  unfold cb_X4_simple_245
                  refine WP.bind (cs_X3_store hfu r16 F381 G381 hI381) ?_
                  rintro r390 F390 G390 ⟨hI390, hB390, hT390, hO390, hK390, hp390⟩
                  dsimp only
                  have q_391 := i_rng (F390 11)
                  have e_392 : (F390 11).toInt = (F381 11).toInt := congrArg Int32.toInt hK390
                  have q_393 := hI390.r 10 rfl
                  have e_394 : (F390 10).toInt = (F381 10).toInt := hO390
                  unfold cb_X4_simple_253
                  refine WP.ret ?_
                  exact ⟨hI390, (KB.tr (KB.tr (KB.tr (KB.tr (KB.tr (KB.tr (KB.tr (KB.tr (KB.rf : KB F G F G) hB2) hB16) hB22) hB242) hB320) hB364) hB381) hB390), (KT.tr (KT.tr (KT.tr (KT.tr (KT.tr (KT.tr (KT.tr (KT.tr (rfl : KT F F) hT2) hT16) hT22) hT242) hT320) hT364) hT381) hT390), (KO.tr (KO.tr (KO.tr (KO.tr (KO.tr (KO.tr (KO.tr (KO.tr (rfl : KO F F) hO2) hO16) hO22) hO242) hO320) hO364) hO381) hO390), (show (F 11).toInt = -2 → (F390 11).toInt = -2 by omega), trivial⟩
          · skip
            have l_395 : (42 : Int32).toInt = 42 := rfl
            have e_396 := mt i_le.mpr (show ¬ ((F22 11) ≤ (42 : Int32)) from c_239)
            unfold cb_X4_simple_149
            refine WP.bind (cs_X2_fail hfu (2 : Int32) F22 G22 hI22) ?_
            rintro r397 F397 G397 ⟨hI397, hB397, hT397, hO397, hp397⟩
            dsimp only
            have q_398 := hI397.r 10 rfl
            have e_399 : (F397 10).toInt = (F22 10).toInt := hO397
            have q_400 := i_rng (F397 11)
            have e_401 : (F397 11).toInt = -2 := hp397
            unfold cb_X4_simple_157
            refine WP.ret ?_
            exact ⟨hI397, (KB.tr (KB.tr (KB.tr (KB.tr (KB.rf : KB F G F G) hB2) hB16) hB22) hB397), (KT.tr (KT.tr (KT.tr (KT.tr (rfl : KT F F) hT2) hT16) hT22) hT397), (KO.tr (KO.tr (KO.tr (KO.tr (rfl : KO F F) hO2) hO16) hO22) hO397), (show (F 11).toInt = -2 → (F397 11).toInt = -2 by omega), trivial⟩
def cIH2 (rc : RC) (d : Nat) : Prop := (∀ (F : PF) (G : PG), CI F G → 0 ≤ (F 10).toInt → (4 * (40 - (F 10).toInt) + 1 ≤ (d : Int) ∨ ((F 11).toInt = -2 ∧ 1 ≤ (d : Int))) → WP (rc 0 0 0 F G) (fun r' F' G' => CI F' G' ∧ KB F G F' G' ∧ KT F F' ∧ KS F F' ∧ (((F' 10).toInt = (F 10).toInt ∨ ((F' 10).toInt = (F 10).toInt - 1 ∧ (F' 11).toInt = -2 ∧ (F 11).toInt ≠ -2))))) ∧ (∀ (F : PF) (G : PG), CI F G → 0 ≤ (F 10).toInt → (4 * (40 - (F 10).toInt) + 3 ≤ (d : Int) ∨ ((F 11).toInt = -2 ∧ 1 ≤ (d : Int))) → WP (rc 1 0 0 F G) (fun r' F' G' => CI F' G' ∧ KB F G F' G' ∧ KT F F' ∧ KS F F' ∧ (((F' 10).toInt = (F 10).toInt ∨ ((F' 10).toInt = (F 10).toInt - 1 ∧ (F' 11).toInt = -2 ∧ (F 11).toInt ≠ -2))))) ∧ (∀ (F : PF) (G : PG), CI F G → 0 ≤ (F 10).toInt → (4 * (40 - (F 10).toInt) + 3 ≤ (d : Int) ∨ ((F 11).toInt = -2 ∧ 1 ≤ (d : Int))) → WP (rc 2 0 0 F G) (fun r' F' G' => CI F' G' ∧ KB F G F' G' ∧ KT F F' ∧ KS F F' ∧ (((F' 10).toInt = (F 10).toInt ∨ ((F' 10).toInt = (F 10).toInt - 1 ∧ (F' 11).toInt = -2 ∧ (F 11).toInt ≠ -2))))) ∧ (∀ (F : PF) (G : PG), CI F G → 0 ≤ (F 10).toInt → (4 * (40 - (F 10).toInt) + 2 ≤ (d : Int) ∨ ((F 11).toInt = -2 ∧ 1 ≤ (d : Int))) → WP (rc 3 0 0 F G) (fun r' F' G' => CI F' G' ∧ KB F G F' G' ∧ KT F F' ∧ KS F F' ∧ (((F' 10).toInt = (F 10).toInt ∨ ((F' 10).toInt = (F 10).toInt - 1 ∧ (F' 11).toInt = -2 ∧ (F 11).toInt ≠ -2))))) ∧ (∀ (F : PF) (G : PG), CI F G → 0 ≤ (F 10).toInt → (4 * (40 - (F 10).toInt) + 5 ≤ (d : Int) ∨ ((F 11).toInt = -2 ∧ 2 ≤ (d : Int))) → WP (rc 4 0 0 F G) (fun r' F' G' => CI F' G' ∧ KB F G F' G' ∧ KT F F' ∧ KS F F' ∧ (((F' 10).toInt = (F 10).toInt ∨ ((F' 10).toInt = (F 10).toInt - 1 ∧ (F' 11).toInt = -2 ∧ (F 11).toInt ≠ -2))))) ∧ (∀ (F : PF) (G : PG), CI F G → 0 ≤ (F 10).toInt → (4 * (40 - (F 10).toInt) + 6 ≤ (d : Int) ∨ ((F 11).toInt = -2 ∧ 3 ≤ (d : Int))) → WP (rc 5 0 0 F G) (fun r' F' G' => CI F' G' ∧ KB F G F' G' ∧ KT F F' ∧ KS F F' ∧ (((F' 10).toInt = (F 10).toInt ∨ ((F' 10).toInt = (F 10).toInt - 1 ∧ (F' 11).toInt = -2 ∧ (F 11).toInt ≠ -2))))) ∧ (∀ (F : PF) (G : PG), CI F G → 0 ≤ (F 10).toInt → (4 * (40 - (F 10).toInt) + 4 ≤ (d : Int) ∨ ((F 11).toInt = -2 ∧ 1 ≤ (d : Int))) → WP (rc 6 0 0 F G) (fun r' F' G' => CI F' G' ∧ KB F G F' G' ∧ KT F F' ∧ KS F F' ∧ (((F' 10).toInt = (F 10).toInt ∨ ((F' 10).toInt = (F 10).toInt - 1 ∧ (F' 11).toInt = -2 ∧ (F 11).toInt ≠ -2))))) ∧ (∀ (F : PF) (G : PG), CI F G → 0 ≤ (F 10).toInt → (4 * (40 - (F 10).toInt) + 3 ≤ (d : Int) ∨ ((F 11).toInt = -2 ∧ 1 ≤ (d : Int))) → WP (rc 7 0 0 F G) (fun r' F' G' => CI F' G' ∧ KB F G F' G' ∧ KT F F' ∧ KS F F' ∧ (((F' 10).toInt = (F 10).toInt ∨ ((F' 10).toInt = (F 10).toInt - 1 ∧ (F' 11).toInt = -2 ∧ (F 11).toInt ≠ -2)))))
theorem cz_X4_block_15 {fu : Nat} (hfu : 8589934592 ≤ fu) (rc : RC) {d : Nat} (ih : cIH2 rc d) {F0 : PF} {G0 : PG} (hd : (4 * (40 - (F0 10).toInt) + 1 ≤ (d + 1 : Int) ∨ ((F0 11).toInt = -2 ∧ 1 ≤ (d + 1 : Int)))) : ∀ (n : Nat) (x1 : Int32) (F : PF) (G : PG) (hI : CI F G) (hB : KB F0 G0 F G) (hT : KT F0 F) (hS : KS F0 F) (i_0 : (F 10).toInt = (F0 10).toInt + 1 ∨ ((F 10).toInt = (F0 10).toInt ∧ (F 11).toInt = -2)) (i_1 : 0 ≤ (F0 10).toInt) (i_2 : (F0 10).toInt < 40) (i_3 : (F0 11).toInt ≠ -2) (hn : (2147483647 - x1.toInt).toNat < n), WP (cl_X4_block_15 fu rc n x1 F G) (fun r' F' G' => CI F' G' ∧ KB F0 G0 F' G' ∧ KT F0 F' ∧ KS F0 F' ∧ (((F' 10).toInt = (F0 10).toInt ∨ ((F' 10).toInt = (F0 10).toInt - 1 ∧ (F' 11).toInt = -2 ∧ (F0 11).toInt ≠ -2)))) := by
  intro n
  induction n with
  | zero =>
    intro x1 F G hI hB hT hS i_0 i_1 i_2 i_3 hn
    exact absurd hn (Nat.not_lt_zero _)
  | succ n ihn =>
    intro x1 F G hI hB hT hS i_0 i_1 i_2 i_3 hn
    show WP (cb_X4_block_15 fu rc (cl_X4_block_15 fu rc n)  x1 F G) _
    have q_S : (F0 11).toInt = -2 → (F 11).toInt = -2 := hS
    unfold cb_X4_block_15
    refine WP.ite (fun c_1 => ?_) (fun c_1 => ?_)
    · skip
      have l_2 : (4001 : Int32).toInt = 4001 := rfl
      have q_3 := i_rng x1
      have e_4 := i_le.mp (show (4001 : Int32) ≤ x1 from c_1)
      unfold cb_X4_block_56
      have l_5 : (24 : Int32).toInt = 24 := rfl
      have q_6 := hI.r 10 rfl
      refine WP.bind (cs_X2_closesWith hfu (24 : Int32) F G hI (show 0 ≤ (F 10).toInt by omega) (show (24 : Int32).toInt ≠ -2 by omega)) ?_
      rintro r7 F7 G7 ⟨hI7, hB7, hT7, hS7, hp7⟩
      dsimp only
      have q_8 := i_rng (F 11)
      have q_9 := i_rng (F7 11)
      have e_10 : (F 11).toInt = -2 → (F7 11).toInt = -2 := hS7
      have q_11 := hI7.r 10 rfl
      have e_12 : (F7 10).toInt = (F 10).toInt - 1 := hp7
      unfold cb_X4_block_65
      refine WP.ret ?_
      exact ⟨hI7, (KB.tr hB hB7), (KT.tr hT hT7), (show (F0 11).toInt = -2 → (F7 11).toInt = -2 by omega), (show (F7 10).toInt = (F0 10).toInt ∨ ((F7 10).toInt = (F0 10).toInt - 1 ∧ (F7 11).toInt = -2 ∧ (F0 11).toInt ≠ -2) by omega)⟩
    · skip
      have l_13 : (4001 : Int32).toInt = 4001 := rfl
      have q_14 := i_rng x1
      have e_15 := mt i_le.mpr (show ¬ ((4001 : Int32) ≤ x1) from c_1)
      unfold cb_X4_block_22
      refine WP.ite (fun c_16 => ?_) (fun c_16 => ?_)
      · skip
        have q_17 := i_rng (F 11)
        have l_18 : (24 : Int32).toInt = 24 := rfl
        have e_19 := i_eq.mp (show (F 11) = (24 : Int32) from c_16)
        unfold cb_X4_block_56
        have q_20 := hI.r 10 rfl
        refine WP.bind (cs_X2_closesWith hfu (24 : Int32) F G hI (show 0 ≤ (F 10).toInt by omega) (show (24 : Int32).toInt ≠ -2 by omega)) ?_
        rintro r21 F21 G21 ⟨hI21, hB21, hT21, hS21, hp21⟩
        dsimp only
        have q_22 := i_rng (F21 11)
        have e_23 : (F 11).toInt = -2 → (F21 11).toInt = -2 := hS21
        have q_24 := hI21.r 10 rfl
        have e_25 : (F21 10).toInt = (F 10).toInt - 1 := hp21
        unfold cb_X4_block_65
        refine WP.ret ?_
        exact ⟨hI21, (KB.tr hB hB21), (KT.tr hT hT21), (show (F0 11).toInt = -2 → (F21 11).toInt = -2 by omega), (show (F21 10).toInt = (F0 10).toInt ∨ ((F21 10).toInt = (F0 10).toInt - 1 ∧ (F21 11).toInt = -2 ∧ (F0 11).toInt ≠ -2) by omega)⟩
      · skip
        have q_26 := i_rng (F 11)
        have l_27 : (24 : Int32).toInt = 24 := rfl
        have e_28 := mt i_eq.mpr (show ¬ ((F 11) = (24 : Int32)) from c_16)
        unfold cb_X4_block_34
        refine WP.ite (fun c_29 => ?_) (fun c_29 => ?_)
        · skip
          have l_30 : (-2 : Int32).toInt = -2 := rfl
          have e_31 := i_eq.mp (show (F 11) = (-2 : Int32) from c_29)
          unfold cb_X4_block_56
          have q_32 := hI.r 10 rfl
          refine WP.bind (cs_X2_closesWith hfu (24 : Int32) F G hI (show 0 ≤ (F 10).toInt by omega) (show (24 : Int32).toInt ≠ -2 by omega)) ?_
          rintro r33 F33 G33 ⟨hI33, hB33, hT33, hS33, hp33⟩
          dsimp only
          have q_34 := i_rng (F33 11)
          have e_35 : (F 11).toInt = -2 → (F33 11).toInt = -2 := hS33
          have q_36 := hI33.r 10 rfl
          have e_37 : (F33 10).toInt = (F 10).toInt - 1 := hp33
          unfold cb_X4_block_65
          refine WP.ret ?_
          exact ⟨hI33, (KB.tr hB hB33), (KT.tr hT hT33), (show (F0 11).toInt = -2 → (F33 11).toInt = -2 by omega), (show (F33 10).toInt = (F0 10).toInt ∨ ((F33 10).toInt = (F0 10).toInt - 1 ∧ (F33 11).toInt = -2 ∧ (F0 11).toInt ≠ -2) by omega)⟩
        · skip
          have l_38 : (-2 : Int32).toInt = -2 := rfl
          have e_39 := mt i_eq.mpr (show ¬ ((F 11) = (-2 : Int32)) from c_29)
          unfold cb_X4_block_46
          have q_40 := hI.r 10 rfl
          refine WP.bind (ih.2.2.2.2.2.2.1 F G hI (show 0 ≤ (F 10).toInt by omega) (by omega)) ?_
          rintro r41 F41 G41 ⟨hI41, hB41, hT41, hS41, hp41⟩
          dsimp only
          have q_42 := i_rng (F41 11)
          have e_43 : (F 11).toInt = -2 → (F41 11).toInt = -2 := hS41
          have q_44 := hI41.r 10 rfl
          have e_45 : (F41 10).toInt = (F 10).toInt ∨ ((F41 10).toInt = (F 10).toInt - 1 ∧ (F41 11).toInt = -2 ∧ (F 11).toInt ≠ -2) := hp41
          unfold cb_X4_block_50
          first | have e_46 : (x1 + (1 : Int32)).toInt = x1.toInt + (1) := i_addn x1 rfl (by omega) (by omega) | have e_47 := i_rng (x1 + (1 : Int32))
          exact ihn (x1 + (1 : Int32)) F41 G41 hI41 (KB.tr hB hB41) (KT.tr hT hT41) (show (F0 11).toInt = -2 → (F41 11).toInt = -2 by omega) (show (F41 10).toInt = (F0 10).toInt + 1 ∨ ((F41 10).toInt = (F0 10).toInt ∧ (F41 11).toInt = -2) by omega) (show 0 ≤ (F0 10).toInt by omega) (show (F0 10).toInt < 40 by omega) (show (F0 11).toInt ≠ -2 by omega) (by omega)
theorem ct_X4_block {fu d : Nat} (hfu : 8589934592 ≤ fu) (rc : RC) (ih : cIH2 rc d) (F : PF) (G : PG) (hI : CI F G) (h10 : 0 ≤ (F 10).toInt) (hd : (4 * (40 - (F 10).toInt) + 1 ≤ (d + 1 : Int) ∨ ((F 11).toInt = -2 ∧ 1 ≤ (d + 1 : Int)))) : WP (ch_X4_block fu rc F G) (fun r' F' G' => CI F' G' ∧ KB F G F' G' ∧ KT F F' ∧ KS F F' ∧ (((F' 10).toInt = (F 10).toInt ∨ ((F' 10).toInt = (F 10).toInt - 1 ∧ (F' 11).toInt = -2 ∧ (F 11).toInt ≠ -2)))) := by
  unfold ch_X4_block
  have q_10 := hI.r 10 rfl
  unfold cb_X4_block_0
  have l_1 : (23 : Int32).toInt = 23 := rfl
  refine WP.bind (cs_X2_opens hfu (23 : Int32) F G hI (show (23 : Int32).toInt ≠ -2 by omega)) ?_
  rintro r2 F2 G2 ⟨hI2, hB2, hT2, hS2, hp2⟩
  dsimp only
  have q_3 := i_rng (F 11)
  have q_4 := i_rng (F2 11)
  have e_5 : (F 11).toInt = -2 → (F2 11).toInt = -2 := hS2
  have q_6 := b_rng (hp2.1)
  have q_7 := hI.r 10 rfl
  have q_8 := hI2.r 10 rfl
  have e_9 : r2.toInt = 1 → (F2 10).toInt = (F 10).toInt + 1 ∧ (F 10).toInt < 40 ∧ (F 11).toInt ≠ -2 := hp2.2.1
  have e_10 : r2.toInt = 0 → (F2 10).toInt = (F 10).toInt ∧ (F2 11).toInt = -2 := hp2.2.2
  unfold cb_X4_block_9
  refine WP.ite (fun c_11 => ?_) (fun c_11 => ?_)
  · skip
    have l_12 : (0 : Int32).toInt = 0 := rfl
    have e_13 := i_eq.mp (show r2 = (0 : Int32) from c_11)
    unfold cb_X4_block_12
    refine WP.ret ?_
    exact ⟨hI2, (KB.tr (KB.rf : KB F G F G) hB2), (KT.tr (rfl : KT F F) hT2), (show (F 11).toInt = -2 → (F2 11).toInt = -2 by omega), (show (F2 10).toInt = (F 10).toInt ∨ ((F2 10).toInt = (F 10).toInt - 1 ∧ (F2 11).toInt = -2 ∧ (F 11).toInt ≠ -2) by omega)⟩
  · skip
    have l_14 : (0 : Int32).toInt = 0 := rfl
    have e_15 := mt i_eq.mpr (show ¬ (r2 = (0 : Int32)) from c_11)
    unfold cb_X4_block_13
    exact cz_X4_block_15 (F0 := F) (G0 := G) hfu rc ih hd fu (0 : Int32) F2 G2 hI2 (KB.tr (KB.rf : KB F G F G) hB2) (KT.tr (rfl : KT F F) hT2) (show (F 11).toInt = -2 → (F2 11).toInt = -2 by omega) (show (F2 10).toInt = (F 10).toInt + 1 ∨ ((F2 10).toInt = (F 10).toInt ∧ (F2 11).toInt = -2) by omega) (show 0 ≤ (F 10).toInt by omega) (show (F 10).toInt < 40 by omega) (show (F 11).toInt ≠ -2 by omega) (by omega)
theorem ct_X4_doStatement {fu d : Nat} (hfu : 8589934592 ≤ fu) (rc : RC) (ih : cIH2 rc d) (F : PF) (G : PG) (hI : CI F G) (h10 : 0 ≤ (F 10).toInt) (hd : (4 * (40 - (F 10).toInt) + 3 ≤ (d + 1 : Int) ∨ ((F 11).toInt = -2 ∧ 1 ≤ (d + 1 : Int)))) : WP (ch_X4_doStatement fu rc F G) (fun r' F' G' => CI F' G' ∧ KB F G F' G' ∧ KT F F' ∧ KS F F' ∧ (((F' 10).toInt = (F 10).toInt ∨ ((F' 10).toInt = (F 10).toInt - 1 ∧ (F' 11).toInt = -2 ∧ (F 11).toInt ≠ -2)))) := by
  unfold ch_X4_doStatement
  have q_10 := hI.r 10 rfl
  unfold cb_X4_doStatement_0
  have l_1 : (11 : Int32).toInt = 11 := rfl
  refine WP.bind (cs_X2_opens hfu (11 : Int32) F G hI (show (11 : Int32).toInt ≠ -2 by omega)) ?_
  rintro r2 F2 G2 ⟨hI2, hB2, hT2, hS2, hp2⟩
  dsimp only
  have q_3 := i_rng (F 11)
  have q_4 := i_rng (F2 11)
  have e_5 : (F 11).toInt = -2 → (F2 11).toInt = -2 := hS2
  have q_6 := b_rng (hp2.1)
  have q_7 := hI.r 10 rfl
  have q_8 := hI2.r 10 rfl
  have e_9 : r2.toInt = 1 → (F2 10).toInt = (F 10).toInt + 1 ∧ (F 10).toInt < 40 ∧ (F 11).toInt ≠ -2 := hp2.2.1
  have e_10 : r2.toInt = 0 → (F2 10).toInt = (F 10).toInt ∧ (F2 11).toInt = -2 := hp2.2.2
  unfold cb_X4_doStatement_9
  refine WP.ite (fun c_11 => ?_) (fun c_11 => ?_)
  · skip
    have l_12 : (0 : Int32).toInt = 0 := rfl
    have e_13 := i_eq.mp (show r2 = (0 : Int32) from c_11)
    unfold cb_X4_doStatement_12
    refine WP.ret ?_
    exact ⟨hI2, (KB.tr (KB.rf : KB F G F G) hB2), (KT.tr (rfl : KT F F) hT2), (show (F 11).toInt = -2 → (F2 11).toInt = -2 by omega), (show (F2 10).toInt = (F 10).toInt ∨ ((F2 10).toInt = (F 10).toInt - 1 ∧ (F2 11).toInt = -2 ∧ (F 11).toInt ≠ -2) by omega)⟩
  · skip
    have l_14 : (0 : Int32).toInt = 0 := rfl
    have e_15 := mt i_eq.mpr (show ¬ (r2 = (0 : Int32)) from c_11)
    unfold cb_X4_doStatement_13
    refine WP.bind (ih.2.2.2.2.2.1 F2 G2 hI2 (show 0 ≤ (F2 10).toInt by omega) (by omega)) ?_
    rintro r16 F16 G16 ⟨hI16, hB16, hT16, hS16, hp16⟩
    dsimp only
    have q_17 := i_rng (F16 11)
    have e_18 : (F2 11).toInt = -2 → (F16 11).toInt = -2 := hS16
    have q_19 := hI16.r 10 rfl
    have e_20 : (F16 10).toInt = (F2 10).toInt ∨ ((F16 10).toInt = (F2 10).toInt - 1 ∧ (F16 11).toInt = -2 ∧ (F2 11).toInt ≠ -2) := hp16
    unfold cb_X4_doStatement_35
    have q_21 := i_rng (F16 31)
    have q_22 := hI16.r 6 rfl
    refine WP.bind (cs_X1_aim hfu (F16 31) (F16 6) F16 G16 hI16) ?_
    rintro r23 F23 G23 ⟨hI23, hB23, hT23, hO23, hK23, hp23⟩
    dsimp only
    have q_24 := i_rng (F23 11)
    have e_25 : (F23 11).toInt = (F16 11).toInt := congrArg Int32.toInt hK23
    have q_26 := hI23.r 10 rfl
    have e_27 : (F23 10).toInt = (F16 10).toInt := hO23
    unfold cb_X4_doStatement_53
    have l_28 : (10 : Int32).toInt = 10 := rfl
    refine WP.bind (cs_X2_expect hfu (10 : Int32) F23 G23 hI23 (show (10 : Int32).toInt ≠ -2 by omega)) ?_
    rintro r29 F29 G29 ⟨hI29, hB29, hT29, hO29, hS29, hp29⟩
    dsimp only
    have q_30 := i_rng (F29 11)
    have e_31 : (F23 11).toInt = -2 → (F29 11).toInt = -2 := hS29
    have q_32 := hI29.r 10 rfl
    have e_33 : (F29 10).toInt = (F23 10).toInt := hO29
    unfold cb_X4_doStatement_62
    refine WP.bind (cs_X4_condition hfu F29 G29 hI29) ?_
    rintro r34 F34 G34 ⟨hI34, hB34, hT34, hO34, hS34, hp34⟩
    dsimp only
    have q_35 := i_rng (F34 11)
    have e_36 : (F29 11).toInt = -2 → (F34 11).toInt = -2 := hS34
    have q_37 := hI34.r 10 rfl
    have e_38 : (F34 10).toInt = (F29 10).toInt := hO34
    unfold cb_X4_doStatement_66
    have l_39 : (26 : Int32).toInt = 26 := rfl
    refine WP.bind (cs_X2_expect hfu (26 : Int32) F34 G34 hI34 (show (26 : Int32).toInt ≠ -2 by omega)) ?_
    rintro r40 F40 G40 ⟨hI40, hB40, hT40, hO40, hS40, hp40⟩
    dsimp only
    have q_41 := i_rng (F40 11)
    have e_42 : (F34 11).toInt = -2 → (F40 11).toInt = -2 := hS40
    have q_43 := hI40.r 10 rfl
    have e_44 : (F40 10).toInt = (F34 10).toInt := hO40
    unfold cb_X4_doStatement_75
    have l_45 : (85 : Int32).toInt = 85 := rfl
    have q_46 := hI2.r 6 rfl
    refine WP.bind (cs_X1_addPair hfu (85 : Int32) (F2 6) F40 G40 hI40) ?_
    rintro r47 F47 G47 ⟨hI47, hB47, hT47, hO47, hK47, hp47⟩
    dsimp only
    have q_48 := i_rng (F47 11)
    have e_49 : (F47 11).toInt = (F40 11).toInt := congrArg Int32.toInt hK47
    have q_50 := hI47.r 10 rfl
    have e_51 : (F47 10).toInt = (F40 10).toInt := hO47
    unfold cb_X4_doStatement_85
    have q_52 := i_rng (F47 30)
    have q_53 := hI47.r 6 rfl
    refine WP.bind (cs_X1_aim hfu (F47 30) (F47 6) F47 G47 hI47) ?_
    rintro r54 F54 G54 ⟨hI54, hB54, hT54, hO54, hK54, hp54⟩
    dsimp only
    have q_55 := i_rng (F54 11)
    have e_56 : (F54 11).toInt = (F47 11).toInt := congrArg Int32.toInt hK54
    have q_57 := hI54.r 10 rfl
    have e_58 : (F54 10).toInt = (F47 10).toInt := hO54
    unfold cb_X4_doStatement_103
    have q_59 := i_rng (F2 30)
    have j_60 : CI (fup F54 30 (F2 30)) G54 := CI.fr rfl hI54
    unfold cb_X4_doStatement_108
    have q_61 := i_rng (F2 31)
    have j_62 : CI (fup (fup F54 30 (F2 30)) 31 (F2 31)) G54 := CI.fr rfl j_60
    unfold cb_X4_doStatement_113
    refine WP.bind (cs_X2_closes hfu (fup (fup F54 30 (F2 30)) 31 (F2 31)) G54 j_62 (show 0 ≤ (F54 10).toInt by omega)) ?_
    rintro r63 F63 G63 ⟨hI63, hB63, hT63, hK63, hp63⟩
    dsimp only
    have q_64 := i_rng (F63 11)
    have e_65 : (F63 11).toInt = (F54 11).toInt := congrArg Int32.toInt hK63
    have q_66 := hI63.r 10 rfl
    have e_67 : (F63 10).toInt = (F54 10).toInt - 1 := hp63
    unfold cb_X4_doStatement_120
    refine WP.ret ?_
    exact ⟨hI63, (KB.tr (KB.f (by decide) (KB.f (by decide) (KB.tr (KB.tr (KB.tr (KB.tr (KB.tr (KB.tr (KB.tr (KB.tr (KB.rf : KB F G F G) hB2) hB16) hB23) hB29) hB34) hB40) hB47) hB54))) hB63), (KT.tr (KT.f (by decide) (KT.f (by decide) (KT.tr (KT.tr (KT.tr (KT.tr (KT.tr (KT.tr (KT.tr (KT.tr (rfl : KT F F) hT2) hT16) hT23) hT29) hT34) hT40) hT47) hT54))) hT63), (show (F 11).toInt = -2 → (F63 11).toInt = -2 by omega), (show (F63 10).toInt = (F 10).toInt ∨ ((F63 10).toInt = (F 10).toInt - 1 ∧ (F63 11).toInt = -2 ∧ (F 11).toInt ≠ -2) by omega)⟩
theorem cj_X4_forStatement_181 {fu : Nat} (hfu : 8589934592 ≤ fu) (rc : RC) {d : Nat} (ih : cIH2 rc d) {F0 : PF} {G0 : PG} (hd : (4 * (40 - (F0 10).toInt) + 3 ≤ (d + 1 : Int) ∨ ((F0 11).toInt = -2 ∧ 1 ≤ (d + 1 : Int)))) (x1 : Int32) (x2 : Int32) (x4 : Int32) (x5 : Int32) (x6 : Int32) (x7 : Int32) (F : PF) (G : PG) (hI : CI F G) (hB : KB F0 G0 F G) (hT : KT F0 F) (hS : KS F0 F) (i_0 : 0 ≤ (F0 10).toInt) (i_1 : (F0 10).toInt < 40) (i_2 : (F0 11).toInt ≠ -2) (i_3 : (F 10).toInt = (F0 10).toInt + 2 ∨ ((F 10).toInt = (F0 10).toInt + 1 ∧ (F 11).toInt = -2)) : WP (cb_X4_forStatement_181 fu rc x1 x2 x4 x5 x6 x7 F G) (fun r' F' G' => CI F' G' ∧ KB F0 G0 F' G' ∧ KT F0 F' ∧ KS F0 F' ∧ (((F' 10).toInt = (F0 10).toInt ∨ ((F' 10).toInt = (F0 10).toInt - 1 ∧ (F' 11).toInt = -2 ∧ (F0 11).toInt ≠ -2)))) := by
  have q_S : (F0 11).toInt = -2 → (F 11).toInt = -2 := hS
  have q_O1 := hI.r 10 rfl
  unfold cb_X4_forStatement_181
  have l_1 : (84 : Int32).toInt = 84 := rfl
  have q_2 := i_rng x4
  refine WP.bind (cs_X1_addPair hfu (84 : Int32) x4 F G hI) ?_
  rintro r3 F3 G3 ⟨hI3, hB3, hT3, hO3, hK3, hp3⟩
  dsimp only
  have q_4 := i_rng (F 11)
  have q_5 := i_rng (F3 11)
  have e_6 : (F3 11).toInt = (F 11).toInt := congrArg Int32.toInt hK3
  have q_7 := hI.r 10 rfl
  have q_8 := hI3.r 10 rfl
  have e_9 : (F3 10).toInt = (F 10).toInt := hO3
  unfold cb_X4_forStatement_192
  have l_10 : (20 : Int32).toInt = 20 := rfl
  refine WP.bind (cs_X2_closesWith hfu (20 : Int32) F3 G3 hI3 (show 0 ≤ (F3 10).toInt by omega) (show (20 : Int32).toInt ≠ -2 by omega)) ?_
  rintro r11 F11 G11 ⟨hI11, hB11, hT11, hS11, hp11⟩
  dsimp only
  have q_12 := i_rng (F11 11)
  have e_13 : (F3 11).toInt = -2 → (F11 11).toInt = -2 := hS11
  have q_14 := hI11.r 10 rfl
  have e_15 : (F11 10).toInt = (F3 10).toInt - 1 := hp11
  unfold cb_X4_forStatement_201
  have q_16 := i_rng x6
  have q_17 := hI11.r 6 rfl
  refine WP.bind (cs_X1_aim hfu x6 (F11 6) F11 G11 hI11) ?_
  rintro r18 F18 G18 ⟨hI18, hB18, hT18, hO18, hK18, hp18⟩
  dsimp only
  have q_19 := i_rng (F18 11)
  have e_20 : (F18 11).toInt = (F11 11).toInt := congrArg Int32.toInt hK18
  have q_21 := hI18.r 10 rfl
  have e_22 : (F18 10).toInt = (F11 10).toInt := hO18
  unfold cb_X4_forStatement_217
  refine WP.bind (ih.2.2.2.2.2.1 F18 G18 hI18 (show 0 ≤ (F18 10).toInt by omega) (by omega)) ?_
  rintro r23 F23 G23 ⟨hI23, hB23, hT23, hS23, hp23⟩
  dsimp only
  have q_24 := i_rng (F23 11)
  have e_25 : (F18 11).toInt = -2 → (F23 11).toInt = -2 := hS23
  have q_26 := hI23.r 10 rfl
  have e_27 : (F23 10).toInt = (F18 10).toInt ∨ ((F23 10).toInt = (F18 10).toInt - 1 ∧ (F23 11).toInt = -2 ∧ (F18 11).toInt ≠ -2) := hp23
  unfold cb_X4_forStatement_221
  have q_28 := i_rng x7
  refine WP.bind (cs_X1_addPair hfu (84 : Int32) x7 F23 G23 hI23) ?_
  rintro r29 F29 G29 ⟨hI29, hB29, hT29, hO29, hK29, hp29⟩
  dsimp only
  have q_30 := i_rng (F29 11)
  have e_31 : (F29 11).toInt = (F23 11).toInt := congrArg Int32.toInt hK29
  have q_32 := hI29.r 10 rfl
  have e_33 : (F29 10).toInt = (F23 10).toInt := hO29
  unfold cb_X4_forStatement_232
  have q_34 := i_rng (F29 31)
  refine WP.bind (cs_X1_aim hfu (F29 31) x7 F29 G29 hI29) ?_
  rintro r35 F35 G35 ⟨hI35, hB35, hT35, hO35, hK35, hp35⟩
  dsimp only
  have q_36 := i_rng (F35 11)
  have e_37 : (F35 11).toInt = (F29 11).toInt := congrArg Int32.toInt hK35
  have q_38 := hI35.r 10 rfl
  have e_39 : (F35 10).toInt = (F29 10).toInt := hO35
  unfold cb_X4_forStatement_245
  have q_40 := i_rng x5
  have q_41 := hI35.r 6 rfl
  refine WP.bind (cs_X1_aim hfu x5 (F35 6) F35 G35 hI35) ?_
  rintro r42 F42 G42 ⟨hI42, hB42, hT42, hO42, hK42, hp42⟩
  dsimp only
  have q_43 := i_rng (F42 11)
  have e_44 : (F42 11).toInt = (F35 11).toInt := congrArg Int32.toInt hK42
  have q_45 := hI42.r 10 rfl
  have e_46 : (F42 10).toInt = (F35 10).toInt := hO42
  unfold cb_X4_forStatement_261
  have q_47 := i_rng (F42 30)
  have q_48 := hI42.r 6 rfl
  refine WP.bind (cs_X1_aim hfu (F42 30) (F42 6) F42 G42 hI42) ?_
  rintro r49 F49 G49 ⟨hI49, hB49, hT49, hO49, hK49, hp49⟩
  dsimp only
  have q_50 := i_rng (F49 11)
  have e_51 : (F49 11).toInt = (F42 11).toInt := congrArg Int32.toInt hK49
  have q_52 := hI49.r 10 rfl
  have e_53 : (F49 10).toInt = (F42 10).toInt := hO49
  unfold cb_X4_forStatement_279
  refine WP.bind (cs_X5_leave hfu F49 G49 hI49) ?_
  rintro r54 F54 G54 ⟨hI54, hB54, hT54, hO54, hK54, hp54⟩
  dsimp only
  have q_55 := i_rng (F54 11)
  have e_56 : (F54 11).toInt = (F49 11).toInt := congrArg Int32.toInt hK54
  have q_57 := hI54.r 10 rfl
  have e_58 : (F54 10).toInt = (F49 10).toInt := hO54
  unfold cb_X4_forStatement_286
  have q_59 := i_rng x1
  have j_60 : CI (fup F54 30 x1) G54 := CI.fr rfl hI54
  unfold cb_X4_forStatement_291
  have q_61 := i_rng x2
  have j_62 : CI (fup (fup F54 30 x1) 31 x2) G54 := CI.fr rfl j_60
  unfold cb_X4_forStatement_296
  refine WP.bind (cs_X2_closes hfu (fup (fup F54 30 x1) 31 x2) G54 j_62 (show 0 ≤ (F54 10).toInt by omega)) ?_
  rintro r63 F63 G63 ⟨hI63, hB63, hT63, hK63, hp63⟩
  dsimp only
  have q_64 := i_rng (F63 11)
  have e_65 : (F63 11).toInt = (F54 11).toInt := congrArg Int32.toInt hK63
  have q_66 := hI63.r 10 rfl
  have e_67 : (F63 10).toInt = (F54 10).toInt - 1 := hp63
  unfold cb_X4_forStatement_303
  refine WP.ret ?_
  exact ⟨hI63, (KB.tr (KB.f (by decide) (KB.f (by decide) (KB.tr (KB.tr (KB.tr (KB.tr (KB.tr (KB.tr (KB.tr (KB.tr (KB.tr hB hB3) hB11) hB18) hB23) hB29) hB35) hB42) hB49) hB54))) hB63), (KT.tr (KT.f (by decide) (KT.f (by decide) (KT.tr (KT.tr (KT.tr (KT.tr (KT.tr (KT.tr (KT.tr (KT.tr (KT.tr hT hT3) hT11) hT18) hT23) hT29) hT35) hT42) hT49) hT54))) hT63), (show (F0 11).toInt = -2 → (F63 11).toInt = -2 by omega), (show (F63 10).toInt = (F0 10).toInt ∨ ((F63 10).toInt = (F0 10).toInt - 1 ∧ (F63 11).toInt = -2 ∧ (F0 11).toInt ≠ -2) by omega)⟩
theorem cj_X4_forStatement_135 {fu : Nat} (hfu : 8589934592 ≤ fu) (rc : RC) {d : Nat} (ih : cIH2 rc d) {F0 : PF} {G0 : PG} (hd : (4 * (40 - (F0 10).toInt) + 3 ≤ (d + 1 : Int) ∨ ((F0 11).toInt = -2 ∧ 1 ≤ (d + 1 : Int)))) (x1 : Int32) (x2 : Int32) (x4 : Int32) (x5 : Int32) (F : PF) (G : PG) (hI : CI F G) (hB : KB F0 G0 F G) (hT : KT F0 F) (hS : KS F0 F) (i_0 : 0 ≤ (F0 10).toInt) (i_1 : (F0 10).toInt < 40) (i_2 : (F0 11).toInt ≠ -2) (i_3 : (F 10).toInt = (F0 10).toInt + 2 ∨ ((F 10).toInt = (F0 10).toInt + 1 ∧ (F 11).toInt = -2)) : WP (cb_X4_forStatement_135 fu rc x1 x2 x4 x5 F G) (fun r' F' G' => CI F' G' ∧ KB F0 G0 F' G' ∧ KT F0 F' ∧ KS F0 F' ∧ (((F' 10).toInt = (F0 10).toInt ∨ ((F' 10).toInt = (F0 10).toInt - 1 ∧ (F' 11).toInt = -2 ∧ (F0 11).toInt ≠ -2)))) := by
  have q_S : (F0 11).toInt = -2 → (F 11).toInt = -2 := hS
  have q_O1 := hI.r 10 rfl
  unfold cb_X4_forStatement_135
  have l_1 : (26 : Int32).toInt = 26 := rfl
  refine WP.bind (cs_X2_expect hfu (26 : Int32) F G hI (show (26 : Int32).toInt ≠ -2 by omega)) ?_
  rintro r2 F2 G2 ⟨hI2, hB2, hT2, hO2, hS2, hp2⟩
  dsimp only
  have q_3 := i_rng (F 11)
  have q_4 := i_rng (F2 11)
  have e_5 : (F 11).toInt = -2 → (F2 11).toInt = -2 := hS2
  have q_6 := hI.r 10 rfl
  have q_7 := hI2.r 10 rfl
  have e_8 : (F2 10).toInt = (F 10).toInt := hO2
  unfold cb_X4_forStatement_144
  have l_9 : (84 : Int32).toInt = 84 := rfl
  have l_10 : (-1 : Int32).toInt = -1 := rfl
  refine WP.bind (cs_X1_addJump hfu (84 : Int32) (-1 : Int32) F2 G2 hI2) ?_
  rintro r11 F11 G11 ⟨hI11, hB11, hT11, hO11, hK11, hp11⟩
  dsimp only
  have q_12 := i_rng (F11 11)
  have e_13 : (F11 11).toInt = (F2 11).toInt := congrArg Int32.toInt hK11
  have q_14 := hI11.r 10 rfl
  have e_15 : (F11 10).toInt = (F2 10).toInt := hO11
  have q_16 := hI2.r 21 rfl
  have q_17 := hI11.r 21 rfl
  have e_18 : (F11 21).toInt = (F2 21).toInt := congrArg Int32.toInt hp11
  unfold cb_X4_forStatement_154
  refine WP.ite (fun c_19 => ?_) (fun c_19 => ?_)
  · skip
    have l_20 : (20 : Int32).toInt = 20 := rfl
    have e_21 := i_eq.mp (show (F11 11) = (20 : Int32) from c_19)
    have q_22 := i_rng x1
    have q_23 := i_rng x2
    have q_24 := i_rng x4
    have q_25 := i_rng x5
    have q_26 := i_rng r11
    have q_27 := hI11.r 6 rfl
    exact cj_X4_forStatement_181 (F0 := F0) (G0 := G0) hfu rc ih hd x1 x2 x4 x5 r11 (F11 6) F11 G11 hI11 (KB.tr (KB.tr hB hB2) hB11) (KT.tr (KT.tr hT hT2) hT11) (show (F0 11).toInt = -2 → (F11 11).toInt = -2 by omega) (show 0 ≤ (F0 10).toInt by omega) (show (F0 10).toInt < 40 by omega) (show (F0 11).toInt ≠ -2 by omega) (show (F11 10).toInt = (F0 10).toInt + 2 ∨ ((F11 10).toInt = (F0 10).toInt + 1 ∧ (F11 11).toInt = -2) by omega)
  · skip
    have l_28 : (20 : Int32).toInt = 20 := rfl
    have e_29 := mt i_eq.mpr (show ¬ ((F11 11) = (20 : Int32)) from c_19)
    unfold cb_X4_forStatement_177
    refine WP.bind (cs_X4_simple hfu F11 G11 hI11) ?_
    rintro r30 F30 G30 ⟨hI30, hB30, hT30, hO30, hS30, hp30⟩
    dsimp only
    have q_31 := i_rng (F30 11)
    have e_32 : (F11 11).toInt = -2 → (F30 11).toInt = -2 := hS30
    have q_33 := hI30.r 10 rfl
    have e_34 : (F30 10).toInt = (F11 10).toInt := hO30
    have q_35 := i_rng x1
    have q_36 := i_rng x2
    have q_37 := i_rng x4
    have q_38 := i_rng x5
    have q_39 := i_rng r11
    have q_40 := hI11.r 6 rfl
    exact cj_X4_forStatement_181 (F0 := F0) (G0 := G0) hfu rc ih hd x1 x2 x4 x5 r11 (F11 6) F30 G30 hI30 (KB.tr (KB.tr (KB.tr hB hB2) hB11) hB30) (KT.tr (KT.tr (KT.tr hT hT2) hT11) hT30) (show (F0 11).toInt = -2 → (F30 11).toInt = -2 by omega) (show 0 ≤ (F0 10).toInt by omega) (show (F0 10).toInt < 40 by omega) (show (F0 11).toInt ≠ -2 by omega) (show (F30 10).toInt = (F0 10).toInt + 2 ∨ ((F30 10).toInt = (F0 10).toInt + 1 ∧ (F30 11).toInt = -2) by omega)
theorem cj_X4_forStatement_83 {fu : Nat} (hfu : 8589934592 ≤ fu) (rc : RC) {d : Nat} (ih : cIH2 rc d) {F0 : PF} {G0 : PG} (hd : (4 * (40 - (F0 10).toInt) + 3 ≤ (d + 1 : Int) ∨ ((F0 11).toInt = -2 ∧ 1 ≤ (d + 1 : Int)))) (x1 : Int32) (x2 : Int32) (F : PF) (G : PG) (hI : CI F G) (hB : KB F0 G0 F G) (hT : KT F0 F) (hS : KS F0 F) (i_0 : 0 ≤ (F0 10).toInt) (i_1 : (F0 10).toInt < 40) (i_2 : (F0 11).toInt ≠ -2) (i_3 : (F 10).toInt = (F0 10).toInt + 2 ∨ ((F 10).toInt = (F0 10).toInt + 1 ∧ (F 11).toInt = -2)) : WP (cb_X4_forStatement_83 fu rc x1 x2 F G) (fun r' F' G' => CI F' G' ∧ KB F0 G0 F' G' ∧ KT F0 F' ∧ KS F0 F' ∧ (((F' 10).toInt = (F0 10).toInt ∨ ((F' 10).toInt = (F0 10).toInt - 1 ∧ (F' 11).toInt = -2 ∧ (F0 11).toInt ≠ -2)))) := by
  have q_S : (F0 11).toInt = -2 → (F 11).toInt = -2 := hS
  have q_O1 := hI.r 10 rfl
  unfold cb_X4_forStatement_83
  have l_1 : (26 : Int32).toInt = 26 := rfl
  refine WP.bind (cs_X2_expect hfu (26 : Int32) F G hI (show (26 : Int32).toInt ≠ -2 by omega)) ?_
  rintro r2 F2 G2 ⟨hI2, hB2, hT2, hO2, hS2, hp2⟩
  dsimp only
  have q_3 := i_rng (F 11)
  have q_4 := i_rng (F2 11)
  have e_5 : (F 11).toInt = -2 → (F2 11).toInt = -2 := hS2
  have q_6 := hI.r 10 rfl
  have q_7 := hI2.r 10 rfl
  have e_8 : (F2 10).toInt = (F 10).toInt := hO2
  unfold cb_X4_forStatement_92
  refine WP.ite (fun c_9 => ?_) (fun c_9 => ?_)
  · skip
    have e_10 := i_eq.mp (show (F2 11) = (26 : Int32) from c_9)
    have q_11 := i_rng x1
    have q_12 := i_rng x2
    have q_13 := hI2.r 6 rfl
    have l_14 : (-1 : Int32).toInt = -1 := rfl
    exact cj_X4_forStatement_135 (F0 := F0) (G0 := G0) hfu rc ih hd x1 x2 (F2 6) (-1 : Int32) F2 G2 hI2 (KB.tr hB hB2) (KT.tr hT hT2) (show (F0 11).toInt = -2 → (F2 11).toInt = -2 by omega) (show 0 ≤ (F0 10).toInt by omega) (show (F0 10).toInt < 40 by omega) (show (F0 11).toInt ≠ -2 by omega) (show (F2 10).toInt = (F0 10).toInt + 2 ∨ ((F2 10).toInt = (F0 10).toInt + 1 ∧ (F2 11).toInt = -2) by omega)
  · skip
    have e_15 := mt i_eq.mpr (show ¬ ((F2 11) = (26 : Int32)) from c_9)
    unfold cb_X4_forStatement_116
    refine WP.bind (cs_X3_expression hfu F2 G2 hI2) ?_
    rintro r16 F16 G16 ⟨hI16, hB16, hT16, hO16, hS16, hp16⟩
    dsimp only
    have q_17 := i_rng (F16 11)
    have e_18 : (F2 11).toInt = -2 → (F16 11).toInt = -2 := hS16
    have q_19 := hI16.r 10 rfl
    have e_20 : (F16 10).toInt = (F2 10).toInt := hO16
    unfold cb_X4_forStatement_123
    have l_21 : (86 : Int32).toInt = 86 := rfl
    have l_22 : (-1 : Int32).toInt = -1 := rfl
    refine WP.bind (cs_X1_addJump hfu (86 : Int32) (-1 : Int32) F16 G16 hI16) ?_
    rintro r23 F23 G23 ⟨hI23, hB23, hT23, hO23, hK23, hp23⟩
    dsimp only
    have q_24 := i_rng (F23 11)
    have e_25 : (F23 11).toInt = (F16 11).toInt := congrArg Int32.toInt hK23
    have q_26 := hI23.r 10 rfl
    have e_27 : (F23 10).toInt = (F16 10).toInt := hO23
    have q_28 := hI16.r 21 rfl
    have q_29 := hI23.r 21 rfl
    have e_30 : (F23 21).toInt = (F16 21).toInt := congrArg Int32.toInt hp23
    unfold cb_X4_forStatement_133
    have q_31 := i_rng x1
    have q_32 := i_rng x2
    have q_33 := hI2.r 6 rfl
    have q_34 := i_rng r23
    exact cj_X4_forStatement_135 (F0 := F0) (G0 := G0) hfu rc ih hd x1 x2 (F2 6) r23 F23 G23 hI23 (KB.tr (KB.tr (KB.tr hB hB2) hB16) hB23) (KT.tr (KT.tr (KT.tr hT hT2) hT16) hT23) (show (F0 11).toInt = -2 → (F23 11).toInt = -2 by omega) (show 0 ≤ (F0 10).toInt by omega) (show (F0 10).toInt < 40 by omega) (show (F0 11).toInt ≠ -2 by omega) (show (F23 10).toInt = (F0 10).toInt + 2 ∨ ((F23 10).toInt = (F0 10).toInt + 1 ∧ (F23 11).toInt = -2) by omega)
theorem ct_X4_forStatement {fu d : Nat} (hfu : 8589934592 ≤ fu) (rc : RC) (ih : cIH2 rc d) (F : PF) (G : PG) (hI : CI F G) (h10 : 0 ≤ (F 10).toInt) (hd : (4 * (40 - (F 10).toInt) + 3 ≤ (d + 1 : Int) ∨ ((F 11).toInt = -2 ∧ 1 ≤ (d + 1 : Int)))) : WP (ch_X4_forStatement fu rc F G) (fun r' F' G' => CI F' G' ∧ KB F G F' G' ∧ KT F F' ∧ KS F F' ∧ (((F' 10).toInt = (F 10).toInt ∨ ((F' 10).toInt = (F 10).toInt - 1 ∧ (F' 11).toInt = -2 ∧ (F 11).toInt ≠ -2)))) := by
  unfold ch_X4_forStatement
  have q_10 := hI.r 10 rfl
  unfold cb_X4_forStatement_0
  have l_1 : (12 : Int32).toInt = 12 := rfl
  refine WP.bind (cs_X2_opens hfu (12 : Int32) F G hI (show (12 : Int32).toInt ≠ -2 by omega)) ?_
  rintro r2 F2 G2 ⟨hI2, hB2, hT2, hS2, hp2⟩
  dsimp only
  have q_3 := i_rng (F 11)
  have q_4 := i_rng (F2 11)
  have e_5 : (F 11).toInt = -2 → (F2 11).toInt = -2 := hS2
  have q_6 := b_rng (hp2.1)
  have q_7 := hI.r 10 rfl
  have q_8 := hI2.r 10 rfl
  have e_9 : r2.toInt = 1 → (F2 10).toInt = (F 10).toInt + 1 ∧ (F 10).toInt < 40 ∧ (F 11).toInt ≠ -2 := hp2.2.1
  have e_10 : r2.toInt = 0 → (F2 10).toInt = (F 10).toInt ∧ (F2 11).toInt = -2 := hp2.2.2
  unfold cb_X4_forStatement_9
  refine WP.ite (fun c_11 => ?_) (fun c_11 => ?_)
  · skip
    have l_12 : (0 : Int32).toInt = 0 := rfl
    have e_13 := i_eq.mp (show r2 = (0 : Int32) from c_11)
    unfold cb_X4_forStatement_12
    refine WP.ret ?_
    exact ⟨hI2, (KB.tr (KB.rf : KB F G F G) hB2), (KT.tr (rfl : KT F F) hT2), (show (F 11).toInt = -2 → (F2 11).toInt = -2 by omega), (show (F2 10).toInt = (F 10).toInt ∨ ((F2 10).toInt = (F 10).toInt - 1 ∧ (F2 11).toInt = -2 ∧ (F 11).toInt ≠ -2) by omega)⟩
  · skip
    have l_14 : (0 : Int32).toInt = 0 := rfl
    have e_15 := mt i_eq.mpr (show ¬ (r2 = (0 : Int32)) from c_11)
    unfold cb_X4_forStatement_13
    refine WP.bind (cs_X5_enter hfu F2 G2 hI2) ?_
    rintro r16 F16 G16 ⟨hI16, hB16, hT16, hO16, hK16, hp16⟩
    dsimp only
    have q_17 := i_rng (F16 11)
    have e_18 : (F16 11).toInt = (F2 11).toInt := congrArg Int32.toInt hK16
    have q_19 := hI16.r 10 rfl
    have e_20 : (F16 10).toInt = (F2 10).toInt := hO16
    unfold cb_X4_forStatement_30
    have l_21 : (19 : Int32).toInt = 19 := rfl
    refine WP.bind (cs_X2_opens hfu (19 : Int32) F16 G16 hI16 (show (19 : Int32).toInt ≠ -2 by omega)) ?_
    rintro r22 F22 G22 ⟨hI22, hB22, hT22, hS22, hp22⟩
    dsimp only
    have q_23 := i_rng (F22 11)
    have e_24 : (F16 11).toInt = -2 → (F22 11).toInt = -2 := hS22
    have q_25 := b_rng (hp22.1)
    have q_26 := hI22.r 10 rfl
    have e_27 : r22.toInt = 1 → (F22 10).toInt = (F16 10).toInt + 1 ∧ (F16 10).toInt < 40 ∧ (F16 11).toInt ≠ -2 := hp22.2.1
    have e_28 : r22.toInt = 0 → (F22 10).toInt = (F16 10).toInt ∧ (F22 11).toInt = -2 := hp22.2.2
    unfold cb_X4_forStatement_39
    refine WP.ite (fun c_29 => ?_) (fun c_29 => ?_)
    · skip
      have e_30 := i_eq.mp (show r22 = (0 : Int32) from c_29)
      unfold cb_X4_forStatement_63
      refine WP.ite (fun c_31 => ?_) (fun c_31 => ?_)
      · skip
        have e_32 := i_eq.mp (show r22 = (0 : Int32) from c_31)
        have q_33 := i_rng (F2 30)
        have q_34 := i_rng (F2 31)
        exact cj_X4_forStatement_83 (F0 := F) (G0 := G) hfu rc ih hd (F2 30) (F2 31) F22 G22 hI22 (KB.tr (KB.tr (KB.tr (KB.rf : KB F G F G) hB2) hB16) hB22) (KT.tr (KT.tr (KT.tr (rfl : KT F F) hT2) hT16) hT22) (show (F 11).toInt = -2 → (F22 11).toInt = -2 by omega) (show 0 ≤ (F 10).toInt by omega) (show (F 10).toInt < 40 by omega) (show (F 11).toInt ≠ -2 by omega) (show (F22 10).toInt = (F 10).toInt + 2 ∨ ((F22 10).toInt = (F 10).toInt + 1 ∧ (F22 11).toInt = -2) by omega)
      · skip
        have e_35 := mt i_eq.mpr (show ¬ (r22 = (0 : Int32)) from c_31)
        unfold cb_X4_forStatement_67
        refine WP.ite (fun c_36 => ?_) (fun c_36 => ?_)
        · skip
          have l_37 : (26 : Int32).toInt = 26 := rfl
          have e_38 := i_eq.mp (show (F22 11) = (26 : Int32) from c_36)
          have q_39 := i_rng (F2 30)
          have q_40 := i_rng (F2 31)
          exact cj_X4_forStatement_83 (F0 := F) (G0 := G) hfu rc ih hd (F2 30) (F2 31) F22 G22 hI22 (KB.tr (KB.tr (KB.tr (KB.rf : KB F G F G) hB2) hB16) hB22) (KT.tr (KT.tr (KT.tr (rfl : KT F F) hT2) hT16) hT22) (show (F 11).toInt = -2 → (F22 11).toInt = -2 by omega) (show 0 ≤ (F 10).toInt by omega) (show (F 10).toInt < 40 by omega) (show (F 11).toInt ≠ -2 by omega) (show (F22 10).toInt = (F 10).toInt + 2 ∨ ((F22 10).toInt = (F 10).toInt + 1 ∧ (F22 11).toInt = -2) by omega)
        · skip
          have l_41 : (26 : Int32).toInt = 26 := rfl
          have e_42 := mt i_eq.mpr (show ¬ ((F22 11) = (26 : Int32)) from c_36)
          unfold cb_X4_forStatement_79
          refine WP.bind (cs_X4_simple hfu F22 G22 hI22) ?_
          rintro r43 F43 G43 ⟨hI43, hB43, hT43, hO43, hS43, hp43⟩
          dsimp only
          have q_44 := i_rng (F43 11)
          have e_45 : (F22 11).toInt = -2 → (F43 11).toInt = -2 := hS43
          have q_46 := hI43.r 10 rfl
          have e_47 : (F43 10).toInt = (F22 10).toInt := hO43
          have q_48 := i_rng (F2 30)
          have q_49 := i_rng (F2 31)
          exact cj_X4_forStatement_83 (F0 := F) (G0 := G) hfu rc ih hd (F2 30) (F2 31) F43 G43 hI43 (KB.tr (KB.tr (KB.tr (KB.tr (KB.rf : KB F G F G) hB2) hB16) hB22) hB43) (KT.tr (KT.tr (KT.tr (KT.tr (rfl : KT F F) hT2) hT16) hT22) hT43) (show (F 11).toInt = -2 → (F43 11).toInt = -2 by omega) (show 0 ≤ (F 10).toInt by omega) (show (F 10).toInt < 40 by omega) (show (F 11).toInt ≠ -2 by omega) (show (F43 10).toInt = (F 10).toInt + 2 ∨ ((F43 10).toInt = (F 10).toInt + 1 ∧ (F43 11).toInt = -2) by omega)
    · skip
      have e_50 := mt i_eq.mpr (show ¬ (r22 = (0 : Int32)) from c_29)
      unfold cb_X4_forStatement_44
      refine WP.ite (fun c_51 => ?_) (fun c_51 => ?_)
      · skip
        have l_52 : (4 : Int32).toInt = 4 := rfl
        have e_53 := i_eq.mp (show (F22 11) = (4 : Int32) from c_51)
        unfold cb_X4_forStatement_55
        have l_54 : (1 : Int32).toInt = 1 := rfl
        refine WP.bind (cs_X4_localTold hfu (1 : Int32) F22 G22 hI22 (by decide)) ?_
        rintro r55 F55 G55 ⟨hI55, hB55, hT55, hO55, hp55⟩
        dsimp only
        have q_56 := hI55.r 10 rfl
        have e_57 : (F55 10).toInt = (F22 10).toInt := hO55
        unfold cb_X4_forStatement_60
        have q_58 := i_rng (F2 30)
        have q_59 := i_rng (F2 31)
        have q_60 := i_rng (F55 11)
        exact cj_X4_forStatement_83 (F0 := F) (G0 := G) hfu rc ih hd (F2 30) (F2 31) F55 G55 hI55 (KB.tr (KB.tr (KB.tr (KB.tr (KB.rf : KB F G F G) hB2) hB16) hB22) hB55) (KT.tr (KT.tr (KT.tr (KT.tr (rfl : KT F F) hT2) hT16) hT22) hT55) (show (F 11).toInt = -2 → (F55 11).toInt = -2 by omega) (show 0 ≤ (F 10).toInt by omega) (show (F 10).toInt < 40 by omega) (show (F 11).toInt ≠ -2 by omega) (show (F55 10).toInt = (F 10).toInt + 2 ∨ ((F55 10).toInt = (F 10).toInt + 1 ∧ (F55 11).toInt = -2) by omega)
      · skip
        have l_61 : (4 : Int32).toInt = 4 := rfl
        have e_62 := mt i_eq.mpr (show ¬ ((F22 11) = (4 : Int32)) from c_51)
        unfold cb_X4_forStatement_63
        refine WP.ite (fun c_63 => ?_) (fun c_63 => ?_)
        · skip
          have e_64 := i_eq.mp (show r22 = (0 : Int32) from c_63)
          have q_65 := i_rng (F2 30)
          have q_66 := i_rng (F2 31)
          exact cj_X4_forStatement_83 (F0 := F) (G0 := G) hfu rc ih hd (F2 30) (F2 31) F22 G22 hI22 (KB.tr (KB.tr (KB.tr (KB.rf : KB F G F G) hB2) hB16) hB22) (KT.tr (KT.tr (KT.tr (rfl : KT F F) hT2) hT16) hT22) (show (F 11).toInt = -2 → (F22 11).toInt = -2 by omega) (show 0 ≤ (F 10).toInt by omega) (show (F 10).toInt < 40 by omega) (show (F 11).toInt ≠ -2 by omega) (show (F22 10).toInt = (F 10).toInt + 2 ∨ ((F22 10).toInt = (F 10).toInt + 1 ∧ (F22 11).toInt = -2) by omega)
        · skip
          have e_67 := mt i_eq.mpr (show ¬ (r22 = (0 : Int32)) from c_63)
          unfold cb_X4_forStatement_67
          refine WP.ite (fun c_68 => ?_) (fun c_68 => ?_)
          · skip
            have l_69 : (26 : Int32).toInt = 26 := rfl
            have e_70 := i_eq.mp (show (F22 11) = (26 : Int32) from c_68)
            have q_71 := i_rng (F2 30)
            have q_72 := i_rng (F2 31)
            exact cj_X4_forStatement_83 (F0 := F) (G0 := G) hfu rc ih hd (F2 30) (F2 31) F22 G22 hI22 (KB.tr (KB.tr (KB.tr (KB.rf : KB F G F G) hB2) hB16) hB22) (KT.tr (KT.tr (KT.tr (rfl : KT F F) hT2) hT16) hT22) (show (F 11).toInt = -2 → (F22 11).toInt = -2 by omega) (show 0 ≤ (F 10).toInt by omega) (show (F 10).toInt < 40 by omega) (show (F 11).toInt ≠ -2 by omega) (show (F22 10).toInt = (F 10).toInt + 2 ∨ ((F22 10).toInt = (F 10).toInt + 1 ∧ (F22 11).toInt = -2) by omega)
          · skip
            have l_73 : (26 : Int32).toInt = 26 := rfl
            have e_74 := mt i_eq.mpr (show ¬ ((F22 11) = (26 : Int32)) from c_68)
            unfold cb_X4_forStatement_79
            refine WP.bind (cs_X4_simple hfu F22 G22 hI22) ?_
            rintro r75 F75 G75 ⟨hI75, hB75, hT75, hO75, hS75, hp75⟩
            dsimp only
            have q_76 := i_rng (F75 11)
            have e_77 : (F22 11).toInt = -2 → (F75 11).toInt = -2 := hS75
            have q_78 := hI75.r 10 rfl
            have e_79 : (F75 10).toInt = (F22 10).toInt := hO75
            have q_80 := i_rng (F2 30)
            have q_81 := i_rng (F2 31)
            exact cj_X4_forStatement_83 (F0 := F) (G0 := G) hfu rc ih hd (F2 30) (F2 31) F75 G75 hI75 (KB.tr (KB.tr (KB.tr (KB.tr (KB.rf : KB F G F G) hB2) hB16) hB22) hB75) (KT.tr (KT.tr (KT.tr (KT.tr (rfl : KT F F) hT2) hT16) hT22) hT75) (show (F 11).toInt = -2 → (F75 11).toInt = -2 by omega) (show 0 ≤ (F 10).toInt by omega) (show (F 10).toInt < 40 by omega) (show (F 11).toInt ≠ -2 by omega) (show (F75 10).toInt = (F 10).toInt + 2 ∨ ((F75 10).toInt = (F 10).toInt + 1 ∧ (F75 11).toInt = -2) by omega)
theorem ct_X4_ifStatement {fu d : Nat} (hfu : 8589934592 ≤ fu) (rc : RC) (ih : cIH2 rc d) (F : PF) (G : PG) (hI : CI F G) (h10 : 0 ≤ (F 10).toInt) (hd : (4 * (40 - (F 10).toInt) + 2 ≤ (d + 1 : Int) ∨ ((F 11).toInt = -2 ∧ 1 ≤ (d + 1 : Int)))) : WP (ch_X4_ifStatement fu rc F G) (fun r' F' G' => CI F' G' ∧ KB F G F' G' ∧ KT F F' ∧ KS F F' ∧ (((F' 10).toInt = (F 10).toInt ∨ ((F' 10).toInt = (F 10).toInt - 1 ∧ (F' 11).toInt = -2 ∧ (F 11).toInt ≠ -2)))) := by
  unfold ch_X4_ifStatement
  have q_10 := hI.r 10 rfl
  unfold cb_X4_ifStatement_0
  have l_1 : (8 : Int32).toInt = 8 := rfl
  refine WP.bind (cs_X2_opens hfu (8 : Int32) F G hI (show (8 : Int32).toInt ≠ -2 by omega)) ?_
  rintro r2 F2 G2 ⟨hI2, hB2, hT2, hS2, hp2⟩
  dsimp only
  have q_3 := i_rng (F 11)
  have q_4 := i_rng (F2 11)
  have e_5 : (F 11).toInt = -2 → (F2 11).toInt = -2 := hS2
  have q_6 := b_rng (hp2.1)
  have q_7 := hI.r 10 rfl
  have q_8 := hI2.r 10 rfl
  have e_9 : r2.toInt = 1 → (F2 10).toInt = (F 10).toInt + 1 ∧ (F 10).toInt < 40 ∧ (F 11).toInt ≠ -2 := hp2.2.1
  have e_10 : r2.toInt = 0 → (F2 10).toInt = (F 10).toInt ∧ (F2 11).toInt = -2 := hp2.2.2
  unfold cb_X4_ifStatement_9
  refine WP.ite (fun c_11 => ?_) (fun c_11 => ?_)
  · skip
    have l_12 : (0 : Int32).toInt = 0 := rfl
    have e_13 := i_eq.mp (show r2 = (0 : Int32) from c_11)
    unfold cb_X4_ifStatement_12
    refine WP.ret ?_
    exact ⟨hI2, (KB.tr (KB.rf : KB F G F G) hB2), (KT.tr (rfl : KT F F) hT2), (show (F 11).toInt = -2 → (F2 11).toInt = -2 by omega), (show (F2 10).toInt = (F 10).toInt ∨ ((F2 10).toInt = (F 10).toInt - 1 ∧ (F2 11).toInt = -2 ∧ (F 11).toInt ≠ -2) by omega)⟩
  · skip
    have l_14 : (0 : Int32).toInt = 0 := rfl
    have e_15 := mt i_eq.mpr (show ¬ (r2 = (0 : Int32)) from c_11)
    unfold cb_X4_ifStatement_13
    refine WP.bind (cs_X4_condition hfu F2 G2 hI2) ?_
    rintro r16 F16 G16 ⟨hI16, hB16, hT16, hO16, hS16, hp16⟩
    dsimp only
    have q_17 := i_rng (F16 11)
    have e_18 : (F2 11).toInt = -2 → (F16 11).toInt = -2 := hS16
    have q_19 := hI16.r 10 rfl
    have e_20 : (F16 10).toInt = (F2 10).toInt := hO16
    unfold cb_X4_ifStatement_17
    have l_21 : (86 : Int32).toInt = 86 := rfl
    have l_22 : (-1 : Int32).toInt = -1 := rfl
    refine WP.bind (cs_X1_addJump hfu (86 : Int32) (-1 : Int32) F16 G16 hI16) ?_
    rintro r23 F23 G23 ⟨hI23, hB23, hT23, hO23, hK23, hp23⟩
    dsimp only
    have q_24 := i_rng (F23 11)
    have e_25 : (F23 11).toInt = (F16 11).toInt := congrArg Int32.toInt hK23
    have q_26 := hI23.r 10 rfl
    have e_27 : (F23 10).toInt = (F16 10).toInt := hO23
    have q_28 := hI16.r 21 rfl
    have q_29 := hI23.r 21 rfl
    have e_30 : (F23 21).toInt = (F16 21).toInt := congrArg Int32.toInt hp23
    unfold cb_X4_ifStatement_27
    refine WP.bind (ih.2.2.2.2.1 F23 G23 hI23 (show 0 ≤ (F23 10).toInt by omega) (by omega)) ?_
    rintro r31 F31 G31 ⟨hI31, hB31, hT31, hS31, hp31⟩
    dsimp only
    have q_32 := i_rng (F31 11)
    have e_33 : (F23 11).toInt = -2 → (F31 11).toInt = -2 := hS31
    have q_34 := hI31.r 10 rfl
    have e_35 : (F31 10).toInt = (F23 10).toInt ∨ ((F31 10).toInt = (F23 10).toInt - 1 ∧ (F31 11).toInt = -2 ∧ (F23 11).toInt ≠ -2) := hp31
    unfold cb_X4_ifStatement_32
    refine WP.ite (fun c_36 => ?_) (fun c_36 => ?_)
    · skip
      have l_37 : (9 : Int32).toInt = 9 := rfl
      have e_38 := i_eq.mp (show (F31 11) = (9 : Int32) from c_36)
      unfold cb_X4_ifStatement_44
      refine WP.bind (cs_X2_next hfu F31 G31 hI31) ?_
      rintro r39 F39 G39 ⟨hI39, hB39, hT39, hO39, hp39⟩
      dsimp only
      have q_40 := hI39.r 10 rfl
      have e_41 : (F39 10).toInt = (F31 10).toInt := hO39
      unfold cb_X4_ifStatement_51
      have l_42 : (84 : Int32).toInt = 84 := rfl
      refine WP.bind (cs_X1_addJump hfu (84 : Int32) (-1 : Int32) F39 G39 hI39) ?_
      rintro r43 F43 G43 ⟨hI43, hB43, hT43, hO43, hK43, hp43⟩
      dsimp only
      have q_44 := i_rng (F39 11)
      have q_45 := i_rng (F43 11)
      have e_46 : (F43 11).toInt = (F39 11).toInt := congrArg Int32.toInt hK43
      have q_47 := hI43.r 10 rfl
      have e_48 : (F43 10).toInt = (F39 10).toInt := hO43
      have q_49 := hI39.r 21 rfl
      have q_50 := hI43.r 21 rfl
      have e_51 : (F43 21).toInt = (F39 21).toInt := congrArg Int32.toInt hp43
      unfold cb_X4_ifStatement_61
      have q_52 := i_rng r23
      have q_53 := hI43.r 6 rfl
      refine WP.bind (cs_X1_aim hfu r23 (F43 6) F43 G43 hI43) ?_
      rintro r54 F54 G54 ⟨hI54, hB54, hT54, hO54, hK54, hp54⟩
      dsimp only
      have q_55 := i_rng (F54 11)
      have e_56 : (F54 11).toInt = (F43 11).toInt := congrArg Int32.toInt hK54
      have q_57 := hI54.r 10 rfl
      have e_58 : (F54 10).toInt = (F43 10).toInt := hO54
      unfold cb_X4_ifStatement_77
      refine WP.bind (ih.2.2.2.2.1 F54 G54 hI54 (show 0 ≤ (F54 10).toInt by omega) (by omega)) ?_
      rintro r59 F59 G59 ⟨hI59, hB59, hT59, hS59, hp59⟩
      dsimp only
      have q_60 := i_rng (F59 11)
      have e_61 : (F54 11).toInt = -2 → (F59 11).toInt = -2 := hS59
      have q_62 := hI59.r 10 rfl
      have e_63 : (F59 10).toInt = (F54 10).toInt ∨ ((F59 10).toInt = (F54 10).toInt - 1 ∧ (F59 11).toInt = -2 ∧ (F54 11).toInt ≠ -2) := hp59
      unfold cb_X4_ifStatement_81
      have q_64 := i_rng r43
      have q_65 := hI59.r 6 rfl
      refine WP.bind (cs_X1_aim hfu r43 (F59 6) F59 G59 hI59) ?_
      rintro r66 F66 G66 ⟨hI66, hB66, hT66, hO66, hK66, hp66⟩
      dsimp only
      have q_67 := i_rng (F66 11)
      have e_68 : (F66 11).toInt = (F59 11).toInt := congrArg Int32.toInt hK66
      have q_69 := hI66.r 10 rfl
      have e_70 : (F66 10).toInt = (F59 10).toInt := hO66
      unfold cb_X4_ifStatement_96
      unfold cb_X4_ifStatement_114
      refine WP.bind (cs_X2_closes hfu F66 G66 hI66 (show 0 ≤ (F66 10).toInt by omega)) ?_
      rintro r71 F71 G71 ⟨hI71, hB71, hT71, hK71, hp71⟩
      dsimp only
      have q_72 := i_rng (F71 11)
      have e_73 : (F71 11).toInt = (F66 11).toInt := congrArg Int32.toInt hK71
      have q_74 := hI71.r 10 rfl
      have e_75 : (F71 10).toInt = (F66 10).toInt - 1 := hp71
      unfold cb_X4_ifStatement_121
      refine WP.ret ?_
      exact ⟨hI71, (KB.tr (KB.tr (KB.tr (KB.tr (KB.tr (KB.tr (KB.tr (KB.tr (KB.tr (KB.tr (KB.rf : KB F G F G) hB2) hB16) hB23) hB31) hB39) hB43) hB54) hB59) hB66) hB71), (KT.tr (KT.tr (KT.tr (KT.tr (KT.tr (KT.tr (KT.tr (KT.tr (KT.tr (KT.tr (rfl : KT F F) hT2) hT16) hT23) hT31) hT39) hT43) hT54) hT59) hT66) hT71), (show (F 11).toInt = -2 → (F71 11).toInt = -2 by omega), (show (F71 10).toInt = (F 10).toInt ∨ ((F71 10).toInt = (F 10).toInt - 1 ∧ (F71 11).toInt = -2 ∧ (F 11).toInt ≠ -2) by omega)⟩
    · skip
      have l_76 : (9 : Int32).toInt = 9 := rfl
      have e_77 := mt i_eq.mpr (show ¬ ((F31 11) = (9 : Int32)) from c_36)
      unfold cb_X4_ifStatement_99
      have q_78 := i_rng r23
      have q_79 := hI31.r 6 rfl
      refine WP.bind (cs_X1_aim hfu r23 (F31 6) F31 G31 hI31) ?_
      rintro r80 F80 G80 ⟨hI80, hB80, hT80, hO80, hK80, hp80⟩
      dsimp only
      have q_81 := i_rng (F80 11)
      have e_82 : (F80 11).toInt = (F31 11).toInt := congrArg Int32.toInt hK80
      have q_83 := hI80.r 10 rfl
      have e_84 : (F80 10).toInt = (F31 10).toInt := hO80
      unfold cb_X4_ifStatement_114
      refine WP.bind (cs_X2_closes hfu F80 G80 hI80 (show 0 ≤ (F80 10).toInt by omega)) ?_
      rintro r85 F85 G85 ⟨hI85, hB85, hT85, hK85, hp85⟩
      dsimp only
      have q_86 := i_rng (F85 11)
      have e_87 : (F85 11).toInt = (F80 11).toInt := congrArg Int32.toInt hK85
      have q_88 := hI85.r 10 rfl
      have e_89 : (F85 10).toInt = (F80 10).toInt - 1 := hp85
      unfold cb_X4_ifStatement_121
      refine WP.ret ?_
      exact ⟨hI85, (KB.tr (KB.tr (KB.tr (KB.tr (KB.tr (KB.tr (KB.rf : KB F G F G) hB2) hB16) hB23) hB31) hB80) hB85), (KT.tr (KT.tr (KT.tr (KT.tr (KT.tr (KT.tr (rfl : KT F F) hT2) hT16) hT23) hT31) hT80) hT85), (show (F 11).toInt = -2 → (F85 11).toInt = -2 by omega), (show (F85 10).toInt = (F 10).toInt ∨ ((F85 10).toInt = (F 10).toInt - 1 ∧ (F85 11).toInt = -2 ∧ (F 11).toInt ≠ -2) by omega)⟩
theorem ct_X4_inner {fu d : Nat} (hfu : 8589934592 ≤ fu) (rc : RC) (ih : cIH2 rc d) (F : PF) (G : PG) (hI : CI F G) (h10 : 0 ≤ (F 10).toInt) (hd : (4 * (40 - (F 10).toInt) + 5 ≤ (d + 1 : Int) ∨ ((F 11).toInt = -2 ∧ 2 ≤ (d + 1 : Int)))) : WP (ch_X4_inner fu rc F G) (fun r' F' G' => CI F' G' ∧ KB F G F' G' ∧ KT F F' ∧ KS F F' ∧ (((F' 10).toInt = (F 10).toInt ∨ ((F' 10).toInt = (F 10).toInt - 1 ∧ (F' 11).toInt = -2 ∧ (F 11).toInt ≠ -2)))) := by
  unfold ch_X4_inner
  have q_10 := hI.r 10 rfl
  unfold cb_X4_inner_0
  refine WP.bind (cs_X5_enter hfu F G hI) ?_
  rintro r1 F1 G1 ⟨hI1, hB1, hT1, hO1, hK1, hp1⟩
  dsimp only
  have q_2 := i_rng (F 11)
  have q_3 := i_rng (F1 11)
  have e_4 : (F1 11).toInt = (F 11).toInt := congrArg Int32.toInt hK1
  have q_5 := hI.r 10 rfl
  have q_6 := hI1.r 10 rfl
  have e_7 : (F1 10).toInt = (F 10).toInt := hO1
  unfold cb_X4_inner_7
  refine WP.bind (ih.2.2.2.2.2.2.1 F1 G1 hI1 (show 0 ≤ (F1 10).toInt by omega) (by omega)) ?_
  rintro r8 F8 G8 ⟨hI8, hB8, hT8, hS8, hp8⟩
  dsimp only
  have q_9 := i_rng (F8 11)
  have e_10 : (F1 11).toInt = -2 → (F8 11).toInt = -2 := hS8
  have q_11 := hI8.r 10 rfl
  have e_12 : (F8 10).toInt = (F1 10).toInt ∨ ((F8 10).toInt = (F1 10).toInt - 1 ∧ (F8 11).toInt = -2 ∧ (F1 11).toInt ≠ -2) := hp8
  unfold cb_X4_inner_11
  refine WP.bind (cs_X5_leave hfu F8 G8 hI8) ?_
  rintro r13 F13 G13 ⟨hI13, hB13, hT13, hO13, hK13, hp13⟩
  dsimp only
  have q_14 := i_rng (F13 11)
  have e_15 : (F13 11).toInt = (F8 11).toInt := congrArg Int32.toInt hK13
  have q_16 := hI13.r 10 rfl
  have e_17 : (F13 10).toInt = (F8 10).toInt := hO13
  unfold cb_X4_inner_18
  refine WP.ret ?_
  exact ⟨hI13, (KB.tr (KB.tr (KB.tr (KB.rf : KB F G F G) hB1) hB8) hB13), (KT.tr (KT.tr (KT.tr (rfl : KT F F) hT1) hT8) hT13), (show (F 11).toInt = -2 → (F13 11).toInt = -2 by omega), (show (F13 10).toInt = (F 10).toInt ∨ ((F13 10).toInt = (F 10).toInt - 1 ∧ (F13 11).toInt = -2 ∧ (F 11).toInt ≠ -2) by omega)⟩
