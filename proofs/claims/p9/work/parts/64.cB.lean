theorem cs_X0_withNumber {fu : Nat} (hfu : 8589934592 ≤ fu) (x1 : Int32) (F : PF) (G : PG) (hI : CI F G) : WP (cf_X0_withNumber fu x1 F G) (fun r' F' G' => CI F' G' ∧ KT F F' ∧ KO F F' ∧ True) := by
  unfold cf_X0_withNumber
  unfold cb_X0_withNumber_0
  have q_1 := i_rng x1
  have l_2 : (15 : Int32).toInt = 15 := rfl
  have q_4 := i_rng ((x1.toUInt32 >>> ((15 : Int32).toUInt32 &&& Int32.toUInt32 31)).toInt32)
  have l_5 : (31 : Int32).toInt = 31 := rfl
  have e_7 := i_and ((x1.toUInt32 >>> ((15 : Int32).toUInt32 &&& Int32.toUInt32 31)).toInt32) (m := 31) 5 (by decide) (by decide)
  refine WP.ix (show vp_in (((x1.toUInt32 >>> ((15 : Int32).toUInt32 &&& Int32.toUInt32 31)).toInt32) &&& (31 : Int32)) 32 from vp_in_iff.mpr ⟨by omega, by omega⟩) ?_
  refine WP.ite (fun c_8 => ?_) (fun c_8 => ?_)
  · skip
    have l_9 : (12 : Int32).toInt = 12 := rfl
    have q_11 := i_rng ((x1.toUInt32 >>> ((12 : Int32).toUInt32 &&& Int32.toUInt32 31)).toInt32)
    have l_12 : (7 : Int32).toInt = 7 := rfl
    have e_14 := i_and ((x1.toUInt32 >>> ((12 : Int32).toUInt32 &&& Int32.toUInt32 31)).toInt32) (m := 7) 3 (by decide) (by decide)
    have l_15 : (1 : Int32).toInt = 1 := rfl
    have e_16 := i_eq.mp (show (((x1.toUInt32 >>> ((12 : Int32).toUInt32 &&& Int32.toUInt32 31)).toInt32) &&& (7 : Int32)) = (1 : Int32) from c_8)
    unfold cb_X0_withNumber_38
    refine WP.ite (fun c_17 => ?_) (fun c_17 => ?_)
    · skip
      have l_18 : (25 : Int32).toInt = 25 := rfl
      have q_20 := i_rng ((x1.toUInt32 >>> ((25 : Int32).toUInt32 &&& Int32.toUInt32 31)).toInt32)
      have l_21 : (0 : Int32).toInt = 0 := rfl
      have e_22 := i_eq.mp (show ((x1.toUInt32 >>> ((25 : Int32).toUInt32 &&& Int32.toUInt32 31)).toInt32) = (0 : Int32) from c_17)
      unfold cb_X0_withNumber_42
      refine WP.ite (fun c_23 => ?_) (fun c_23 => ?_)
      · skip
        have l_24 : (5 : Int32).toInt = 5 := rfl
        have e_25 := i_eq.mp (show (((x1.toUInt32 >>> ((12 : Int32).toUInt32 &&& Int32.toUInt32 31)).toInt32) &&& (7 : Int32)) = (5 : Int32) from c_23)
        unfold cb_X0_withNumber_47
        refine WP.ite (fun c_26 => ?_) (fun c_26 => ?_)
        · skip
          have e_27 := i_eq.mp (show ((x1.toUInt32 >>> ((25 : Int32).toUInt32 &&& Int32.toUInt32 31)).toInt32) = (0 : Int32) from c_26)
          unfold cb_X0_withNumber_59
          refine WP.ite (fun c_28 => ?_) (fun c_28 => ?_)
          · skip
            have e_29 := i_eq.mp (show (((x1.toUInt32 >>> ((12 : Int32).toUInt32 &&& Int32.toUInt32 31)).toInt32) &&& (7 : Int32)) = (5 : Int32) from c_28)
            unfold cb_X0_withNumber_73
            refine WP.ite (fun c_30 => ?_) (fun c_30 => ?_)
            · skip
              have l_31 : (32 : Int32).toInt = 32 := rfl
              have e_32 := i_eq.mp (show ((x1.toUInt32 >>> ((25 : Int32).toUInt32 &&& Int32.toUInt32 31)).toInt32) = (32 : Int32) from c_30)
              unfold cb_X0_withNumber_79
              unfold cb_X0_withNumber_84
              have q_33 := i_rng (G 1 (((x1.toUInt32 >>> ((15 : Int32).toUInt32 &&& Int32.toUInt32 31)).toInt32) &&& (31 : Int32)).toNatClampNeg)
              have l_34 : (20 : Int32).toInt = 20 := rfl
              have e_36 : ((x1 >>> ((20 : Int32) &&& 31))).toInt = x1.toInt / 1048576 := i_shr 20 (by decide)
              refine WP.bind (cs_X0_plain hfu (((x1.toUInt32 >>> ((12 : Int32).toUInt32 &&& Int32.toUInt32 31)).toInt32) &&& (7 : Int32)) (1 : Int32) (G 1 (((x1.toUInt32 >>> ((15 : Int32).toUInt32 &&& Int32.toUInt32 31)).toInt32) &&& (31 : Int32)).toNatClampNeg) (x1 >>> ((20 : Int32) &&& 31)) F G hI (by decide)) ?_
              rintro r37 _ _ ⟨rfl, rfl, hp37⟩
              dsimp only
              unfold cb_X0_withNumber_91
              have q_39 := i_rng ((x1.toUInt32 >>> ((7 : Int32).toUInt32 &&& Int32.toUInt32 31)).toInt32)
              have e_41 := i_and ((x1.toUInt32 >>> ((7 : Int32).toUInt32 &&& Int32.toUInt32 31)).toInt32) (m := 31) 5 (by decide) (by decide)
              have q_42 := i_rng r37
              refine WP.bind (cs_X0_keep hfu (((x1.toUInt32 >>> ((7 : Int32).toUInt32 &&& Int32.toUInt32 31)).toInt32) &&& (31 : Int32)) r37 F G hI) ?_
              rintro r43 F43 G43 ⟨hI43, hT43, hO43, hp43⟩
              dsimp only
              have q_44 := hI.r 10 rfl
              have q_45 := hI43.r 10 rfl
              have e_46 : (F43 10).toInt = (F 10).toInt := hO43
              unfold cb_X0_withNumber_94
              refine WP.ret ?_
              exact ⟨hI43, (KT.tr (rfl : KT F F) hT43), (KO.tr (rfl : KO F F) hO43), trivial⟩
            · skip
              have l_47 : (32 : Int32).toInt = 32 := rfl
              have e_48 := mt i_eq.mpr (show ¬ (((x1.toUInt32 >>> ((25 : Int32).toUInt32 &&& Int32.toUInt32 31)).toInt32) = (32 : Int32)) from c_30)
              unfold cb_X0_withNumber_83
              unfold cb_X0_withNumber_84
              have q_49 := i_rng (G 1 (((x1.toUInt32 >>> ((15 : Int32).toUInt32 &&& Int32.toUInt32 31)).toInt32) &&& (31 : Int32)).toNatClampNeg)
              have l_50 : (20 : Int32).toInt = 20 := rfl
              have e_52 : ((x1 >>> ((20 : Int32) &&& 31))).toInt = x1.toInt / 1048576 := i_shr 20 (by decide)
              refine WP.bind (cs_X0_plain hfu (((x1.toUInt32 >>> ((12 : Int32).toUInt32 &&& Int32.toUInt32 31)).toInt32) &&& (7 : Int32)) (0 : Int32) (G 1 (((x1.toUInt32 >>> ((15 : Int32).toUInt32 &&& Int32.toUInt32 31)).toInt32) &&& (31 : Int32)).toNatClampNeg) (x1 >>> ((20 : Int32) &&& 31)) F G hI (by decide)) ?_
              rintro r53 _ _ ⟨rfl, rfl, hp53⟩
              dsimp only
              unfold cb_X0_withNumber_91
              have q_55 := i_rng ((x1.toUInt32 >>> ((7 : Int32).toUInt32 &&& Int32.toUInt32 31)).toInt32)
              have e_57 := i_and ((x1.toUInt32 >>> ((7 : Int32).toUInt32 &&& Int32.toUInt32 31)).toInt32) (m := 31) 5 (by decide) (by decide)
              have q_58 := i_rng r53
              refine WP.bind (cs_X0_keep hfu (((x1.toUInt32 >>> ((7 : Int32).toUInt32 &&& Int32.toUInt32 31)).toInt32) &&& (31 : Int32)) r53 F G hI) ?_
              rintro r59 F59 G59 ⟨hI59, hT59, hO59, hp59⟩
              dsimp only
              have q_60 := hI.r 10 rfl
              have q_61 := hI59.r 10 rfl
              have e_62 : (F59 10).toInt = (F 10).toInt := hO59
              unfold cb_X0_withNumber_94
              refine WP.ret ?_
              exact ⟨hI59, (KT.tr (rfl : KT F F) hT59), (KO.tr (rfl : KO F F) hO59), trivial⟩
          · skip
            have e_63 := mt i_eq.mpr (show ¬ ((((x1.toUInt32 >>> ((12 : Int32).toUInt32 &&& Int32.toUInt32 31)).toInt32) &&& (7 : Int32)) = (5 : Int32)) from c_28)
            unfold cb_X0_withNumber_83
            unfold cb_X0_withNumber_84
            have q_64 := i_rng (G 1 (((x1.toUInt32 >>> ((15 : Int32).toUInt32 &&& Int32.toUInt32 31)).toInt32) &&& (31 : Int32)).toNatClampNeg)
            have l_65 : (20 : Int32).toInt = 20 := rfl
            have e_67 : ((x1 >>> ((20 : Int32) &&& 31))).toInt = x1.toInt / 1048576 := i_shr 20 (by decide)
            refine WP.bind (cs_X0_plain hfu (((x1.toUInt32 >>> ((12 : Int32).toUInt32 &&& Int32.toUInt32 31)).toInt32) &&& (7 : Int32)) (0 : Int32) (G 1 (((x1.toUInt32 >>> ((15 : Int32).toUInt32 &&& Int32.toUInt32 31)).toInt32) &&& (31 : Int32)).toNatClampNeg) (x1 >>> ((20 : Int32) &&& 31)) F G hI (by decide)) ?_
            rintro r68 _ _ ⟨rfl, rfl, hp68⟩
            dsimp only
            unfold cb_X0_withNumber_91
            have q_70 := i_rng ((x1.toUInt32 >>> ((7 : Int32).toUInt32 &&& Int32.toUInt32 31)).toInt32)
            have e_72 := i_and ((x1.toUInt32 >>> ((7 : Int32).toUInt32 &&& Int32.toUInt32 31)).toInt32) (m := 31) 5 (by decide) (by decide)
            have q_73 := i_rng r68
            refine WP.bind (cs_X0_keep hfu (((x1.toUInt32 >>> ((7 : Int32).toUInt32 &&& Int32.toUInt32 31)).toInt32) &&& (31 : Int32)) r68 F G hI) ?_
            rintro r74 F74 G74 ⟨hI74, hT74, hO74, hp74⟩
            dsimp only
            have q_75 := hI.r 10 rfl
            have q_76 := hI74.r 10 rfl
            have e_77 : (F74 10).toInt = (F 10).toInt := hO74
            unfold cb_X0_withNumber_94
            refine WP.ret ?_
            exact ⟨hI74, (KT.tr (rfl : KT F F) hT74), (KO.tr (rfl : KO F F) hO74), trivial⟩
        · skip
          have e_78 := mt i_eq.mpr (show ¬ (((x1.toUInt32 >>> ((25 : Int32).toUInt32 &&& Int32.toUInt32 31)).toInt32) = (0 : Int32)) from c_26)
          unfold cb_X0_withNumber_51
          refine WP.ite (fun c_79 => ?_) (fun c_79 => ?_)
          · skip
            have l_80 : (32 : Int32).toInt = 32 := rfl
            have e_81 := i_eq.mp (show ((x1.toUInt32 >>> ((25 : Int32).toUInt32 &&& Int32.toUInt32 31)).toInt32) = (32 : Int32) from c_79)
            unfold cb_X0_withNumber_59
            refine WP.ite (fun c_82 => ?_) (fun c_82 => ?_)
            · skip
              have e_83 := i_eq.mp (show (((x1.toUInt32 >>> ((12 : Int32).toUInt32 &&& Int32.toUInt32 31)).toInt32) &&& (7 : Int32)) = (5 : Int32) from c_82)
              unfold cb_X0_withNumber_73
              refine WP.ite (fun c_84 => ?_) (fun c_84 => ?_)
              · skip
                have e_85 := i_eq.mp (show ((x1.toUInt32 >>> ((25 : Int32).toUInt32 &&& Int32.toUInt32 31)).toInt32) = (32 : Int32) from c_84)
                unfold cb_X0_withNumber_79
                unfold cb_X0_withNumber_84
                have q_86 := i_rng (G 1 (((x1.toUInt32 >>> ((15 : Int32).toUInt32 &&& Int32.toUInt32 31)).toInt32) &&& (31 : Int32)).toNatClampNeg)
                have l_87 : (20 : Int32).toInt = 20 := rfl
                have e_89 : ((x1 >>> ((20 : Int32) &&& 31))).toInt = x1.toInt / 1048576 := i_shr 20 (by decide)
                refine WP.bind (cs_X0_plain hfu (((x1.toUInt32 >>> ((12 : Int32).toUInt32 &&& Int32.toUInt32 31)).toInt32) &&& (7 : Int32)) (1 : Int32) (G 1 (((x1.toUInt32 >>> ((15 : Int32).toUInt32 &&& Int32.toUInt32 31)).toInt32) &&& (31 : Int32)).toNatClampNeg) (x1 >>> ((20 : Int32) &&& 31)) F G hI (by decide)) ?_
                rintro r90 _ _ ⟨rfl, rfl, hp90⟩
                dsimp only
                unfold cb_X0_withNumber_91
                have q_92 := i_rng ((x1.toUInt32 >>> ((7 : Int32).toUInt32 &&& Int32.toUInt32 31)).toInt32)
                have e_94 := i_and ((x1.toUInt32 >>> ((7 : Int32).toUInt32 &&& Int32.toUInt32 31)).toInt32) (m := 31) 5 (by decide) (by decide)
                have q_95 := i_rng r90
                refine WP.bind (cs_X0_keep hfu (((x1.toUInt32 >>> ((7 : Int32).toUInt32 &&& Int32.toUInt32 31)).toInt32) &&& (31 : Int32)) r90 F G hI) ?_
                rintro r96 F96 G96 ⟨hI96, hT96, hO96, hp96⟩
                dsimp only
                have q_97 := hI.r 10 rfl
                have q_98 := hI96.r 10 rfl
                have e_99 : (F96 10).toInt = (F 10).toInt := hO96
                unfold cb_X0_withNumber_94
                refine WP.ret ?_
                exact ⟨hI96, (KT.tr (rfl : KT F F) hT96), (KO.tr (rfl : KO F F) hO96), trivial⟩
              · skip
                have e_100 := mt i_eq.mpr (show ¬ (((x1.toUInt32 >>> ((25 : Int32).toUInt32 &&& Int32.toUInt32 31)).toInt32) = (32 : Int32)) from c_84)
                unfold cb_X0_withNumber_83
                unfold cb_X0_withNumber_84
                have q_101 := i_rng (G 1 (((x1.toUInt32 >>> ((15 : Int32).toUInt32 &&& Int32.toUInt32 31)).toInt32) &&& (31 : Int32)).toNatClampNeg)
                have l_102 : (20 : Int32).toInt = 20 := rfl
                have e_104 : ((x1 >>> ((20 : Int32) &&& 31))).toInt = x1.toInt / 1048576 := i_shr 20 (by decide)
                refine WP.bind (cs_X0_plain hfu (((x1.toUInt32 >>> ((12 : Int32).toUInt32 &&& Int32.toUInt32 31)).toInt32) &&& (7 : Int32)) (0 : Int32) (G 1 (((x1.toUInt32 >>> ((15 : Int32).toUInt32 &&& Int32.toUInt32 31)).toInt32) &&& (31 : Int32)).toNatClampNeg) (x1 >>> ((20 : Int32) &&& 31)) F G hI (by decide)) ?_
                rintro r105 _ _ ⟨rfl, rfl, hp105⟩
                dsimp only
                unfold cb_X0_withNumber_91
                have q_107 := i_rng ((x1.toUInt32 >>> ((7 : Int32).toUInt32 &&& Int32.toUInt32 31)).toInt32)
                have e_109 := i_and ((x1.toUInt32 >>> ((7 : Int32).toUInt32 &&& Int32.toUInt32 31)).toInt32) (m := 31) 5 (by decide) (by decide)
                have q_110 := i_rng r105
                refine WP.bind (cs_X0_keep hfu (((x1.toUInt32 >>> ((7 : Int32).toUInt32 &&& Int32.toUInt32 31)).toInt32) &&& (31 : Int32)) r105 F G hI) ?_
                rintro r111 F111 G111 ⟨hI111, hT111, hO111, hp111⟩
                dsimp only
                have q_112 := hI.r 10 rfl
                have q_113 := hI111.r 10 rfl
                have e_114 : (F111 10).toInt = (F 10).toInt := hO111
                unfold cb_X0_withNumber_94
                refine WP.ret ?_
                exact ⟨hI111, (KT.tr (rfl : KT F F) hT111), (KO.tr (rfl : KO F F) hO111), trivial⟩
            · skip
              have e_115 := mt i_eq.mpr (show ¬ ((((x1.toUInt32 >>> ((12 : Int32).toUInt32 &&& Int32.toUInt32 31)).toInt32) &&& (7 : Int32)) = (5 : Int32)) from c_82)
              unfold cb_X0_withNumber_83
              unfold cb_X0_withNumber_84
              have q_116 := i_rng (G 1 (((x1.toUInt32 >>> ((15 : Int32).toUInt32 &&& Int32.toUInt32 31)).toInt32) &&& (31 : Int32)).toNatClampNeg)
              have l_117 : (20 : Int32).toInt = 20 := rfl
              have e_119 : ((x1 >>> ((20 : Int32) &&& 31))).toInt = x1.toInt / 1048576 := i_shr 20 (by decide)
              refine WP.bind (cs_X0_plain hfu (((x1.toUInt32 >>> ((12 : Int32).toUInt32 &&& Int32.toUInt32 31)).toInt32) &&& (7 : Int32)) (0 : Int32) (G 1 (((x1.toUInt32 >>> ((15 : Int32).toUInt32 &&& Int32.toUInt32 31)).toInt32) &&& (31 : Int32)).toNatClampNeg) (x1 >>> ((20 : Int32) &&& 31)) F G hI (by decide)) ?_
              rintro r120 _ _ ⟨rfl, rfl, hp120⟩
              dsimp only
              unfold cb_X0_withNumber_91
              have q_122 := i_rng ((x1.toUInt32 >>> ((7 : Int32).toUInt32 &&& Int32.toUInt32 31)).toInt32)
              have e_124 := i_and ((x1.toUInt32 >>> ((7 : Int32).toUInt32 &&& Int32.toUInt32 31)).toInt32) (m := 31) 5 (by decide) (by decide)
              have q_125 := i_rng r120
              refine WP.bind (cs_X0_keep hfu (((x1.toUInt32 >>> ((7 : Int32).toUInt32 &&& Int32.toUInt32 31)).toInt32) &&& (31 : Int32)) r120 F G hI) ?_
              rintro r126 F126 G126 ⟨hI126, hT126, hO126, hp126⟩
              dsimp only
              have q_127 := hI.r 10 rfl
              have q_128 := hI126.r 10 rfl
              have e_129 : (F126 10).toInt = (F 10).toInt := hO126
              unfold cb_X0_withNumber_94
              refine WP.ret ?_
              exact ⟨hI126, (KT.tr (rfl : KT F F) hT126), (KO.tr (rfl : KO F F) hO126), trivial⟩
          · skip
            have l_130 : (32 : Int32).toInt = 32 := rfl
            have e_131 := mt i_eq.mpr (show ¬ (((x1.toUInt32 >>> ((25 : Int32).toUInt32 &&& Int32.toUInt32 31)).toInt32) = (32 : Int32)) from c_79)
            unfold cb_X0_withNumber_57
            refine WP.ret ?_
            exact ⟨hI, (rfl : KT F F), (rfl : KO F F), trivial⟩
      · skip
        have l_132 : (5 : Int32).toInt = 5 := rfl
        have e_133 := mt i_eq.mpr (show ¬ ((((x1.toUInt32 >>> ((12 : Int32).toUInt32 &&& Int32.toUInt32 31)).toInt32) &&& (7 : Int32)) = (5 : Int32)) from c_23)
        unfold cb_X0_withNumber_59
        refine WP.ite (fun c_134 => ?_) (fun c_134 => ?_)
        · skip
          have e_135 := i_eq.mp (show (((x1.toUInt32 >>> ((12 : Int32).toUInt32 &&& Int32.toUInt32 31)).toInt32) &&& (7 : Int32)) = (5 : Int32) from c_134)
          unfold cb_X0_withNumber_73
          refine WP.ite (fun c_136 => ?_) (fun c_136 => ?_)
          · skip
            have l_137 : (32 : Int32).toInt = 32 := rfl
            have e_138 := i_eq.mp (show ((x1.toUInt32 >>> ((25 : Int32).toUInt32 &&& Int32.toUInt32 31)).toInt32) = (32 : Int32) from c_136)
            unfold cb_X0_withNumber_79
            unfold cb_X0_withNumber_84
            have q_139 := i_rng (G 1 (((x1.toUInt32 >>> ((15 : Int32).toUInt32 &&& Int32.toUInt32 31)).toInt32) &&& (31 : Int32)).toNatClampNeg)
            have l_140 : (20 : Int32).toInt = 20 := rfl
            have e_142 : ((x1 >>> ((20 : Int32) &&& 31))).toInt = x1.toInt / 1048576 := i_shr 20 (by decide)
            refine WP.bind (cs_X0_plain hfu (((x1.toUInt32 >>> ((12 : Int32).toUInt32 &&& Int32.toUInt32 31)).toInt32) &&& (7 : Int32)) (1 : Int32) (G 1 (((x1.toUInt32 >>> ((15 : Int32).toUInt32 &&& Int32.toUInt32 31)).toInt32) &&& (31 : Int32)).toNatClampNeg) (x1 >>> ((20 : Int32) &&& 31)) F G hI (by decide)) ?_
            rintro r143 _ _ ⟨rfl, rfl, hp143⟩
            dsimp only
            unfold cb_X0_withNumber_91
            have q_145 := i_rng ((x1.toUInt32 >>> ((7 : Int32).toUInt32 &&& Int32.toUInt32 31)).toInt32)
            have e_147 := i_and ((x1.toUInt32 >>> ((7 : Int32).toUInt32 &&& Int32.toUInt32 31)).toInt32) (m := 31) 5 (by decide) (by decide)
            have q_148 := i_rng r143
            refine WP.bind (cs_X0_keep hfu (((x1.toUInt32 >>> ((7 : Int32).toUInt32 &&& Int32.toUInt32 31)).toInt32) &&& (31 : Int32)) r143 F G hI) ?_
            rintro r149 F149 G149 ⟨hI149, hT149, hO149, hp149⟩
            dsimp only
            have q_150 := hI.r 10 rfl
            have q_151 := hI149.r 10 rfl
            have e_152 : (F149 10).toInt = (F 10).toInt := hO149
            unfold cb_X0_withNumber_94
            refine WP.ret ?_
            exact ⟨hI149, (KT.tr (rfl : KT F F) hT149), (KO.tr (rfl : KO F F) hO149), trivial⟩
          · skip
            have l_153 : (32 : Int32).toInt = 32 := rfl
            have e_154 := mt i_eq.mpr (show ¬ (((x1.toUInt32 >>> ((25 : Int32).toUInt32 &&& Int32.toUInt32 31)).toInt32) = (32 : Int32)) from c_136)
            unfold cb_X0_withNumber_83
            unfold cb_X0_withNumber_84
            have q_155 := i_rng (G 1 (((x1.toUInt32 >>> ((15 : Int32).toUInt32 &&& Int32.toUInt32 31)).toInt32) &&& (31 : Int32)).toNatClampNeg)
            have l_156 : (20 : Int32).toInt = 20 := rfl
            have e_158 : ((x1 >>> ((20 : Int32) &&& 31))).toInt = x1.toInt / 1048576 := i_shr 20 (by decide)
            refine WP.bind (cs_X0_plain hfu (((x1.toUInt32 >>> ((12 : Int32).toUInt32 &&& Int32.toUInt32 31)).toInt32) &&& (7 : Int32)) (0 : Int32) (G 1 (((x1.toUInt32 >>> ((15 : Int32).toUInt32 &&& Int32.toUInt32 31)).toInt32) &&& (31 : Int32)).toNatClampNeg) (x1 >>> ((20 : Int32) &&& 31)) F G hI (by decide)) ?_
            rintro r159 _ _ ⟨rfl, rfl, hp159⟩
            dsimp only
            unfold cb_X0_withNumber_91
            have q_161 := i_rng ((x1.toUInt32 >>> ((7 : Int32).toUInt32 &&& Int32.toUInt32 31)).toInt32)
            have e_163 := i_and ((x1.toUInt32 >>> ((7 : Int32).toUInt32 &&& Int32.toUInt32 31)).toInt32) (m := 31) 5 (by decide) (by decide)
            have q_164 := i_rng r159
            refine WP.bind (cs_X0_keep hfu (((x1.toUInt32 >>> ((7 : Int32).toUInt32 &&& Int32.toUInt32 31)).toInt32) &&& (31 : Int32)) r159 F G hI) ?_
            rintro r165 F165 G165 ⟨hI165, hT165, hO165, hp165⟩
            dsimp only
            have q_166 := hI.r 10 rfl
            have q_167 := hI165.r 10 rfl
            have e_168 : (F165 10).toInt = (F 10).toInt := hO165
            unfold cb_X0_withNumber_94
            refine WP.ret ?_
            exact ⟨hI165, (KT.tr (rfl : KT F F) hT165), (KO.tr (rfl : KO F F) hO165), trivial⟩
        · skip
          have e_169 := mt i_eq.mpr (show ¬ ((((x1.toUInt32 >>> ((12 : Int32).toUInt32 &&& Int32.toUInt32 31)).toInt32) &&& (7 : Int32)) = (5 : Int32)) from c_134)
          unfold cb_X0_withNumber_83
          unfold cb_X0_withNumber_84
          have q_170 := i_rng (G 1 (((x1.toUInt32 >>> ((15 : Int32).toUInt32 &&& Int32.toUInt32 31)).toInt32) &&& (31 : Int32)).toNatClampNeg)
          have l_171 : (20 : Int32).toInt = 20 := rfl
          have e_173 : ((x1 >>> ((20 : Int32) &&& 31))).toInt = x1.toInt / 1048576 := i_shr 20 (by decide)
          refine WP.bind (cs_X0_plain hfu (((x1.toUInt32 >>> ((12 : Int32).toUInt32 &&& Int32.toUInt32 31)).toInt32) &&& (7 : Int32)) (0 : Int32) (G 1 (((x1.toUInt32 >>> ((15 : Int32).toUInt32 &&& Int32.toUInt32 31)).toInt32) &&& (31 : Int32)).toNatClampNeg) (x1 >>> ((20 : Int32) &&& 31)) F G hI (by decide)) ?_
          rintro r174 _ _ ⟨rfl, rfl, hp174⟩
          dsimp only
          unfold cb_X0_withNumber_91
          have q_176 := i_rng ((x1.toUInt32 >>> ((7 : Int32).toUInt32 &&& Int32.toUInt32 31)).toInt32)
          have e_178 := i_and ((x1.toUInt32 >>> ((7 : Int32).toUInt32 &&& Int32.toUInt32 31)).toInt32) (m := 31) 5 (by decide) (by decide)
          have q_179 := i_rng r174
          refine WP.bind (cs_X0_keep hfu (((x1.toUInt32 >>> ((7 : Int32).toUInt32 &&& Int32.toUInt32 31)).toInt32) &&& (31 : Int32)) r174 F G hI) ?_
          rintro r180 F180 G180 ⟨hI180, hT180, hO180, hp180⟩
          dsimp only
          have q_181 := hI.r 10 rfl
          have q_182 := hI180.r 10 rfl
          have e_183 : (F180 10).toInt = (F 10).toInt := hO180
          unfold cb_X0_withNumber_94
          refine WP.ret ?_
          exact ⟨hI180, (KT.tr (rfl : KT F F) hT180), (KO.tr (rfl : KO F F) hO180), trivial⟩
    · skip
      have l_184 : (25 : Int32).toInt = 25 := rfl
      have q_186 := i_rng ((x1.toUInt32 >>> ((25 : Int32).toUInt32 &&& Int32.toUInt32 31)).toInt32)
      have l_187 : (0 : Int32).toInt = 0 := rfl
      have e_188 := mt i_eq.mpr (show ¬ (((x1.toUInt32 >>> ((25 : Int32).toUInt32 &&& Int32.toUInt32 31)).toInt32) = (0 : Int32)) from c_17)
      unfold cb_X0_withNumber_57
      refine WP.ret ?_
      exact ⟨hI, (rfl : KT F F), (rfl : KO F F), trivial⟩
  · skip
    have l_189 : (12 : Int32).toInt = 12 := rfl
    have q_191 := i_rng ((x1.toUInt32 >>> ((12 : Int32).toUInt32 &&& Int32.toUInt32 31)).toInt32)
    have l_192 : (7 : Int32).toInt = 7 := rfl
    have e_194 := i_and ((x1.toUInt32 >>> ((12 : Int32).toUInt32 &&& Int32.toUInt32 31)).toInt32) (m := 7) 3 (by decide) (by decide)
    have l_195 : (1 : Int32).toInt = 1 := rfl
    have e_196 := mt i_eq.mpr (show ¬ ((((x1.toUInt32 >>> ((12 : Int32).toUInt32 &&& Int32.toUInt32 31)).toInt32) &&& (7 : Int32)) = (1 : Int32)) from c_8)
    unfold cb_X0_withNumber_42
    refine WP.ite (fun c_197 => ?_) (fun c_197 => ?_)
    · skip
      have l_198 : (5 : Int32).toInt = 5 := rfl
      have e_199 := i_eq.mp (show (((x1.toUInt32 >>> ((12 : Int32).toUInt32 &&& Int32.toUInt32 31)).toInt32) &&& (7 : Int32)) = (5 : Int32) from c_197)
      unfold cb_X0_withNumber_47
      refine WP.ite (fun c_200 => ?_) (fun c_200 => ?_)
      · skip
        have l_201 : (25 : Int32).toInt = 25 := rfl
        have q_203 := i_rng ((x1.toUInt32 >>> ((25 : Int32).toUInt32 &&& Int32.toUInt32 31)).toInt32)
        have l_204 : (0 : Int32).toInt = 0 := rfl
        have e_205 := i_eq.mp (show ((x1.toUInt32 >>> ((25 : Int32).toUInt32 &&& Int32.toUInt32 31)).toInt32) = (0 : Int32) from c_200)
        unfold cb_X0_withNumber_59
        refine WP.ite (fun c_206 => ?_) (fun c_206 => ?_)
        · skip
          have e_207 := i_eq.mp (show (((x1.toUInt32 >>> ((12 : Int32).toUInt32 &&& Int32.toUInt32 31)).toInt32) &&& (7 : Int32)) = (5 : Int32) from c_206)
          unfold cb_X0_withNumber_73
          refine WP.ite (fun c_208 => ?_) (fun c_208 => ?_)
          · skip
            have l_209 : (32 : Int32).toInt = 32 := rfl
            have e_210 := i_eq.mp (show ((x1.toUInt32 >>> ((25 : Int32).toUInt32 &&& Int32.toUInt32 31)).toInt32) = (32 : Int32) from c_208)
            unfold cb_X0_withNumber_79
            unfold cb_X0_withNumber_84
            have q_211 := i_rng (G 1 (((x1.toUInt32 >>> ((15 : Int32).toUInt32 &&& Int32.toUInt32 31)).toInt32) &&& (31 : Int32)).toNatClampNeg)
            have l_212 : (20 : Int32).toInt = 20 := rfl
            have e_214 : ((x1 >>> ((20 : Int32) &&& 31))).toInt = x1.toInt / 1048576 := i_shr 20 (by decide)
            refine WP.bind (cs_X0_plain hfu (((x1.toUInt32 >>> ((12 : Int32).toUInt32 &&& Int32.toUInt32 31)).toInt32) &&& (7 : Int32)) (1 : Int32) (G 1 (((x1.toUInt32 >>> ((15 : Int32).toUInt32 &&& Int32.toUInt32 31)).toInt32) &&& (31 : Int32)).toNatClampNeg) (x1 >>> ((20 : Int32) &&& 31)) F G hI (by decide)) ?_
            rintro r215 _ _ ⟨rfl, rfl, hp215⟩
            dsimp only
            unfold cb_X0_withNumber_91
            have q_217 := i_rng ((x1.toUInt32 >>> ((7 : Int32).toUInt32 &&& Int32.toUInt32 31)).toInt32)
            have e_219 := i_and ((x1.toUInt32 >>> ((7 : Int32).toUInt32 &&& Int32.toUInt32 31)).toInt32) (m := 31) 5 (by decide) (by decide)
            have q_220 := i_rng r215
            refine WP.bind (cs_X0_keep hfu (((x1.toUInt32 >>> ((7 : Int32).toUInt32 &&& Int32.toUInt32 31)).toInt32) &&& (31 : Int32)) r215 F G hI) ?_
            rintro r221 F221 G221 ⟨hI221, hT221, hO221, hp221⟩
            dsimp only
            have q_222 := hI.r 10 rfl
            have q_223 := hI221.r 10 rfl
            have e_224 : (F221 10).toInt = (F 10).toInt := hO221
            unfold cb_X0_withNumber_94
            refine WP.ret ?_
            exact ⟨hI221, (KT.tr (rfl : KT F F) hT221), (KO.tr (rfl : KO F F) hO221), trivial⟩
          · skip
            have l_225 : (32 : Int32).toInt = 32 := rfl
            have e_226 := mt i_eq.mpr (show ¬ (((x1.toUInt32 >>> ((25 : Int32).toUInt32 &&& Int32.toUInt32 31)).toInt32) = (32 : Int32)) from c_208)
            unfold cb_X0_withNumber_83
            unfold cb_X0_withNumber_84
            have q_227 := i_rng (G 1 (((x1.toUInt32 >>> ((15 : Int32).toUInt32 &&& Int32.toUInt32 31)).toInt32) &&& (31 : Int32)).toNatClampNeg)
            have l_228 : (20 : Int32).toInt = 20 := rfl
            have e_230 : ((x1 >>> ((20 : Int32) &&& 31))).toInt = x1.toInt / 1048576 := i_shr 20 (by decide)
            refine WP.bind (cs_X0_plain hfu (((x1.toUInt32 >>> ((12 : Int32).toUInt32 &&& Int32.toUInt32 31)).toInt32) &&& (7 : Int32)) (0 : Int32) (G 1 (((x1.toUInt32 >>> ((15 : Int32).toUInt32 &&& Int32.toUInt32 31)).toInt32) &&& (31 : Int32)).toNatClampNeg) (x1 >>> ((20 : Int32) &&& 31)) F G hI (by decide)) ?_
            rintro r231 _ _ ⟨rfl, rfl, hp231⟩
            dsimp only
            unfold cb_X0_withNumber_91
            have q_233 := i_rng ((x1.toUInt32 >>> ((7 : Int32).toUInt32 &&& Int32.toUInt32 31)).toInt32)
            have e_235 := i_and ((x1.toUInt32 >>> ((7 : Int32).toUInt32 &&& Int32.toUInt32 31)).toInt32) (m := 31) 5 (by decide) (by decide)
            have q_236 := i_rng r231
            refine WP.bind (cs_X0_keep hfu (((x1.toUInt32 >>> ((7 : Int32).toUInt32 &&& Int32.toUInt32 31)).toInt32) &&& (31 : Int32)) r231 F G hI) ?_
            rintro r237 F237 G237 ⟨hI237, hT237, hO237, hp237⟩
            dsimp only
            have q_238 := hI.r 10 rfl
            have q_239 := hI237.r 10 rfl
            have e_240 : (F237 10).toInt = (F 10).toInt := hO237
            unfold cb_X0_withNumber_94
            refine WP.ret ?_
            exact ⟨hI237, (KT.tr (rfl : KT F F) hT237), (KO.tr (rfl : KO F F) hO237), trivial⟩
        · skip
          have e_241 := mt i_eq.mpr (show ¬ ((((x1.toUInt32 >>> ((12 : Int32).toUInt32 &&& Int32.toUInt32 31)).toInt32) &&& (7 : Int32)) = (5 : Int32)) from c_206)
          unfold cb_X0_withNumber_83
          unfold cb_X0_withNumber_84
          have q_242 := i_rng (G 1 (((x1.toUInt32 >>> ((15 : Int32).toUInt32 &&& Int32.toUInt32 31)).toInt32) &&& (31 : Int32)).toNatClampNeg)
          have l_243 : (20 : Int32).toInt = 20 := rfl
          have e_245 : ((x1 >>> ((20 : Int32) &&& 31))).toInt = x1.toInt / 1048576 := i_shr 20 (by decide)
          refine WP.bind (cs_X0_plain hfu (((x1.toUInt32 >>> ((12 : Int32).toUInt32 &&& Int32.toUInt32 31)).toInt32) &&& (7 : Int32)) (0 : Int32) (G 1 (((x1.toUInt32 >>> ((15 : Int32).toUInt32 &&& Int32.toUInt32 31)).toInt32) &&& (31 : Int32)).toNatClampNeg) (x1 >>> ((20 : Int32) &&& 31)) F G hI (by decide)) ?_
          rintro r246 _ _ ⟨rfl, rfl, hp246⟩
          dsimp only
          unfold cb_X0_withNumber_91
          have q_248 := i_rng ((x1.toUInt32 >>> ((7 : Int32).toUInt32 &&& Int32.toUInt32 31)).toInt32)
          have e_250 := i_and ((x1.toUInt32 >>> ((7 : Int32).toUInt32 &&& Int32.toUInt32 31)).toInt32) (m := 31) 5 (by decide) (by decide)
          have q_251 := i_rng r246
          refine WP.bind (cs_X0_keep hfu (((x1.toUInt32 >>> ((7 : Int32).toUInt32 &&& Int32.toUInt32 31)).toInt32) &&& (31 : Int32)) r246 F G hI) ?_
          rintro r252 F252 G252 ⟨hI252, hT252, hO252, hp252⟩
          dsimp only
          have q_253 := hI.r 10 rfl
          have q_254 := hI252.r 10 rfl
          have e_255 : (F252 10).toInt = (F 10).toInt := hO252
          unfold cb_X0_withNumber_94
          refine WP.ret ?_
          exact ⟨hI252, (KT.tr (rfl : KT F F) hT252), (KO.tr (rfl : KO F F) hO252), trivial⟩
      · skip
        have l_256 : (25 : Int32).toInt = 25 := rfl
        have q_258 := i_rng ((x1.toUInt32 >>> ((25 : Int32).toUInt32 &&& Int32.toUInt32 31)).toInt32)
        have l_259 : (0 : Int32).toInt = 0 := rfl
        have e_260 := mt i_eq.mpr (show ¬ (((x1.toUInt32 >>> ((25 : Int32).toUInt32 &&& Int32.toUInt32 31)).toInt32) = (0 : Int32)) from c_200)
        unfold cb_X0_withNumber_51
        refine WP.ite (fun c_261 => ?_) (fun c_261 => ?_)
        · skip
          have l_262 : (32 : Int32).toInt = 32 := rfl
          have e_263 := i_eq.mp (show ((x1.toUInt32 >>> ((25 : Int32).toUInt32 &&& Int32.toUInt32 31)).toInt32) = (32 : Int32) from c_261)
          unfold cb_X0_withNumber_59
          refine WP.ite (fun c_264 => ?_) (fun c_264 => ?_)
          · skip
            have e_265 := i_eq.mp (show (((x1.toUInt32 >>> ((12 : Int32).toUInt32 &&& Int32.toUInt32 31)).toInt32) &&& (7 : Int32)) = (5 : Int32) from c_264)
            unfold cb_X0_withNumber_73
            refine WP.ite (fun c_266 => ?_) (fun c_266 => ?_)
            · skip
              have e_267 := i_eq.mp (show ((x1.toUInt32 >>> ((25 : Int32).toUInt32 &&& Int32.toUInt32 31)).toInt32) = (32 : Int32) from c_266)
              unfold cb_X0_withNumber_79
              unfold cb_X0_withNumber_84
              have q_268 := i_rng (G 1 (((x1.toUInt32 >>> ((15 : Int32).toUInt32 &&& Int32.toUInt32 31)).toInt32) &&& (31 : Int32)).toNatClampNeg)
              have l_269 : (20 : Int32).toInt = 20 := rfl
              have e_271 : ((x1 >>> ((20 : Int32) &&& 31))).toInt = x1.toInt / 1048576 := i_shr 20 (by decide)
              refine WP.bind (cs_X0_plain hfu (((x1.toUInt32 >>> ((12 : Int32).toUInt32 &&& Int32.toUInt32 31)).toInt32) &&& (7 : Int32)) (1 : Int32) (G 1 (((x1.toUInt32 >>> ((15 : Int32).toUInt32 &&& Int32.toUInt32 31)).toInt32) &&& (31 : Int32)).toNatClampNeg) (x1 >>> ((20 : Int32) &&& 31)) F G hI (by decide)) ?_
              rintro r272 _ _ ⟨rfl, rfl, hp272⟩
              dsimp only
              unfold cb_X0_withNumber_91
              have q_274 := i_rng ((x1.toUInt32 >>> ((7 : Int32).toUInt32 &&& Int32.toUInt32 31)).toInt32)
              have e_276 := i_and ((x1.toUInt32 >>> ((7 : Int32).toUInt32 &&& Int32.toUInt32 31)).toInt32) (m := 31) 5 (by decide) (by decide)
              have q_277 := i_rng r272
              refine WP.bind (cs_X0_keep hfu (((x1.toUInt32 >>> ((7 : Int32).toUInt32 &&& Int32.toUInt32 31)).toInt32) &&& (31 : Int32)) r272 F G hI) ?_
              rintro r278 F278 G278 ⟨hI278, hT278, hO278, hp278⟩
              dsimp only
              have q_279 := hI.r 10 rfl
              have q_280 := hI278.r 10 rfl
              have e_281 : (F278 10).toInt = (F 10).toInt := hO278
              unfold cb_X0_withNumber_94
              refine WP.ret ?_
              exact ⟨hI278, (KT.tr (rfl : KT F F) hT278), (KO.tr (rfl : KO F F) hO278), trivial⟩
            · skip
              have e_282 := mt i_eq.mpr (show ¬ (((x1.toUInt32 >>> ((25 : Int32).toUInt32 &&& Int32.toUInt32 31)).toInt32) = (32 : Int32)) from c_266)
              unfold cb_X0_withNumber_83
              unfold cb_X0_withNumber_84
              have q_283 := i_rng (G 1 (((x1.toUInt32 >>> ((15 : Int32).toUInt32 &&& Int32.toUInt32 31)).toInt32) &&& (31 : Int32)).toNatClampNeg)
              have l_284 : (20 : Int32).toInt = 20 := rfl
              have e_286 : ((x1 >>> ((20 : Int32) &&& 31))).toInt = x1.toInt / 1048576 := i_shr 20 (by decide)
              refine WP.bind (cs_X0_plain hfu (((x1.toUInt32 >>> ((12 : Int32).toUInt32 &&& Int32.toUInt32 31)).toInt32) &&& (7 : Int32)) (0 : Int32) (G 1 (((x1.toUInt32 >>> ((15 : Int32).toUInt32 &&& Int32.toUInt32 31)).toInt32) &&& (31 : Int32)).toNatClampNeg) (x1 >>> ((20 : Int32) &&& 31)) F G hI (by decide)) ?_
              rintro r287 _ _ ⟨rfl, rfl, hp287⟩
              dsimp only
              unfold cb_X0_withNumber_91
              have q_289 := i_rng ((x1.toUInt32 >>> ((7 : Int32).toUInt32 &&& Int32.toUInt32 31)).toInt32)
              have e_291 := i_and ((x1.toUInt32 >>> ((7 : Int32).toUInt32 &&& Int32.toUInt32 31)).toInt32) (m := 31) 5 (by decide) (by decide)
              have q_292 := i_rng r287
              refine WP.bind (cs_X0_keep hfu (((x1.toUInt32 >>> ((7 : Int32).toUInt32 &&& Int32.toUInt32 31)).toInt32) &&& (31 : Int32)) r287 F G hI) ?_
              rintro r293 F293 G293 ⟨hI293, hT293, hO293, hp293⟩
              dsimp only
              have q_294 := hI.r 10 rfl
              have q_295 := hI293.r 10 rfl
              have e_296 : (F293 10).toInt = (F 10).toInt := hO293
              unfold cb_X0_withNumber_94
              refine WP.ret ?_
              exact ⟨hI293, (KT.tr (rfl : KT F F) hT293), (KO.tr (rfl : KO F F) hO293), trivial⟩
          · skip
            have e_297 := mt i_eq.mpr (show ¬ ((((x1.toUInt32 >>> ((12 : Int32).toUInt32 &&& Int32.toUInt32 31)).toInt32) &&& (7 : Int32)) = (5 : Int32)) from c_264)
            unfold cb_X0_withNumber_83
            unfold cb_X0_withNumber_84
            have q_298 := i_rng (G 1 (((x1.toUInt32 >>> ((15 : Int32).toUInt32 &&& Int32.toUInt32 31)).toInt32) &&& (31 : Int32)).toNatClampNeg)
            have l_299 : (20 : Int32).toInt = 20 := rfl
            have e_301 : ((x1 >>> ((20 : Int32) &&& 31))).toInt = x1.toInt / 1048576 := i_shr 20 (by decide)
            refine WP.bind (cs_X0_plain hfu (((x1.toUInt32 >>> ((12 : Int32).toUInt32 &&& Int32.toUInt32 31)).toInt32) &&& (7 : Int32)) (0 : Int32) (G 1 (((x1.toUInt32 >>> ((15 : Int32).toUInt32 &&& Int32.toUInt32 31)).toInt32) &&& (31 : Int32)).toNatClampNeg) (x1 >>> ((20 : Int32) &&& 31)) F G hI (by decide)) ?_
            rintro r302 _ _ ⟨rfl, rfl, hp302⟩
            dsimp only
            unfold cb_X0_withNumber_91
            have q_304 := i_rng ((x1.toUInt32 >>> ((7 : Int32).toUInt32 &&& Int32.toUInt32 31)).toInt32)
            have e_306 := i_and ((x1.toUInt32 >>> ((7 : Int32).toUInt32 &&& Int32.toUInt32 31)).toInt32) (m := 31) 5 (by decide) (by decide)
            have q_307 := i_rng r302
            refine WP.bind (cs_X0_keep hfu (((x1.toUInt32 >>> ((7 : Int32).toUInt32 &&& Int32.toUInt32 31)).toInt32) &&& (31 : Int32)) r302 F G hI) ?_
            rintro r308 F308 G308 ⟨hI308, hT308, hO308, hp308⟩
            dsimp only
            have q_309 := hI.r 10 rfl
            have q_310 := hI308.r 10 rfl
            have e_311 : (F308 10).toInt = (F 10).toInt := hO308
            unfold cb_X0_withNumber_94
            refine WP.ret ?_
            exact ⟨hI308, (KT.tr (rfl : KT F F) hT308), (KO.tr (rfl : KO F F) hO308), trivial⟩
        · skip
          have l_312 : (32 : Int32).toInt = 32 := rfl
          have e_313 := mt i_eq.mpr (show ¬ (((x1.toUInt32 >>> ((25 : Int32).toUInt32 &&& Int32.toUInt32 31)).toInt32) = (32 : Int32)) from c_261)
          unfold cb_X0_withNumber_57
          refine WP.ret ?_
          exact ⟨hI, (rfl : KT F F), (rfl : KO F F), trivial⟩
    · skip
      have l_314 : (5 : Int32).toInt = 5 := rfl
      have e_315 := mt i_eq.mpr (show ¬ ((((x1.toUInt32 >>> ((12 : Int32).toUInt32 &&& Int32.toUInt32 31)).toInt32) &&& (7 : Int32)) = (5 : Int32)) from c_197)
      unfold cb_X0_withNumber_59
      refine WP.ite (fun c_316 => ?_) (fun c_316 => ?_)
      · skip
        have e_317 := i_eq.mp (show (((x1.toUInt32 >>> ((12 : Int32).toUInt32 &&& Int32.toUInt32 31)).toInt32) &&& (7 : Int32)) = (5 : Int32) from c_316)
        unfold cb_X0_withNumber_73
        refine WP.ite (fun c_318 => ?_) (fun c_318 => ?_)
        · skip
          have l_319 : (25 : Int32).toInt = 25 := rfl
          have q_321 := i_rng ((x1.toUInt32 >>> ((25 : Int32).toUInt32 &&& Int32.toUInt32 31)).toInt32)
          have l_322 : (32 : Int32).toInt = 32 := rfl
          have e_323 := i_eq.mp (show ((x1.toUInt32 >>> ((25 : Int32).toUInt32 &&& Int32.toUInt32 31)).toInt32) = (32 : Int32) from c_318)
          unfold cb_X0_withNumber_79
          unfold cb_X0_withNumber_84
          have q_324 := i_rng (G 1 (((x1.toUInt32 >>> ((15 : Int32).toUInt32 &&& Int32.toUInt32 31)).toInt32) &&& (31 : Int32)).toNatClampNeg)
          have l_325 : (20 : Int32).toInt = 20 := rfl
          have e_327 : ((x1 >>> ((20 : Int32) &&& 31))).toInt = x1.toInt / 1048576 := i_shr 20 (by decide)
          refine WP.bind (cs_X0_plain hfu (((x1.toUInt32 >>> ((12 : Int32).toUInt32 &&& Int32.toUInt32 31)).toInt32) &&& (7 : Int32)) (1 : Int32) (G 1 (((x1.toUInt32 >>> ((15 : Int32).toUInt32 &&& Int32.toUInt32 31)).toInt32) &&& (31 : Int32)).toNatClampNeg) (x1 >>> ((20 : Int32) &&& 31)) F G hI (by decide)) ?_
          rintro r328 _ _ ⟨rfl, rfl, hp328⟩
          dsimp only
          unfold cb_X0_withNumber_91
          have q_330 := i_rng ((x1.toUInt32 >>> ((7 : Int32).toUInt32 &&& Int32.toUInt32 31)).toInt32)
          have e_332 := i_and ((x1.toUInt32 >>> ((7 : Int32).toUInt32 &&& Int32.toUInt32 31)).toInt32) (m := 31) 5 (by decide) (by decide)
          have q_333 := i_rng r328
          refine WP.bind (cs_X0_keep hfu (((x1.toUInt32 >>> ((7 : Int32).toUInt32 &&& Int32.toUInt32 31)).toInt32) &&& (31 : Int32)) r328 F G hI) ?_
          rintro r334 F334 G334 ⟨hI334, hT334, hO334, hp334⟩
          dsimp only
          have q_335 := hI.r 10 rfl
          have q_336 := hI334.r 10 rfl
          have e_337 : (F334 10).toInt = (F 10).toInt := hO334
          unfold cb_X0_withNumber_94
          refine WP.ret ?_
          exact ⟨hI334, (KT.tr (rfl : KT F F) hT334), (KO.tr (rfl : KO F F) hO334), trivial⟩
        · skip
          have l_338 : (25 : Int32).toInt = 25 := rfl
          have q_340 := i_rng ((x1.toUInt32 >>> ((25 : Int32).toUInt32 &&& Int32.toUInt32 31)).toInt32)
          have l_341 : (32 : Int32).toInt = 32 := rfl
          have e_342 := mt i_eq.mpr (show ¬ (((x1.toUInt32 >>> ((25 : Int32).toUInt32 &&& Int32.toUInt32 31)).toInt32) = (32 : Int32)) from c_318)
          unfold cb_X0_withNumber_83
          unfold cb_X0_withNumber_84
          have l_343 : (0 : Int32).toInt = 0 := rfl
          have q_344 := i_rng (G 1 (((x1.toUInt32 >>> ((15 : Int32).toUInt32 &&& Int32.toUInt32 31)).toInt32) &&& (31 : Int32)).toNatClampNeg)
          have l_345 : (20 : Int32).toInt = 20 := rfl
          have e_347 : ((x1 >>> ((20 : Int32) &&& 31))).toInt = x1.toInt / 1048576 := i_shr 20 (by decide)
          refine WP.bind (cs_X0_plain hfu (((x1.toUInt32 >>> ((12 : Int32).toUInt32 &&& Int32.toUInt32 31)).toInt32) &&& (7 : Int32)) (0 : Int32) (G 1 (((x1.toUInt32 >>> ((15 : Int32).toUInt32 &&& Int32.toUInt32 31)).toInt32) &&& (31 : Int32)).toNatClampNeg) (x1 >>> ((20 : Int32) &&& 31)) F G hI (by decide)) ?_
          rintro r348 _ _ ⟨rfl, rfl, hp348⟩
          dsimp only
          unfold cb_X0_withNumber_91
          have q_350 := i_rng ((x1.toUInt32 >>> ((7 : Int32).toUInt32 &&& Int32.toUInt32 31)).toInt32)
          have e_352 := i_and ((x1.toUInt32 >>> ((7 : Int32).toUInt32 &&& Int32.toUInt32 31)).toInt32) (m := 31) 5 (by decide) (by decide)
          have q_353 := i_rng r348
          refine WP.bind (cs_X0_keep hfu (((x1.toUInt32 >>> ((7 : Int32).toUInt32 &&& Int32.toUInt32 31)).toInt32) &&& (31 : Int32)) r348 F G hI) ?_
          rintro r354 F354 G354 ⟨hI354, hT354, hO354, hp354⟩
          dsimp only
          have q_355 := hI.r 10 rfl
          have q_356 := hI354.r 10 rfl
          have e_357 : (F354 10).toInt = (F 10).toInt := hO354
          unfold cb_X0_withNumber_94
          refine WP.ret ?_
          exact ⟨hI354, (KT.tr (rfl : KT F F) hT354), (KO.tr (rfl : KO F F) hO354), trivial⟩
      · skip
        have e_358 := mt i_eq.mpr (show ¬ ((((x1.toUInt32 >>> ((12 : Int32).toUInt32 &&& Int32.toUInt32 31)).toInt32) &&& (7 : Int32)) = (5 : Int32)) from c_316)
        unfold cb_X0_withNumber_83
        unfold cb_X0_withNumber_84
        have l_359 : (0 : Int32).toInt = 0 := rfl
        have q_360 := i_rng (G 1 (((x1.toUInt32 >>> ((15 : Int32).toUInt32 &&& Int32.toUInt32 31)).toInt32) &&& (31 : Int32)).toNatClampNeg)
        have l_361 : (20 : Int32).toInt = 20 := rfl
        have e_363 : ((x1 >>> ((20 : Int32) &&& 31))).toInt = x1.toInt / 1048576 := i_shr 20 (by decide)
        refine WP.bind (cs_X0_plain hfu (((x1.toUInt32 >>> ((12 : Int32).toUInt32 &&& Int32.toUInt32 31)).toInt32) &&& (7 : Int32)) (0 : Int32) (G 1 (((x1.toUInt32 >>> ((15 : Int32).toUInt32 &&& Int32.toUInt32 31)).toInt32) &&& (31 : Int32)).toNatClampNeg) (x1 >>> ((20 : Int32) &&& 31)) F G hI (by decide)) ?_
        rintro r364 _ _ ⟨rfl, rfl, hp364⟩
        dsimp only
        unfold cb_X0_withNumber_91
        have q_366 := i_rng ((x1.toUInt32 >>> ((7 : Int32).toUInt32 &&& Int32.toUInt32 31)).toInt32)
        have e_368 := i_and ((x1.toUInt32 >>> ((7 : Int32).toUInt32 &&& Int32.toUInt32 31)).toInt32) (m := 31) 5 (by decide) (by decide)
        have q_369 := i_rng r364
        refine WP.bind (cs_X0_keep hfu (((x1.toUInt32 >>> ((7 : Int32).toUInt32 &&& Int32.toUInt32 31)).toInt32) &&& (31 : Int32)) r364 F G hI) ?_
        rintro r370 F370 G370 ⟨hI370, hT370, hO370, hp370⟩
        dsimp only
        have q_371 := hI.r 10 rfl
        have q_372 := hI370.r 10 rfl
        have e_373 : (F370 10).toInt = (F 10).toInt := hO370
        unfold cb_X0_withNumber_94
        refine WP.ret ?_
        exact ⟨hI370, (KT.tr (rfl : KT F F) hT370), (KO.tr (rfl : KO F F) hO370), trivial⟩
theorem cs_X0_does {fu : Nat} (hfu : 8589934592 ≤ fu) (x1 : Int32) (F : PF) (G : PG) (hI : CI F G) : WP (cf_X0_does fu x1 F G) (fun r' F' G' => CI F' G' ∧ KT F F' ∧ KO F F' ∧ True) := by
  unfold cf_X0_does
  unfold cb_X0_does_0
  refine WP.ite (fun c_1 => ?_) (fun c_1 => ?_)
  · skip
    have q_2 := i_rng x1
    have l_3 : (127 : Int32).toInt = 127 := rfl
    have e_5 := i_and x1 (m := 127) 7 (by decide) (by decide)
    have l_6 : (3 : Int32).toInt = 3 := rfl
    have e_7 := i_eq.mp (show (x1 &&& (127 : Int32)) = (3 : Int32) from c_1)
    unfold cb_X0_does_210
    refine WP.bind (cs_X0_load hfu x1 F G hI) ?_
    rintro r8 F8 G8 ⟨hI8, hT8, hO8, hp8⟩
    dsimp only
    have q_9 := hI.r 10 rfl
    have q_10 := hI8.r 10 rfl
    have e_11 : (F8 10).toInt = (F 10).toInt := hO8
    unfold cb_X0_does_215
    refine WP.ret ?_
    exact ⟨hI8, (KT.tr (rfl : KT F F) hT8), (KO.tr (rfl : KO F F) hO8), trivial⟩
  have q_12 := i_rng x1
  have l_13 : (127 : Int32).toInt = 127 := rfl
  have e_15 := i_and x1 (m := 127) 7 (by decide) (by decide)
  have l_16 : (3 : Int32).toInt = 3 := rfl
  have e_17 := mt i_eq.mpr (show ¬ ((x1 &&& (127 : Int32)) = (3 : Int32)) from c_1)
  refine WP.ite (fun c_18 => ?_) (fun c_18 => ?_)
  · skip
    have l_19 : (15 : Int32).toInt = 15 := rfl
    have e_20 := i_eq.mp (show (x1 &&& (127 : Int32)) = (15 : Int32) from c_18)
    unfold cb_X0_does_234
    refine WP.ite (fun c_21 => ?_) (fun c_21 => ?_)
    · skip
      have l_22 : (12 : Int32).toInt = 12 := rfl
      have q_24 := i_rng ((x1.toUInt32 >>> ((12 : Int32).toUInt32 &&& Int32.toUInt32 31)).toInt32)
      have l_25 : (7 : Int32).toInt = 7 := rfl
      have e_27 := i_and ((x1.toUInt32 >>> ((12 : Int32).toUInt32 &&& Int32.toUInt32 31)).toInt32) (m := 7) 3 (by decide) (by decide)
      have l_28 : (0 : Int32).toInt = 0 := rfl
      have e_29 := i_eq.mp (show (((x1.toUInt32 >>> ((12 : Int32).toUInt32 &&& Int32.toUInt32 31)).toInt32) &&& (7 : Int32)) = (0 : Int32) from c_21)
      unfold cb_X0_does_244
      unfold cb_X0_does_249
      refine WP.ret ?_
      exact ⟨hI, (rfl : KT F F), (rfl : KO F F), trivial⟩
    · skip
      have l_30 : (12 : Int32).toInt = 12 := rfl
      have q_32 := i_rng ((x1.toUInt32 >>> ((12 : Int32).toUInt32 &&& Int32.toUInt32 31)).toInt32)
      have l_33 : (7 : Int32).toInt = 7 := rfl
      have e_35 := i_and ((x1.toUInt32 >>> ((12 : Int32).toUInt32 &&& Int32.toUInt32 31)).toInt32) (m := 7) 3 (by decide) (by decide)
      have l_36 : (0 : Int32).toInt = 0 := rfl
      have e_37 := mt i_eq.mpr (show ¬ ((((x1.toUInt32 >>> ((12 : Int32).toUInt32 &&& Int32.toUInt32 31)).toInt32) &&& (7 : Int32)) = (0 : Int32)) from c_21)
      unfold cb_X0_does_248
      unfold cb_X0_does_249
      refine WP.ret ?_
      exact ⟨hI, (rfl : KT F F), (rfl : KO F F), trivial⟩
  have l_38 : (15 : Int32).toInt = 15 := rfl
  have e_39 := mt i_eq.mpr (show ¬ ((x1 &&& (127 : Int32)) = (15 : Int32)) from c_18)
  refine WP.ite (fun c_40 => ?_) (fun c_40 => ?_)
  · skip
    have l_41 : (19 : Int32).toInt = 19 := rfl
    have e_42 := i_eq.mp (show (x1 &&& (127 : Int32)) = (19 : Int32) from c_40)
    unfold cb_X0_does_222
    refine WP.bind (cs_X0_withNumber hfu x1 F G hI) ?_
    rintro r43 F43 G43 ⟨hI43, hT43, hO43, hp43⟩
    dsimp only
    have q_44 := hI.r 10 rfl
    have q_45 := hI43.r 10 rfl
    have e_46 : (F43 10).toInt = (F 10).toInt := hO43
    unfold cb_X0_does_227
    refine WP.ret ?_
    exact ⟨hI43, (KT.tr (rfl : KT F F) hT43), (KO.tr (rfl : KO F F) hO43), trivial⟩
  have l_47 : (19 : Int32).toInt = 19 := rfl
  have e_48 := mt i_eq.mpr (show ¬ ((x1 &&& (127 : Int32)) = (19 : Int32)) from c_40)
  refine WP.ite (fun c_49 => ?_) (fun c_49 => ?_)
  · skip
    have l_50 : (23 : Int32).toInt = 23 := rfl
    have e_51 := i_eq.mp (show (x1 &&& (127 : Int32)) = (23 : Int32) from c_49)
    unfold cb_X0_does_113
    have l_52 : (7 : Int32).toInt = 7 := rfl
    have q_54 := i_rng ((x1.toUInt32 >>> ((7 : Int32).toUInt32 &&& Int32.toUInt32 31)).toInt32)
    have l_55 : (31 : Int32).toInt = 31 := rfl
    have e_57 := i_and ((x1.toUInt32 >>> ((7 : Int32).toUInt32 &&& Int32.toUInt32 31)).toInt32) (m := 31) 5 (by decide) (by decide)
    have q_58 := i_rng (F 2)
    have l_59 : (-4096 : Int32).toInt = -4096 := rfl
    have q_61 := i_rng (x1 &&& (-4096 : Int32))
    first | have e_62 : ((F 2) + (x1 &&& (-4096 : Int32))).toInt = (F 2).toInt + ((x1 &&& (-4096 : Int32)).toInt) := i_addn (F 2) rfl (by omega) (by omega) | have e_63 := i_rng ((F 2) + (x1 &&& (-4096 : Int32)))
    refine WP.bind (cs_X0_keep hfu (((x1.toUInt32 >>> ((7 : Int32).toUInt32 &&& Int32.toUInt32 31)).toInt32) &&& (31 : Int32)) ((F 2) + (x1 &&& (-4096 : Int32))) F G hI) ?_
    rintro r64 F64 G64 ⟨hI64, hT64, hO64, hp64⟩
    dsimp only
    have q_65 := hI.r 10 rfl
    have q_66 := hI64.r 10 rfl
    have e_67 : (F64 10).toInt = (F 10).toInt := hO64
    unfold cb_X0_does_134
    refine WP.ret ?_
    exact ⟨hI64, (KT.tr (rfl : KT F F) hT64), (KO.tr (rfl : KO F F) hO64), trivial⟩
  have l_68 : (23 : Int32).toInt = 23 := rfl
  have e_69 := mt i_eq.mpr (show ¬ ((x1 &&& (127 : Int32)) = (23 : Int32)) from c_49)
  refine WP.ite (fun c_70 => ?_) (fun c_70 => ?_)
  · skip
    have l_71 : (35 : Int32).toInt = 35 := rfl
    have e_72 := i_eq.mp (show (x1 &&& (127 : Int32)) = (35 : Int32) from c_70)
    unfold cb_X0_does_216
    refine WP.bind (cs_X0_store hfu x1 F G hI) ?_
    rintro r73 F73 G73 ⟨hI73, hT73, hO73, hp73⟩
    dsimp only
    have q_74 := hI.r 10 rfl
    have q_75 := hI73.r 10 rfl
    have e_76 : (F73 10).toInt = (F 10).toInt := hO73
    unfold cb_X0_does_221
    refine WP.ret ?_
    exact ⟨hI73, (KT.tr (rfl : KT F F) hT73), (KO.tr (rfl : KO F F) hO73), trivial⟩
  have l_77 : (35 : Int32).toInt = 35 := rfl
  have e_78 := mt i_eq.mpr (show ¬ ((x1 &&& (127 : Int32)) = (35 : Int32)) from c_70)
  refine WP.ite (fun c_79 => ?_) (fun c_79 => ?_)
  · skip
    have l_80 : (51 : Int32).toInt = 51 := rfl
    have e_81 := i_eq.mp (show (x1 &&& (127 : Int32)) = (51 : Int32) from c_79)
    unfold cb_X0_does_228
    refine WP.bind (cs_X0_withRegister hfu x1 F G hI) ?_
    rintro r82 F82 G82 ⟨hI82, hT82, hO82, hp82⟩
    dsimp only
    have q_83 := hI.r 10 rfl
    have q_84 := hI82.r 10 rfl
    have e_85 : (F82 10).toInt = (F 10).toInt := hO82
    unfold cb_X0_does_233
    refine WP.ret ?_
    exact ⟨hI82, (KT.tr (rfl : KT F F) hT82), (KO.tr (rfl : KO F F) hO82), trivial⟩
  have l_86 : (51 : Int32).toInt = 51 := rfl
  have e_87 := mt i_eq.mpr (show ¬ ((x1 &&& (127 : Int32)) = (51 : Int32)) from c_79)
  refine WP.ite (fun c_88 => ?_) (fun c_88 => ?_)
  · skip
    have l_89 : (55 : Int32).toInt = 55 := rfl
    have e_90 := i_eq.mp (show (x1 &&& (127 : Int32)) = (55 : Int32) from c_88)
    unfold cb_X0_does_96
    have l_91 : (7 : Int32).toInt = 7 := rfl
    have q_93 := i_rng ((x1.toUInt32 >>> ((7 : Int32).toUInt32 &&& Int32.toUInt32 31)).toInt32)
    have l_94 : (31 : Int32).toInt = 31 := rfl
    have e_96 := i_and ((x1.toUInt32 >>> ((7 : Int32).toUInt32 &&& Int32.toUInt32 31)).toInt32) (m := 31) 5 (by decide) (by decide)
    have l_97 : (-4096 : Int32).toInt = -4096 := rfl
    have q_99 := i_rng (x1 &&& (-4096 : Int32))
    refine WP.bind (cs_X0_keep hfu (((x1.toUInt32 >>> ((7 : Int32).toUInt32 &&& Int32.toUInt32 31)).toInt32) &&& (31 : Int32)) (x1 &&& (-4096 : Int32)) F G hI) ?_
    rintro r100 F100 G100 ⟨hI100, hT100, hO100, hp100⟩
    dsimp only
    have q_101 := hI.r 10 rfl
    have q_102 := hI100.r 10 rfl
    have e_103 : (F100 10).toInt = (F 10).toInt := hO100
    unfold cb_X0_does_112
    refine WP.ret ?_
    exact ⟨hI100, (KT.tr (rfl : KT F F) hT100), (KO.tr (rfl : KO F F) hO100), trivial⟩
  have l_104 : (55 : Int32).toInt = 55 := rfl
  have e_105 := mt i_eq.mpr (show ¬ ((x1 &&& (127 : Int32)) = (55 : Int32)) from c_88)
  refine WP.ite (fun c_106 => ?_) (fun c_106 => ?_)
  · skip
    have l_107 : (99 : Int32).toInt = 99 := rfl
    have e_108 := i_eq.mp (show (x1 &&& (127 : Int32)) = (99 : Int32) from c_106)
    unfold cb_X0_does_204
    refine WP.bind (cs_X0_branch hfu x1 F G hI) ?_
    rintro r109 F109 G109 ⟨hI109, hT109, hO109, hp109⟩
    dsimp only
    have q_110 := hI.r 10 rfl
    have q_111 := hI109.r 10 rfl
    have e_112 : (F109 10).toInt = (F 10).toInt := hO109
    unfold cb_X0_does_209
    refine WP.ret ?_
    exact ⟨hI109, (KT.tr (rfl : KT F F) hT109), (KO.tr (rfl : KO F F) hO109), trivial⟩
  have l_113 : (99 : Int32).toInt = 99 := rfl
  have e_114 := mt i_eq.mpr (show ¬ ((x1 &&& (127 : Int32)) = (99 : Int32)) from c_106)
  refine WP.ite (fun c_115 => ?_) (fun c_115 => ?_)
  · skip
    have l_116 : (103 : Int32).toInt = 103 := rfl
    have e_117 := i_eq.mp (show (x1 &&& (127 : Int32)) = (103 : Int32) from c_115)
    unfold cb_X0_does_156
    have q_119 := i_rng ((x1.toUInt32 >>> ((15 : Int32).toUInt32 &&& Int32.toUInt32 31)).toInt32)
    have l_120 : (31 : Int32).toInt = 31 := rfl
    have e_122 := i_and ((x1.toUInt32 >>> ((15 : Int32).toUInt32 &&& Int32.toUInt32 31)).toInt32) (m := 31) 5 (by decide) (by decide)
    refine WP.ix (show vp_in (((x1.toUInt32 >>> ((15 : Int32).toUInt32 &&& Int32.toUInt32 31)).toInt32) &&& (31 : Int32)) 32 from vp_in_iff.mpr ⟨by omega, by omega⟩) ?_
    refine WP.ite (fun c_123 => ?_) (fun c_123 => ?_)
    · skip
      have l_124 : (12 : Int32).toInt = 12 := rfl
      have q_126 := i_rng ((x1.toUInt32 >>> ((12 : Int32).toUInt32 &&& Int32.toUInt32 31)).toInt32)
      have l_127 : (7 : Int32).toInt = 7 := rfl
      have e_129 := i_and ((x1.toUInt32 >>> ((12 : Int32).toUInt32 &&& Int32.toUInt32 31)).toInt32) (m := 7) 3 (by decide) (by decide)
      have l_130 : (0 : Int32).toInt = 0 := rfl
      have e_131 := i_eq.mp (show (((x1.toUInt32 >>> ((12 : Int32).toUInt32 &&& Int32.toUInt32 31)).toInt32) &&& (7 : Int32)) = (0 : Int32) from c_123)
      unfold cb_X0_does_187
      have q_133 := i_rng ((x1.toUInt32 >>> ((7 : Int32).toUInt32 &&& Int32.toUInt32 31)).toInt32)
      have e_135 := i_and ((x1.toUInt32 >>> ((7 : Int32).toUInt32 &&& Int32.toUInt32 31)).toInt32) (m := 31) 5 (by decide) (by decide)
      have q_136 := i_rng (G 1 (((x1.toUInt32 >>> ((15 : Int32).toUInt32 &&& Int32.toUInt32 31)).toInt32) &&& (31 : Int32)).toNatClampNeg)
      have l_137 : (20 : Int32).toInt = 20 := rfl
      have e_139 : ((x1 >>> ((20 : Int32) &&& 31))).toInt = x1.toInt / 1048576 := i_shr 20 (by decide)
      first | have e_140 : ((G 1 (((x1.toUInt32 >>> ((15 : Int32).toUInt32 &&& Int32.toUInt32 31)).toInt32) &&& (31 : Int32)).toNatClampNeg) + (x1 >>> ((20 : Int32) &&& 31))).toInt = (G 1 (((x1.toUInt32 >>> ((15 : Int32).toUInt32 &&& Int32.toUInt32 31)).toInt32) &&& (31 : Int32)).toNatClampNeg).toInt + ((x1 >>> ((20 : Int32) &&& 31)).toInt) := i_addn (G 1 (((x1.toUInt32 >>> ((15 : Int32).toUInt32 &&& Int32.toUInt32 31)).toInt32) &&& (31 : Int32)).toNatClampNeg) rfl (by omega) (by omega) | have e_141 := i_rng ((G 1 (((x1.toUInt32 >>> ((15 : Int32).toUInt32 &&& Int32.toUInt32 31)).toInt32) &&& (31 : Int32)).toNatClampNeg) + (x1 >>> ((20 : Int32) &&& 31)))
      have l_142 : (-2 : Int32).toInt = -2 := rfl
      have q_144 := i_rng (((G 1 (((x1.toUInt32 >>> ((15 : Int32).toUInt32 &&& Int32.toUInt32 31)).toInt32) &&& (31 : Int32)).toNatClampNeg) + (x1 >>> ((20 : Int32) &&& 31))) &&& (-2 : Int32))
      refine WP.bind (cs_X0_link hfu (((x1.toUInt32 >>> ((7 : Int32).toUInt32 &&& Int32.toUInt32 31)).toInt32) &&& (31 : Int32)) (((G 1 (((x1.toUInt32 >>> ((15 : Int32).toUInt32 &&& Int32.toUInt32 31)).toInt32) &&& (31 : Int32)).toNatClampNeg) + (x1 >>> ((20 : Int32) &&& 31))) &&& (-2 : Int32)) F G hI) ?_
      rintro r145 F145 G145 ⟨hI145, hT145, hO145, hp145⟩
      dsimp only
      have q_146 := hI.r 10 rfl
      have q_147 := hI145.r 10 rfl
      have e_148 : (F145 10).toInt = (F 10).toInt := hO145
      unfold cb_X0_does_199
      unfold cb_X0_does_203
      refine WP.ret ?_
      exact ⟨hI145, (KT.tr (rfl : KT F F) hT145), (KO.tr (rfl : KO F F) hO145), trivial⟩
    · skip
      have l_149 : (12 : Int32).toInt = 12 := rfl
      have q_151 := i_rng ((x1.toUInt32 >>> ((12 : Int32).toUInt32 &&& Int32.toUInt32 31)).toInt32)
      have l_152 : (7 : Int32).toInt = 7 := rfl
      have e_154 := i_and ((x1.toUInt32 >>> ((12 : Int32).toUInt32 &&& Int32.toUInt32 31)).toInt32) (m := 7) 3 (by decide) (by decide)
      have l_155 : (0 : Int32).toInt = 0 := rfl
      have e_156 := mt i_eq.mpr (show ¬ ((((x1.toUInt32 >>> ((12 : Int32).toUInt32 &&& Int32.toUInt32 31)).toInt32) &&& (7 : Int32)) = (0 : Int32)) from c_123)
      unfold cb_X0_does_202
      unfold cb_X0_does_203
      refine WP.ret ?_
      exact ⟨hI, (rfl : KT F F), (rfl : KO F F), trivial⟩
  have l_157 : (103 : Int32).toInt = 103 := rfl
  have e_158 := mt i_eq.mpr (show ¬ ((x1 &&& (127 : Int32)) = (103 : Int32)) from c_115)
  refine WP.ite (fun c_159 => ?_) (fun c_159 => ?_)
  · skip
    have l_160 : (111 : Int32).toInt = 111 := rfl
    have e_161 := i_eq.mp (show (x1 &&& (127 : Int32)) = (111 : Int32) from c_159)
    unfold cb_X0_does_135
    refine WP.bind (cs_X0_offsetJ hfu x1 F G hI) ?_
    rintro r162 _ _ ⟨rfl, rfl, hp162⟩
    dsimp only
    unfold cb_X0_does_151
    have l_163 : (7 : Int32).toInt = 7 := rfl
    have q_165 := i_rng ((x1.toUInt32 >>> ((7 : Int32).toUInt32 &&& Int32.toUInt32 31)).toInt32)
    have l_166 : (31 : Int32).toInt = 31 := rfl
    have e_168 := i_and ((x1.toUInt32 >>> ((7 : Int32).toUInt32 &&& Int32.toUInt32 31)).toInt32) (m := 31) 5 (by decide) (by decide)
    have q_169 := i_rng (F 2)
    have q_170 := i_rng r162
    first | have e_171 : ((F 2) + r162).toInt = (F 2).toInt + (r162.toInt) := i_addn (F 2) rfl (by omega) (by omega) | have e_172 := i_rng ((F 2) + r162)
    refine WP.bind (cs_X0_link hfu (((x1.toUInt32 >>> ((7 : Int32).toUInt32 &&& Int32.toUInt32 31)).toInt32) &&& (31 : Int32)) ((F 2) + r162) F G hI) ?_
    rintro r173 F173 G173 ⟨hI173, hT173, hO173, hp173⟩
    dsimp only
    have q_174 := hI.r 10 rfl
    have q_175 := hI173.r 10 rfl
    have e_176 : (F173 10).toInt = (F 10).toInt := hO173
    unfold cb_X0_does_155
    refine WP.ret ?_
    exact ⟨hI173, (KT.tr (rfl : KT F F) hT173), (KO.tr (rfl : KO F F) hO173), trivial⟩
  have l_177 : (111 : Int32).toInt = 111 := rfl
  have e_178 := mt i_eq.mpr (show ¬ ((x1 &&& (127 : Int32)) = (111 : Int32)) from c_159)
  unfold cb_X0_does_250
  refine WP.ite (fun c_179 => ?_) (fun c_179 => ?_)
  · skip
    have l_180 : (115 : Int32).toInt = 115 := rfl
    have e_181 := i_eq.mp (show x1 = (115 : Int32) from c_179)
    unfold cb_X0_does_256
    unfold cb_X0_does_273
    refine WP.ret ?_
    exact ⟨hI, (rfl : KT F F), (rfl : KO F F), trivial⟩
  · skip
    have l_182 : (115 : Int32).toInt = 115 := rfl
    have e_183 := mt i_eq.mpr (show ¬ (x1 = (115 : Int32)) from c_179)
    unfold cb_X0_does_261
    refine WP.ite (fun c_184 => ?_) (fun c_184 => ?_)
    · skip
      have l_185 : (1048691 : Int32).toInt = 1048691 := rfl
      have e_186 := i_eq.mp (show x1 = (1048691 : Int32) from c_184)
      unfold cb_X0_does_267
      unfold cb_X0_does_273
      refine WP.ret ?_
      exact ⟨hI, (rfl : KT F F), (rfl : KO F F), trivial⟩
    · skip
      have l_187 : (1048691 : Int32).toInt = 1048691 := rfl
      have e_188 := mt i_eq.mpr (show ¬ (x1 = (1048691 : Int32)) from c_184)
      unfold cb_X0_does_272
      unfold cb_X0_does_273
      refine WP.ret ?_
      exact ⟨hI, (rfl : KT F F), (rfl : KO F F), trivial⟩
theorem cs_X0_doWord {fu : Nat} (hfu : 8589934592 ≤ fu) (F : PF) (G : PG) (hI : CI F G) : WP (cf_X0_doWord fu F G) (fun r' F' G' => CI F' G' ∧ KT F F' ∧ KO F F' ∧ True) := by
  unfold cf_X0_doWord
  unfold cb_X0_doWord_0
  refine WP.ite (fun c_1 => ?_) (fun c_1 => ?_)
  · skip
    have q_2 := i_rng (F 2)
    have l_3 : (3 : Int32).toInt = 3 := rfl
    have e_5 := i_and (F 2) (m := 3) 2 (by decide) (by decide)
    have l_6 : (0 : Int32).toInt = 0 := rfl
    have e_7 := i_eq.mp (show ((F 2) &&& (3 : Int32)) = (0 : Int32) from c_1)
    unfold cb_X0_doWord_9
    refine WP.ite (fun c_8 => ?_) (fun c_8 => ?_)
    · skip
      have e_9 := i_lt.mp (show (F 2) < (0 : Int32) from c_8)
      unfold cb_X0_doWord_26
      refine WP.ret ?_
      exact ⟨hI, (rfl : KT F F), (rfl : KO F F), trivial⟩
    · skip
      have e_10 := mt i_lt.mpr (show ¬ ((F 2) < (0 : Int32)) from c_8)
      unfold cb_X0_doWord_16
      refine WP.ite (fun c_11 => ?_) (fun c_11 => ?_)
      · skip
        have l_12 : (16384 : Int32).toInt = 16384 := rfl
        have e_13 := i_lt.mp (show (F 2) < (16384 : Int32) from c_11)
        unfold cb_X0_doWord_28
        have l_14 : (2 : Int32).toInt = 2 := rfl
        have e_16 : (((F 2) >>> ((2 : Int32) &&& 31))).toInt = (F 2).toInt / 4 := i_shr 2 (by decide)
        refine WP.ix (show vp_in ((F 2) >>> ((2 : Int32) &&& 31)) 4096 from vp_in_iff.mpr ⟨by omega, by omega⟩) ?_
        first | have e_17 : ((F 2) + (4 : Int32)).toInt = (F 2).toInt + (4) := i_addn (F 2) rfl (by omega) (by omega) | have e_18 := i_rng ((F 2) + (4 : Int32))
        have j_19 : CI (fup F 4 ((F 2) + (4 : Int32))) G := CI.fr rfl hI
        unfold cb_X0_doWord_50
        have q_20 := i_rng (G 0 ((F 2) >>> ((2 : Int32) &&& 31)).toNatClampNeg)
        refine WP.bind (cs_X0_does hfu (G 0 ((F 2) >>> ((2 : Int32) &&& 31)).toNatClampNeg) (fup F 4 ((F 2) + (4 : Int32))) G j_19) ?_
        rintro r21 F21 G21 ⟨hI21, hT21, hO21, hp21⟩
        dsimp only
        have q_22 := hI.r 10 rfl
        have q_23 := hI21.r 10 rfl
        have e_24 : (F21 10).toInt = (F 10).toInt := hO21
        unfold cb_X0_doWord_55
        refine WP.ite (fun c_25 => ?_) (fun c_25 => ?_)
        · skip
          have q_26 := i_rng r21
          have e_27 := i_eq.mp (show r21 = (0 : Int32) from c_25)
          unfold cb_X0_doWord_72
          have q_28 := i_rng (F21 4)
          have j_29 : CI (fup F21 2 (F21 4)) G21 := CI.fr rfl hI21
          unfold cb_X0_doWord_80
          have q_30 := i_rng (F21 3)
          first | have e_31 : ((F21 3) + (1 : Int32)).toInt = (F21 3).toInt + (1) := i_addn (F21 3) rfl (by omega) (by omega) | have e_32 := i_rng ((F21 3) + (1 : Int32))
          have j_33 : CI (fup (fup F21 2 (F21 4)) 3 ((F21 3) + (1 : Int32))) G21 := CI.fr rfl j_29
          unfold cb_X0_doWord_90
          refine WP.ret ?_
          exact ⟨j_33, (KT.f (by decide) (KT.f (by decide) (KT.tr (KT.f (by decide) (rfl : KT F F)) hT21))), (KO.f (by decide) (KO.f (by decide) (KO.tr (KO.f (by decide) (rfl : KO F F)) hO21))), trivial⟩
        · skip
          have q_34 := i_rng r21
          have e_35 := mt i_eq.mpr (show ¬ (r21 = (0 : Int32)) from c_25)
          unfold cb_X0_doWord_60
          refine WP.ite (fun c_36 => ?_) (fun c_36 => ?_)
          · skip
            have l_37 : (6 : Int32).toInt = 6 := rfl
            have e_38 := i_eq.mp (show r21 = (6 : Int32) from c_36)
            unfold cb_X0_doWord_72
            have q_39 := i_rng (F21 4)
            have j_40 : CI (fup F21 2 (F21 4)) G21 := CI.fr rfl hI21
            unfold cb_X0_doWord_80
            have q_41 := i_rng (F21 3)
            first | have e_42 : ((F21 3) + (1 : Int32)).toInt = (F21 3).toInt + (1) := i_addn (F21 3) rfl (by omega) (by omega) | have e_43 := i_rng ((F21 3) + (1 : Int32))
            have j_44 : CI (fup (fup F21 2 (F21 4)) 3 ((F21 3) + (1 : Int32))) G21 := CI.fr rfl j_40
            unfold cb_X0_doWord_90
            refine WP.ret ?_
            exact ⟨j_44, (KT.f (by decide) (KT.f (by decide) (KT.tr (KT.f (by decide) (rfl : KT F F)) hT21))), (KO.f (by decide) (KO.f (by decide) (KO.tr (KO.f (by decide) (rfl : KO F F)) hO21))), trivial⟩
          · skip
            have l_45 : (6 : Int32).toInt = 6 := rfl
            have e_46 := mt i_eq.mpr (show ¬ (r21 = (6 : Int32)) from c_36)
            unfold cb_X0_doWord_66
            refine WP.ite (fun c_47 => ?_) (fun c_47 => ?_)
            · skip
              have l_48 : (7 : Int32).toInt = 7 := rfl
              have e_49 := i_eq.mp (show r21 = (7 : Int32) from c_47)
              unfold cb_X0_doWord_72
              have q_50 := i_rng (F21 4)
              have j_51 : CI (fup F21 2 (F21 4)) G21 := CI.fr rfl hI21
              unfold cb_X0_doWord_80
              have q_52 := i_rng (F21 3)
              first | have e_53 : ((F21 3) + (1 : Int32)).toInt = (F21 3).toInt + (1) := i_addn (F21 3) rfl (by omega) (by omega) | have e_54 := i_rng ((F21 3) + (1 : Int32))
              have j_55 : CI (fup (fup F21 2 (F21 4)) 3 ((F21 3) + (1 : Int32))) G21 := CI.fr rfl j_51
              unfold cb_X0_doWord_90
              refine WP.ret ?_
              exact ⟨j_55, (KT.f (by decide) (KT.f (by decide) (KT.tr (KT.f (by decide) (rfl : KT F F)) hT21))), (KO.f (by decide) (KO.f (by decide) (KO.tr (KO.f (by decide) (rfl : KO F F)) hO21))), trivial⟩
            · skip
              have l_56 : (7 : Int32).toInt = 7 := rfl
              have e_57 := mt i_eq.mpr (show ¬ (r21 = (7 : Int32)) from c_47)
              unfold cb_X0_doWord_90
              refine WP.ret ?_
              exact ⟨hI21, (KT.tr (KT.f (by decide) (rfl : KT F F)) hT21), (KO.tr (KO.f (by decide) (rfl : KO F F)) hO21), trivial⟩
      · skip
        have l_58 : (16384 : Int32).toInt = 16384 := rfl
        have e_59 := mt i_lt.mpr (show ¬ ((F 2) < (16384 : Int32)) from c_11)
        unfold cb_X0_doWord_26
        refine WP.ret ?_
        exact ⟨hI, (rfl : KT F F), (rfl : KO F F), trivial⟩
  · skip
    have q_60 := i_rng (F 2)
    have l_61 : (3 : Int32).toInt = 3 := rfl
    have e_63 := i_and (F 2) (m := 3) 2 (by decide) (by decide)
    have l_64 : (0 : Int32).toInt = 0 := rfl
    have e_65 := mt i_eq.mpr (show ¬ (((F 2) &&& (3 : Int32)) = (0 : Int32)) from c_1)
    unfold cb_X0_doWord_26
    refine WP.ret ?_
    exact ⟨hI, (rfl : KT F F), (rfl : KO F F), trivial⟩
theorem cz_X0_doWords_4 {fu : Nat} (hfu : 8589934592 ≤ fu) {F0 : PF} {G0 : PG} : ∀ (n : Nat) (x1 : Int32) (x2 : Int32) (x3 : Int32) (F : PF) (G : PG) (hI : CI F G) (hT : KT F0 F) (hO : KO F0 F) (hn : (2147483647 - x3.toInt).toNat < n), WP (cl_X0_doWords_4 fu n x1 x2 x3 F G) (fun r' F' G' => CI F' G' ∧ KT F0 F' ∧ KO F0 F' ∧ True) := by
  intro n
  induction n with
  | zero =>
    intro x1 x2 x3 F G hI hT hO hn
    exact absurd hn (Nat.not_lt_zero _)
  | succ n ihn =>
    intro x1 x2 x3 F G hI hT hO hn
    show WP (cb_X0_doWords_4 fu (cl_X0_doWords_4 fu n)  x1 x2 x3 F G) _
    unfold cb_X0_doWords_4
    refine WP.ite (fun c_1 => ?_) (fun c_1 => ?_)
    · skip
      have q_2 := i_rng x1
      have q_3 := i_rng x3
      have e_4 := i_le.mp (show x1 ≤ x3 from c_1)
      unfold cb_X0_doWords_24
      refine WP.ret ?_
      exact ⟨hI, hT, hO, trivial⟩
    · skip
      have q_5 := i_rng x1
      have q_6 := i_rng x3
      have e_7 := mt i_le.mpr (show ¬ (x1 ≤ x3) from c_1)
      unfold cb_X0_doWords_9
      refine WP.ite (fun c_8 => ?_) (fun c_8 => ?_)
      · skip
        have q_9 := i_rng x2
        have l_10 : (0 : Int32).toInt = 0 := rfl
        have e_11 := i_eq.mp (show x2 = (0 : Int32) from c_8)
        unfold cb_X0_doWords_13
        refine WP.bind (cs_X0_doWord hfu F G hI) ?_
        rintro r12 F12 G12 ⟨hI12, hT12, hO12, hp12⟩
        dsimp only
        have q_13 := hI.r 10 rfl
        have q_14 := hI12.r 10 rfl
        have e_15 : (F12 10).toInt = (F 10).toInt := hO12
        unfold cb_X0_doWords_17
        have q_16 := i_rng r12
        first | have e_17 : (x3 + (1 : Int32)).toInt = x3.toInt + (1) := i_addn x3 rfl (by omega) (by omega) | have e_18 := i_rng (x3 + (1 : Int32))
        exact ihn x1 r12 (x3 + (1 : Int32)) F12 G12 hI12 (KT.tr hT hT12) (KO.tr hO hO12) (by omega)
      · skip
        have q_19 := i_rng x2
        have l_20 : (0 : Int32).toInt = 0 := rfl
        have e_21 := mt i_eq.mpr (show ¬ (x2 = (0 : Int32)) from c_8)
        unfold cb_X0_doWords_24
        refine WP.ret ?_
        exact ⟨hI, hT, hO, trivial⟩
theorem cs_X0_doWords {fu : Nat} (hfu : 8589934592 ≤ fu) (x1 : Int32) (F : PF) (G : PG) (hI : CI F G) : WP (cf_X0_doWords fu x1 F G) (fun r' F' G' => CI F' G' ∧ KT F F' ∧ KO F F' ∧ True) := by
  unfold cf_X0_doWords
  unfold cb_X0_doWords_0
  have q_1 := i_rng x1
  have l_2 : (0 : Int32).toInt = 0 := rfl
  exact cz_X0_doWords_4 (F0 := F) (G0 := G) hfu fu x1 (0 : Int32) (0 : Int32) F G hI (rfl : KT F F) (rfl : KO F F) (by omega)
theorem cs_X1_add {fu : Nat} (hfu : 8589934592 ≤ fu) (x1 : Int32) (F : PF) (G : PG) (hI : CI F G) : WP (cf_X1_add fu x1 F G) (fun r' F' G' => CI F' G' ∧ KB F G F' G' ∧ KT F F' ∧ KO F F' ∧ KK F F' ∧ (F' 21 = F 21)) := by
  unfold cf_X1_add
  unfold cb_X1_add_0
  refine WP.ite (fun c_1 => ?_) (fun c_1 => ?_)
  · skip
    have q_2 := hI.r 7 rfl
    have l_3 : (0 : Int32).toInt = 0 := rfl
    have e_4 := i_eq.mp (show (F 7) = (0 : Int32) from c_1)
    unfold cb_X1_add_37
    refine WP.ret ?_
    exact ⟨hI, (KB.rf : KB F G F G), (rfl : KT F F), (rfl : KO F F), (rfl : KK F F), (show (F 21) = F 21 from rfl)⟩
  · skip
    have q_5 := hI.r 7 rfl
    have l_6 : (0 : Int32).toInt = 0 := rfl
    have e_7 := mt i_eq.mpr (show ¬ ((F 7) = (0 : Int32)) from c_1)
    unfold cb_X1_add_7
    refine WP.ite (fun c_8 => ?_) (fun c_8 => ?_)
    · skip
      have l_9 : (8400 : Int32).toInt = 8400 := rfl
      have q_10 := hI.r 6 rfl
      have e_11 := i_le.mp (show (8400 : Int32) ≤ (F 6) from c_8)
      unfold cb_X1_add_37
      refine WP.ret ?_
      exact ⟨hI, (KB.rf : KB F G F G), (rfl : KT F F), (rfl : KO F F), (rfl : KK F F), (show (F 21) = F 21 from rfl)⟩
    · skip
      have l_12 : (8400 : Int32).toInt = 8400 := rfl
      have q_13 := hI.r 6 rfl
      have e_14 := mt i_le.mpr (show ¬ ((8400 : Int32) ≤ (F 6)) from c_8)
      unfold cb_X1_add_17
      refine WP.ix (show vp_in (F 6) 8400 from vp_in_iff.mpr ⟨by omega, by omega⟩) ?_
      have j_15 : CI F (gup G 5 (F 6).toNatClampNeg x1) := CI.g (by decide) hI
      unfold cb_X1_add_27
      first | have e_16 : ((F 6) + (1 : Int32)).toInt = (F 6).toInt + (1) := i_addn (F 6) rfl (by omega) (by omega) | have e_17 := i_rng ((F 6) + (1 : Int32))
      have j_18 : CI (fup F 6 ((F 6) + (1 : Int32))) (gup G 5 (F 6).toNatClampNeg x1) := CI.rg (k := 6) (x := ((F 6) + (1 : Int32))) rfl (by decide) (by decide) j_15 ⟨by omega, by omega⟩
      unfold cb_X1_add_37
      refine WP.ret ?_
      exact ⟨j_18, (KB.f (by decide) (KB.g (by decide) (KB.rf : KB F G F G))), (KT.f (by decide) (rfl : KT F F)), (KO.f (by decide) (rfl : KO F F)), (KK.f (by decide) (rfl : KK F F)), (show (F 21) = F 21 from rfl)⟩
theorem cs_X1_addPair {fu : Nat} (hfu : 8589934592 ≤ fu) (x1 : Int32) (x2 : Int32) (F : PF) (G : PG) (hI : CI F G) : WP (cf_X1_addPair fu x1 x2 F G) (fun r' F' G' => CI F' G' ∧ KB F G F' G' ∧ KT F F' ∧ KO F F' ∧ KK F F' ∧ True) := by
  unfold cf_X1_addPair
  unfold cb_X1_addPair_0
  refine WP.ite (fun c_1 => ?_) (fun c_1 => ?_)
  · skip
    have q_2 := hI.r 7 rfl
    have l_3 : (0 : Int32).toInt = 0 := rfl
    have e_4 := i_eq.mp (show (F 7) = (0 : Int32) from c_1)
    unfold cb_X1_addPair_49
    refine WP.ret ?_
    exact ⟨hI, (KB.rf : KB F G F G), (rfl : KT F F), (rfl : KO F F), (rfl : KK F F), trivial⟩
  · skip
    have q_5 := hI.r 7 rfl
    have l_6 : (0 : Int32).toInt = 0 := rfl
    have e_7 := mt i_eq.mpr (show ¬ ((F 7) = (0 : Int32)) from c_1)
    unfold cb_X1_addPair_7
    refine WP.ite (fun c_8 => ?_) (fun c_8 => ?_)
    · skip
      have l_9 : (8399 : Int32).toInt = 8399 := rfl
      have q_10 := hI.r 6 rfl
      have e_11 := i_le.mp (show (8399 : Int32) ≤ (F 6) from c_8)
      unfold cb_X1_addPair_49
      refine WP.ret ?_
      exact ⟨hI, (KB.rf : KB F G F G), (rfl : KT F F), (rfl : KO F F), (rfl : KK F F), trivial⟩
    · skip
      have l_12 : (8399 : Int32).toInt = 8399 := rfl
      have q_13 := hI.r 6 rfl
      have e_14 := mt i_le.mpr (show ¬ ((8399 : Int32) ≤ (F 6)) from c_8)
      unfold cb_X1_addPair_17
      refine WP.ix (show vp_in (F 6) 8400 from vp_in_iff.mpr ⟨by omega, by omega⟩) ?_
      have j_15 : CI F (gup G 5 (F 6).toNatClampNeg x1) := CI.g (by decide) hI
      unfold cb_X1_addPair_27
      first | have e_16 : ((F 6) + (1 : Int32)).toInt = (F 6).toInt + (1) := i_addn (F 6) rfl (by omega) (by omega) | have e_17 := i_rng ((F 6) + (1 : Int32))
      refine WP.ix (show vp_in ((F 6) + (1 : Int32)) 8400 from vp_in_iff.mpr ⟨by omega, by omega⟩) ?_
      have j_18 : CI F (gup (gup G 5 (F 6).toNatClampNeg x1) 5 ((F 6) + (1 : Int32)).toNatClampNeg x2) := CI.g (by decide) j_15
      unfold cb_X1_addPair_39
      first | have e_19 : ((F 6) + (2 : Int32)).toInt = (F 6).toInt + (2) := i_addn (F 6) rfl (by omega) (by omega) | have e_20 := i_rng ((F 6) + (2 : Int32))
      have j_21 : CI (fup F 6 ((F 6) + (2 : Int32))) (gup (gup G 5 (F 6).toNatClampNeg x1) 5 ((F 6) + (1 : Int32)).toNatClampNeg x2) := CI.rg (k := 6) (x := ((F 6) + (2 : Int32))) rfl (by decide) (by decide) j_18 ⟨by omega, by omega⟩
      unfold cb_X1_addPair_49
      refine WP.ret ?_
      exact ⟨j_21, (KB.f (by decide) (KB.g (by decide) (KB.g (by decide) (KB.rf : KB F G F G)))), (KT.f (by decide) (rfl : KT F F)), (KO.f (by decide) (rfl : KO F F)), (KK.f (by decide) (rfl : KK F F)), trivial⟩
theorem cs_X1_addJump {fu : Nat} (hfu : 8589934592 ≤ fu) (x1 : Int32) (x2 : Int32) (F : PF) (G : PG) (hI : CI F G) : WP (cf_X1_addJump fu x1 x2 F G) (fun r' F' G' => CI F' G' ∧ KB F G F' G' ∧ KT F F' ∧ KO F F' ∧ KK F F' ∧ (F' 21 = F 21)) := by
  unfold cf_X1_addJump
  unfold cb_X1_addJump_0
  refine WP.ite (fun c_1 => ?_) (fun c_1 => ?_)
  · skip
    have q_2 := hI.r 7 rfl
    have l_3 : (0 : Int32).toInt = 0 := rfl
    have e_4 := i_eq.mp (show (F 7) = (0 : Int32) from c_1)
    unfold cb_X1_addJump_17
    refine WP.ret ?_
    exact ⟨hI, (KB.rf : KB F G F G), (rfl : KT F F), (rfl : KO F F), (rfl : KK F F), (show (F 21) = F 21 from rfl)⟩
  · skip
    have q_5 := hI.r 7 rfl
    have l_6 : (0 : Int32).toInt = 0 := rfl
    have e_7 := mt i_eq.mpr (show ¬ ((F 7) = (0 : Int32)) from c_1)
    unfold cb_X1_addJump_7
    refine WP.ite (fun c_8 => ?_) (fun c_8 => ?_)
    · skip
      have q_9 := hI.r 6 rfl
      have l_10 : (8399 : Int32).toInt = 8399 := rfl
      have e_11 := i_lt.mp (show (F 6) < (8399 : Int32) from c_8)
      unfold cb_X1_addJump_19
      refine WP.ix (show vp_in (F 6) 8400 from vp_in_iff.mpr ⟨by omega, by omega⟩) ?_
      have j_12 : CI F (gup G 5 (F 6).toNatClampNeg x1) := CI.g (by decide) hI
      unfold cb_X1_addJump_29
      first | have e_13 : ((F 6) + (1 : Int32)).toInt = (F 6).toInt + (1) := i_addn (F 6) rfl (by omega) (by omega) | have e_14 := i_rng ((F 6) + (1 : Int32))
      refine WP.ix (show vp_in ((F 6) + (1 : Int32)) 8400 from vp_in_iff.mpr ⟨by omega, by omega⟩) ?_
      have j_15 : CI F (gup (gup G 5 (F 6).toNatClampNeg x1) 5 ((F 6) + (1 : Int32)).toNatClampNeg x2) := CI.g (by decide) j_12
      unfold cb_X1_addJump_41
      first | have e_16 : ((F 6) + (2 : Int32)).toInt = (F 6).toInt + (2) := i_addn (F 6) rfl (by omega) (by omega) | have e_17 := i_rng ((F 6) + (2 : Int32))
      have j_18 : CI (fup F 6 ((F 6) + (2 : Int32))) (gup (gup G 5 (F 6).toNatClampNeg x1) 5 ((F 6) + (1 : Int32)).toNatClampNeg x2) := CI.rg (k := 6) (x := ((F 6) + (2 : Int32))) rfl (by decide) (by decide) j_15 ⟨by omega, by omega⟩
      unfold cb_X1_addJump_51
      refine WP.ret ?_
      exact ⟨j_18, (KB.f (by decide) (KB.g (by decide) (KB.g (by decide) (KB.rf : KB F G F G)))), (KT.f (by decide) (rfl : KT F F)), (KO.f (by decide) (rfl : KO F F)), (KK.f (by decide) (rfl : KK F F)), (show (F 21) = F 21 from rfl)⟩
    · skip
      have q_19 := hI.r 6 rfl
      have l_20 : (8399 : Int32).toInt = 8399 := rfl
      have e_21 := mt i_lt.mpr (show ¬ ((F 6) < (8399 : Int32)) from c_8)
      unfold cb_X1_addJump_17
      refine WP.ret ?_
      exact ⟨hI, (KB.rf : KB F G F G), (rfl : KT F F), (rfl : KO F F), (rfl : KK F F), (show (F 21) = F 21 from rfl)⟩
theorem cz_X1_aim_5 {fu : Nat} (hfu : 8589934592 ≤ fu) {F0 : PF} {G0 : PG} : ∀ (n : Nat) (x2 : Int32) (x3 : Int32) (x4 : Int32) (F : PF) (G : PG) (hI : CI F G) (hB : KB F0 G0 F G) (hT : KT F0 F) (hO : KO F0 F) (hK : KK F0 F) (hn : (2147483647 - x4.toInt).toNat < n), WP (cl_X1_aim_5 fu n x2 x3 x4 F G) (fun r' F' G' => CI F' G' ∧ KB F0 G0 F' G' ∧ KT F0 F' ∧ KO F0 F' ∧ KK F0 F' ∧ True) := by
  intro n
  induction n with
  | zero =>
    intro x2 x3 x4 F G hI hB hT hO hK hn
    exact absurd hn (Nat.not_lt_zero _)
  | succ n ihn =>
    intro x2 x3 x4 F G hI hB hT hO hK hn
    show WP (cb_X1_aim_5 fu (cl_X1_aim_5 fu n)  x2 x3 x4 F G) _
    unfold cb_X1_aim_5
    refine WP.ite (fun c_1 => ?_) (fun c_1 => ?_)
    · skip
      have l_2 : (8400 : Int32).toInt = 8400 := rfl
      have q_3 := i_rng x4
      have e_4 := i_le.mp (show (8400 : Int32) ≤ x4 from c_1)
      unfold cb_X1_aim_49
      refine WP.ret ?_
      exact ⟨hI, hB, hT, hO, hK, trivial⟩
    · skip
      have l_5 : (8400 : Int32).toInt = 8400 := rfl
      have q_6 := i_rng x4
      have e_7 := mt i_le.mpr (show ¬ ((8400 : Int32) ≤ x4) from c_1)
      unfold cb_X1_aim_13
      refine WP.ite (fun c_8 => ?_) (fun c_8 => ?_)
      · skip
        have q_9 := i_rng x3
        have l_10 : (0 : Int32).toInt = 0 := rfl
        have e_11 := i_lt.mp (show x3 < (0 : Int32) from c_8)
        unfold cb_X1_aim_49
        refine WP.ret ?_
        exact ⟨hI, hB, hT, hO, hK, trivial⟩
      · skip
        have q_12 := i_rng x3
        have l_13 : (0 : Int32).toInt = 0 := rfl
        have e_14 := mt i_lt.mpr (show ¬ (x3 < (0 : Int32)) from c_8)
        unfold cb_X1_aim_17
        refine WP.ite (fun c_15 => ?_) (fun c_15 => ?_)
        · skip
          have q_16 := hI.r 6 rfl
          have e_17 := i_le.mp (show (F 6) ≤ x3 from c_15)
          unfold cb_X1_aim_49
          refine WP.ret ?_
          exact ⟨hI, hB, hT, hO, hK, trivial⟩
        · skip
          have q_18 := hI.r 6 rfl
          have e_19 := mt i_le.mpr (show ¬ ((F 6) ≤ x3) from c_15)
          unfold cb_X1_aim_25
          refine WP.ix (show vp_in x3 8400 from vp_in_iff.mpr ⟨by omega, by omega⟩) ?_
          refine WP.ix (show vp_in x3 8400 from vp_in_iff.mpr ⟨by omega, by omega⟩) ?_
          have j_20 : CI F (gup G 5 x3.toNatClampNeg x2) := CI.g (by decide) hI
          unfold cb_X1_aim_40
          have q_21 := i_rng x2
          have q_22 := i_rng (G 5 x3.toNatClampNeg)
          first | have e_23 : (x4 + (1 : Int32)).toInt = x4.toInt + (1) := i_addn x4 rfl (by omega) (by omega) | have e_24 := i_rng (x4 + (1 : Int32))
          exact ihn x2 (G 5 x3.toNatClampNeg) (x4 + (1 : Int32)) F (gup G 5 x3.toNatClampNeg x2) j_20 (KB.g (by decide) hB) hT hO hK (by omega)
theorem cs_X1_aim {fu : Nat} (hfu : 8589934592 ≤ fu) (x1 : Int32) (x2 : Int32) (F : PF) (G : PG) (hI : CI F G) : WP (cf_X1_aim fu x1 x2 F G) (fun r' F' G' => CI F' G' ∧ KB F G F' G' ∧ KT F F' ∧ KO F F' ∧ KK F F' ∧ True) := by
  unfold cf_X1_aim
  unfold cb_X1_aim_0
  have q_1 := i_rng x2
  have q_2 := i_rng x1
  have l_3 : (0 : Int32).toInt = 0 := rfl
  exact cz_X1_aim_5 (F0 := F) (G0 := G) hfu fu x2 x1 (0 : Int32) F G hI (KB.rf : KB F G F G) (rfl : KT F F) (rfl : KO F F) (rfl : KK F F) (by omega)
theorem cs_X1_cut {fu : Nat} (hfu : 8589934592 ≤ fu) (x1 : Int32) (F : PF) (G : PG) (hI : CI F G) : WP (cf_X1_cut fu x1 F G) (fun r' F' G' => CI F' G' ∧ KB F G F' G' ∧ KT F F' ∧ KO F F' ∧ KK F F' ∧ True) := by
  unfold cf_X1_cut
  unfold cb_X1_cut_0
  refine WP.ite (fun c_1 => ?_) (fun c_1 => ?_)
  · skip
    have q_2 := i_rng x1
    have l_3 : (0 : Int32).toInt = 0 := rfl
    have e_4 := i_lt.mp (show x1 < (0 : Int32) from c_1)
    unfold cb_X1_cut_17
    refine WP.ret ?_
    exact ⟨hI, (KB.rf : KB F G F G), (rfl : KT F F), (rfl : KO F F), (rfl : KK F F), trivial⟩
  · skip
    have q_5 := i_rng x1
    have l_6 : (0 : Int32).toInt = 0 := rfl
    have e_7 := mt i_lt.mpr (show ¬ (x1 < (0 : Int32)) from c_1)
    unfold cb_X1_cut_4
    refine WP.ite (fun c_8 => ?_) (fun c_8 => ?_)
    · skip
      have q_9 := hI.r 6 rfl
      have e_10 := i_le.mp (show (F 6) ≤ x1 from c_8)
      unfold cb_X1_cut_17
      refine WP.ret ?_
      exact ⟨hI, (KB.rf : KB F G F G), (rfl : KT F F), (rfl : KO F F), (rfl : KK F F), trivial⟩
    · skip
      have q_11 := hI.r 6 rfl
      have e_12 := mt i_le.mpr (show ¬ ((F 6) ≤ x1) from c_8)
      unfold cb_X1_cut_12
      have j_13 : CI (fup F 6 x1) G := CI.rg (k := 6) (x := x1) rfl (by decide) (by decide) hI ⟨by omega, by omega⟩
      unfold cb_X1_cut_17
      refine WP.ret ?_
      exact ⟨j_13, (KB.f (by decide) (KB.rf : KB F G F G)), (KT.f (by decide) (rfl : KT F F)), (KO.f (by decide) (rfl : KO F F)), (KK.f (by decide) (rfl : KK F F)), trivial⟩
theorem cs_X2_comeTo {fu : Nat} (hfu : 8589934592 ≤ fu) (x1 : Int32) (F : PF) (G : PG) (hI : CI F G) : WP (cf_X2_comeTo fu x1 F G) (fun r' F' G' => CI F' G' ∧ KB F G F' G' ∧ KT F F' ∧ KO F F' ∧ True) := by
  unfold cf_X2_comeTo
  unfold cb_X2_comeTo_0
  refine WP.ite (fun c_1 => ?_) (fun c_1 => ?_)
  · skip
    have q_2 := i_rng x1
    have l_3 : (0 : Int32).toInt = 0 := rfl
    have e_4 := i_lt.mp (show x1 < (0 : Int32) from c_1)
    unfold cb_X2_comeTo_15
    refine WP.ret ?_
    exact ⟨hI, (KB.rf : KB F G F G), (rfl : KT F F), (rfl : KO F F), trivial⟩
  · skip
    have q_5 := i_rng x1
    have l_6 : (0 : Int32).toInt = 0 := rfl
    have e_7 := mt i_lt.mpr (show ¬ (x1 < (0 : Int32)) from c_1)
    unfold cb_X2_comeTo_4
    refine WP.ite (fun c_8 => ?_) (fun c_8 => ?_)
    · skip
      have q_9 := hI.r 93 rfl
      have e_10 := i_lt.mp (show x1 < (F 93) from c_8)
      unfold cb_X2_comeTo_16
      have j_11 : CI (fup F 9 x1) G := CI.fr rfl hI
      unfold cb_X2_comeTo_21
      refine WP.ix (show vp_in x1 4001 from vp_in_iff.mpr ⟨by omega, by omega⟩) ?_
      have q_12 := i_rng (G 90 x1.toNatClampNeg)
      have j_13 : CI (fup (fup F 9 x1) 11 (G 90 x1.toNatClampNeg)) G := CI.fr rfl j_11
      unfold cb_X2_comeTo_34
      refine WP.ix (show vp_in x1 4001 from vp_in_iff.mpr ⟨by omega, by omega⟩) ?_
      have q_14 := i_rng (G 91 x1.toNatClampNeg)
      have j_15 : CI (fup (fup (fup F 9 x1) 11 (G 90 x1.toNatClampNeg)) 12 (G 91 x1.toNatClampNeg)) G := CI.fr rfl j_13
      unfold cb_X2_comeTo_47
      refine WP.ix (show vp_in x1 4001 from vp_in_iff.mpr ⟨by omega, by omega⟩) ?_
      have q_16 := i_rng (G 92 x1.toNatClampNeg)
      have j_17 : CI (fup (fup (fup (fup F 9 x1) 11 (G 90 x1.toNatClampNeg)) 12 (G 91 x1.toNatClampNeg)) 13 (G 92 x1.toNatClampNeg)) G := CI.fr rfl j_15
      unfold cb_X2_comeTo_60
      refine WP.ite (fun c_18 => ?_) (fun c_18 => ?_)
      · skip
        have l_19 : (1 : Int32).toInt = 1 := rfl
        have e_20 := i_eq.mp (show (G 90 x1.toNatClampNeg) = (1 : Int32) from c_18)
        unfold cb_X2_comeTo_68
        have l_21 : (16 : Int32).toInt = 16 := rfl
        have q_23 := i_rng ((G 92 x1.toNatClampNeg) * (16 : Int32))
        first | have e_24 : (((G 92 x1.toNatClampNeg) * (16 : Int32)) + (1 : Int32)).toInt = ((G 92 x1.toNatClampNeg) * (16 : Int32)).toInt + (1) := i_addn ((G 92 x1.toNatClampNeg) * (16 : Int32)) rfl (by omega) (by omega) | have e_25 := i_rng (((G 92 x1.toNatClampNeg) * (16 : Int32)) + (1 : Int32))
        have j_26 : CI (fup (fup (fup (fup (fup F 9 x1) 11 (G 90 x1.toNatClampNeg)) 12 (G 91 x1.toNatClampNeg)) 13 (G 92 x1.toNatClampNeg)) 14 (((G 92 x1.toNatClampNeg) * (16 : Int32)) + (1 : Int32))) G := CI.fr rfl j_17
        unfold cb_X2_comeTo_81
        have l_27 : (-2 : Int32).toInt = -2 := rfl
        have j_28 : CI (fup (fup (fup (fup (fup (fup F 9 x1) 11 (G 90 x1.toNatClampNeg)) 12 (G 91 x1.toNatClampNeg)) 13 (G 92 x1.toNatClampNeg)) 14 (((G 92 x1.toNatClampNeg) * (16 : Int32)) + (1 : Int32))) 11 (-2 : Int32)) G := CI.fr rfl j_26
        unfold cb_X2_comeTo_87
        refine WP.ret ?_
        exact ⟨j_28, (KB.f (by decide) (KB.f (by decide) (KB.f (by decide) (KB.f (by decide) (KB.f (by decide) (KB.f (by decide) (KB.rf : KB F G F G))))))), (KT.f (by decide) (KT.f (by decide) (KT.f (by decide) (KT.f (by decide) (KT.f (by decide) (KT.f (by decide) (rfl : KT F F))))))), (KO.f (by decide) (KO.f (by decide) (KO.f (by decide) (KO.f (by decide) (KO.f (by decide) (KO.f (by decide) (rfl : KO F F))))))), trivial⟩
      · skip
        have l_29 : (1 : Int32).toInt = 1 := rfl
        have e_30 := mt i_eq.mpr (show ¬ ((G 90 x1.toNatClampNeg) = (1 : Int32)) from c_18)
        unfold cb_X2_comeTo_87
        refine WP.ret ?_
        exact ⟨j_17, (KB.f (by decide) (KB.f (by decide) (KB.f (by decide) (KB.f (by decide) (KB.rf : KB F G F G))))), (KT.f (by decide) (KT.f (by decide) (KT.f (by decide) (KT.f (by decide) (rfl : KT F F))))), (KO.f (by decide) (KO.f (by decide) (KO.f (by decide) (KO.f (by decide) (rfl : KO F F))))), trivial⟩
    · skip
      have q_31 := hI.r 93 rfl
      have e_32 := mt i_lt.mpr (show ¬ (x1 < (F 93)) from c_8)
      unfold cb_X2_comeTo_15
      refine WP.ret ?_
      exact ⟨hI, (KB.rf : KB F G F G), (rfl : KT F F), (rfl : KO F F), trivial⟩
theorem cs_X2_start {fu : Nat} (hfu : 8589934592 ≤ fu) (F : PF) (G : PG) (hI : CI F G) : WP (cf_X2_start fu F G) (fun r' F' G' => CI F' G' ∧ KB F G F' G' ∧ KT F F' ∧ ((F' 10).toInt = 0)) := by
  unfold cf_X2_start
  unfold cb_X2_start_0
  have l_1 : (0 : Int32).toInt = 0 := rfl
  have j_2 : CI (fup F 10 (0 : Int32)) G := CI.rg (k := 10) (x := (0 : Int32)) rfl (by decide) (by decide) hI ⟨by omega, by omega⟩
  unfold cb_X2_start_5
  have j_3 : CI (fup (fup F 10 (0 : Int32)) 14 (0 : Int32)) G := CI.fr rfl j_2
  unfold cb_X2_start_10
  refine WP.bind (cs_X2_comeTo hfu (0 : Int32) (fup (fup F 10 (0 : Int32)) 14 (0 : Int32)) G j_3) ?_
  rintro r4 F4 G4 ⟨hI4, hB4, hT4, hO4, hp4⟩
  dsimp only
  have q_5 := hI4.r 10 rfl
  have e_6 : (F4 10).toInt = (0 : Int32).toInt := hO4
  unfold cb_X2_start_15
  refine WP.ret ?_
  have q_7 := hI.r 10 rfl
  exact ⟨hI4, (KB.tr (KB.f (by decide) (KB.f (by decide) (KB.rf : KB F G F G))) hB4), (KT.tr (KT.f (by decide) (KT.f (by decide) (rfl : KT F F))) hT4), (show (F4 10).toInt = 0 by omega)⟩
theorem cs_X10_kind {fu : Nat} (hfu : 8589934592 ≤ fu) (x1 : Int32) (F : PF) (G : PG) (hI : CI F G) : WP (cf_X10_kind fu x1 F G) (fun r' F' G' => F = F' ∧ G = G' ∧ True) := by
  unfold cf_X10_kind
  unfold cb_X10_kind_0
  refine WP.ite (fun c_1 => ?_) (fun c_1 => ?_)
  · skip
    have q_2 := i_rng x1
    have l_3 : (0 : Int32).toInt = 0 := rfl
    have e_4 := i_lt.mp (show x1 < (0 : Int32) from c_1)
    unfold cb_X10_kind_12
    unfold cb_X10_kind_22
    refine WP.ret ?_
    exact ⟨rfl, rfl, trivial⟩
  · skip
    have q_5 := i_rng x1
    have l_6 : (0 : Int32).toInt = 0 := rfl
    have e_7 := mt i_lt.mpr (show ¬ (x1 < (0 : Int32)) from c_1)
    unfold cb_X10_kind_4
    refine WP.ite (fun c_8 => ?_) (fun c_8 => ?_)
    · skip
      have q_9 := hI.r 93 rfl
      have e_10 := i_lt.mp (show x1 < (F 93) from c_8)
      unfold cb_X10_kind_16
      refine WP.ix (show vp_in x1 4001 from vp_in_iff.mpr ⟨by omega, by omega⟩) ?_
      unfold cb_X10_kind_22
      refine WP.ret ?_
      exact ⟨rfl, rfl, trivial⟩
    · skip
      have q_11 := hI.r 93 rfl
      have e_12 := mt i_lt.mpr (show ¬ (x1 < (F 93)) from c_8)
      unfold cb_X10_kind_12
      unfold cb_X10_kind_22
      refine WP.ret ?_
      exact ⟨rfl, rfl, trivial⟩
theorem cs_X2_isNameAlone {fu : Nat} (hfu : 8589934592 ≤ fu) (F : PF) (G : PG) (hI : CI F G) : WP (cf_X2_isNameAlone fu F G) (fun r' F' G' => F = F' ∧ G = G' ∧ (r' = 0 ∨ r' = 1)) := by
  unfold cf_X2_isNameAlone
  unfold cb_X2_isNameAlone_0
  have q_1 := i_rng (F 9)
  first | have e_2 : ((F 9) + (1 : Int32)).toInt = (F 9).toInt + (1) := i_addn (F 9) rfl (by omega) (by omega) | have e_3 := i_rng ((F 9) + (1 : Int32))
  refine WP.bind (cs_X10_kind hfu ((F 9) + (1 : Int32)) F G hI) ?_
  rintro r4 _ _ ⟨rfl, rfl, hp4⟩
  dsimp only
  unfold cb_X2_isNameAlone_13
  refine WP.ite (fun c_5 => ?_) (fun c_5 => ?_)
  · skip
    have q_6 := i_rng (F 11)
    have l_7 : (2 : Int32).toInt = 2 := rfl
    have e_8 := i_eq.mp (show (F 11) = (2 : Int32) from c_5)
    unfold cb_X2_isNameAlone_22
    refine WP.ite (fun c_9 => ?_) (fun c_9 => ?_)
    · skip
      have q_10 := i_rng r4
      have l_11 : (25 : Int32).toInt = 25 := rfl
      have e_12 := i_eq.mp (show r4 = (25 : Int32) from c_9)
      unfold cb_X2_isNameAlone_34
      unfold cb_X2_isNameAlone_39
      have l_13 : (1 : Int32).toInt = 1 := rfl
      refine WP.bz (show (1 : Int32) = 0 ∨ (1 : Int32) = 1 from (by decide)) ?_
      refine WP.ret ?_
      exact ⟨rfl, rfl, (by decide)⟩
    · skip
      have q_14 := i_rng r4
      have l_15 : (25 : Int32).toInt = 25 := rfl
      have e_16 := mt i_eq.mpr (show ¬ (r4 = (25 : Int32)) from c_9)
      unfold cb_X2_isNameAlone_28
      refine WP.ite (fun c_17 => ?_) (fun c_17 => ?_)
      · skip
        have l_18 : (20 : Int32).toInt = 20 := rfl
        have e_19 := i_eq.mp (show r4 = (20 : Int32) from c_17)
        unfold cb_X2_isNameAlone_34
        unfold cb_X2_isNameAlone_39
        have l_20 : (1 : Int32).toInt = 1 := rfl
        refine WP.bz (show (1 : Int32) = 0 ∨ (1 : Int32) = 1 from (by decide)) ?_
        refine WP.ret ?_
        exact ⟨rfl, rfl, (by decide)⟩
      · skip
        have l_21 : (20 : Int32).toInt = 20 := rfl
        have e_22 := mt i_eq.mpr (show ¬ (r4 = (20 : Int32)) from c_17)
        unfold cb_X2_isNameAlone_38
        unfold cb_X2_isNameAlone_39
        have l_23 : (0 : Int32).toInt = 0 := rfl
        refine WP.bz (show (0 : Int32) = 0 ∨ (0 : Int32) = 1 from (by decide)) ?_
        refine WP.ret ?_
        exact ⟨rfl, rfl, (by decide)⟩
  · skip
    have q_24 := i_rng (F 11)
    have l_25 : (2 : Int32).toInt = 2 := rfl
    have e_26 := mt i_eq.mpr (show ¬ ((F 11) = (2 : Int32)) from c_5)
    unfold cb_X2_isNameAlone_38
    unfold cb_X2_isNameAlone_39
    have l_27 : (0 : Int32).toInt = 0 := rfl
    refine WP.bz (show (0 : Int32) = 0 ∨ (0 : Int32) = 1 from (by decide)) ?_
    refine WP.ret ?_
    exact ⟨rfl, rfl, (by decide)⟩
theorem cs_X2_next {fu : Nat} (hfu : 8589934592 ≤ fu) (F : PF) (G : PG) (hI : CI F G) : WP (cf_X2_next fu F G) (fun r' F' G' => CI F' G' ∧ KB F G F' G' ∧ KT F F' ∧ KO F F' ∧ True) := by
  unfold cf_X2_next
  unfold cb_X2_next_0
  refine WP.ite (fun c_1 => ?_) (fun c_1 => ?_)
  · skip
    have q_2 := i_rng (F 14)
    have l_3 : (0 : Int32).toInt = 0 := rfl
    have e_4 := i_eq.mp (show (F 14) = (0 : Int32) from c_1)
    unfold cb_X2_next_7
    have q_5 := i_rng (F 9)
    first | have e_6 : ((F 9) + (1 : Int32)).toInt = (F 9).toInt + (1) := i_addn (F 9) rfl (by omega) (by omega) | have e_7 := i_rng ((F 9) + (1 : Int32))
    refine WP.bind (cs_X2_comeTo hfu ((F 9) + (1 : Int32)) F G hI) ?_
    rintro r8 F8 G8 ⟨hI8, hB8, hT8, hO8, hp8⟩
    dsimp only
    have q_9 := hI.r 10 rfl
    have q_10 := hI8.r 10 rfl
    have e_11 : (F8 10).toInt = (F 10).toInt := hO8
    unfold cb_X2_next_17
    refine WP.ret ?_
    exact ⟨hI8, (KB.tr (KB.rf : KB F G F G) hB8), (KT.tr (rfl : KT F F) hT8), (KO.tr (rfl : KO F F) hO8), trivial⟩
  · skip
    have q_12 := i_rng (F 14)
    have l_13 : (0 : Int32).toInt = 0 := rfl
    have e_14 := mt i_eq.mpr (show ¬ ((F 14) = (0 : Int32)) from c_1)
    unfold cb_X2_next_17
    refine WP.ret ?_
    exact ⟨hI, (KB.rf : KB F G F G), (rfl : KT F F), (rfl : KO F F), trivial⟩
theorem cs_X2_fail {fu : Nat} (hfu : 8589934592 ≤ fu) (x1 : Int32) (F : PF) (G : PG) (hI : CI F G) : WP (cf_X2_fail fu x1 F G) (fun r' F' G' => CI F' G' ∧ KB F G F' G' ∧ KT F F' ∧ KO F F' ∧ ((F' 11).toInt = -2)) := by
  unfold cf_X2_fail
  unfold cb_X2_fail_0
  refine WP.ite (fun c_1 => ?_) (fun c_1 => ?_)
  · skip
    have q_2 := i_rng (F 14)
    have l_3 : (0 : Int32).toInt = 0 := rfl
    have e_4 := i_eq.mp (show (F 14) = (0 : Int32) from c_1)
    unfold cb_X2_fail_7
    have q_5 := i_rng (F 13)
    have l_6 : (16 : Int32).toInt = 16 := rfl
    have q_8 := i_rng ((F 13) * (16 : Int32))
    have q_9 := i_rng x1
    first | have e_10 : (((F 13) * (16 : Int32)) + x1).toInt = ((F 13) * (16 : Int32)).toInt + (x1.toInt) := i_addn ((F 13) * (16 : Int32)) rfl (by omega) (by omega) | have e_11 := i_rng (((F 13) * (16 : Int32)) + x1)
    have j_12 : CI (fup F 14 (((F 13) * (16 : Int32)) + x1)) G := CI.fr rfl hI
    unfold cb_X2_fail_20
    have l_13 : (-2 : Int32).toInt = -2 := rfl
    have j_14 : CI (fup (fup F 14 (((F 13) * (16 : Int32)) + x1)) 11 (-2 : Int32)) G := CI.fr rfl j_12
    unfold cb_X2_fail_26
    refine WP.ret ?_
    exact ⟨j_14, (KB.f (by decide) (KB.f (by decide) (KB.rf : KB F G F G))), (KT.f (by decide) (KT.f (by decide) (rfl : KT F F))), (KO.f (by decide) (KO.f (by decide) (rfl : KO F F))), (show (-2 : Int32).toInt = -2 by omega)⟩
  · skip
    have q_15 := i_rng (F 14)
    have l_16 : (0 : Int32).toInt = 0 := rfl
    have e_17 := mt i_eq.mpr (show ¬ ((F 14) = (0 : Int32)) from c_1)
    unfold cb_X2_fail_20
    have l_18 : (-2 : Int32).toInt = -2 := rfl
    have j_19 : CI (fup F 11 (-2 : Int32)) G := CI.fr rfl hI
    unfold cb_X2_fail_26
    refine WP.ret ?_
    exact ⟨j_19, (KB.f (by decide) (KB.rf : KB F G F G)), (KT.f (by decide) (rfl : KT F F)), (KO.f (by decide) (rfl : KO F F)), (show (-2 : Int32).toInt = -2 by omega)⟩
theorem cs_X2_expect {fu : Nat} (hfu : 8589934592 ≤ fu) (x1 : Int32) (F : PF) (G : PG) (hI : CI F G) (hw : x1.toInt ≠ -2) : WP (cf_X2_expect fu x1 F G) (fun r' F' G' => CI F' G' ∧ KB F G F' G' ∧ KT F F' ∧ KO F F' ∧ KS F F' ∧ True) := by
  unfold cf_X2_expect
  unfold cb_X2_expect_0
  refine WP.ite (fun c_1 => ?_) (fun c_1 => ?_)
  · skip
    have q_2 := i_rng (F 11)
    have q_3 := i_rng x1
    have e_4 := i_eq.mp (show (F 11) = x1 from c_1)
    unfold cb_X2_expect_8
    have q_5 := i_rng (F 9)
    first | have e_6 : ((F 9) + (1 : Int32)).toInt = (F 9).toInt + (1) := i_addn (F 9) rfl (by omega) (by omega) | have e_7 := i_rng ((F 9) + (1 : Int32))
    refine WP.bind (cs_X2_comeTo hfu ((F 9) + (1 : Int32)) F G hI) ?_
    rintro r8 F8 G8 ⟨hI8, hB8, hT8, hO8, hp8⟩
    dsimp only
    have q_9 := hI.r 10 rfl
    have q_10 := hI8.r 10 rfl
    have e_11 : (F8 10).toInt = (F 10).toInt := hO8
    unfold cb_X2_expect_18
    unfold cb_X2_expect_26
    refine WP.ret ?_
    have q_12 := i_rng (F8 11)
    exact ⟨hI8, (KB.tr (KB.rf : KB F G F G) hB8), (KT.tr (rfl : KT F F) hT8), (KO.tr (rfl : KO F F) hO8), (show (F 11).toInt = -2 → (F8 11).toInt = -2 by omega), trivial⟩
  · skip
    have q_13 := i_rng (F 11)
    have q_14 := i_rng x1
    have e_15 := mt i_eq.mpr (show ¬ ((F 11) = x1) from c_1)
    unfold cb_X2_expect_21
    have l_16 : (2 : Int32).toInt = 2 := rfl
    refine WP.bind (cs_X2_fail hfu (2 : Int32) F G hI) ?_
    rintro r17 F17 G17 ⟨hI17, hB17, hT17, hO17, hp17⟩
    dsimp only
    have q_18 := hI.r 10 rfl
    have q_19 := hI17.r 10 rfl
    have e_20 : (F17 10).toInt = (F 10).toInt := hO17
    have q_21 := i_rng (F17 11)
    have e_22 : (F17 11).toInt = -2 := hp17
    unfold cb_X2_expect_26
    refine WP.ret ?_
    exact ⟨hI17, (KB.tr (KB.rf : KB F G F G) hB17), (KT.tr (rfl : KT F F) hT17), (KO.tr (rfl : KO F F) hO17), (show (F 11).toInt = -2 → (F17 11).toInt = -2 by omega), trivial⟩
theorem cs_X2_opens {fu : Nat} (hfu : 8589934592 ≤ fu) (x1 : Int32) (F : PF) (G : PG) (hI : CI F G) (hw : x1.toInt ≠ -2) : WP (cf_X2_opens fu x1 F G) (fun r' F' G' => CI F' G' ∧ KB F G F' G' ∧ KT F F' ∧ KS F F' ∧ ((r' = 0 ∨ r' = 1) ∧ (r'.toInt = 1 → (F' 10).toInt = (F 10).toInt + 1 ∧ (F 10).toInt < 40 ∧ (F 11).toInt ≠ -2) ∧ (r'.toInt = 0 → (F' 10).toInt = (F 10).toInt ∧ (F' 11).toInt = -2))) := by
  unfold cf_X2_opens
  unfold cb_X2_opens_0
  refine WP.ite (fun c_1 => ?_) (fun c_1 => ?_)
  · skip
    have q_2 := i_rng (F 11)
    have q_3 := i_rng x1
    have e_4 := i_eq.mp (show (F 11) = x1 from c_1)
    unfold cb_X2_opens_15
    refine WP.ite (fun c_5 => ?_) (fun c_5 => ?_)
    · skip
      have q_6 := hI.r 10 rfl
      have l_7 : (40 : Int32).toInt = 40 := rfl
      have e_8 := i_lt.mp (show (F 10) < (40 : Int32) from c_5)
      unfold cb_X2_opens_31
      first | have e_9 : ((F 10) + (1 : Int32)).toInt = (F 10).toInt + (1) := i_addn (F 10) rfl (by omega) (by omega) | have e_10 := i_rng ((F 10) + (1 : Int32))
      have j_11 : CI (fup F 10 ((F 10) + (1 : Int32))) G := CI.rg (k := 10) (x := ((F 10) + (1 : Int32))) rfl (by decide) (by decide) hI ⟨by omega, by omega⟩
      unfold cb_X2_opens_41
      have q_12 := i_rng (F 9)
      first | have e_13 : ((F 9) + (1 : Int32)).toInt = (F 9).toInt + (1) := i_addn (F 9) rfl (by omega) (by omega) | have e_14 := i_rng ((F 9) + (1 : Int32))
      refine WP.bind (cs_X2_comeTo hfu ((F 9) + (1 : Int32)) (fup F 10 ((F 10) + (1 : Int32))) G j_11) ?_
      rintro r15 F15 G15 ⟨hI15, hB15, hT15, hO15, hp15⟩
      dsimp only
      have q_16 := hI15.r 10 rfl
      have e_17 : (F15 10).toInt = ((F 10) + (1 : Int32)).toInt := hO15
      unfold cb_X2_opens_51
      refine WP.ret ?_
      have q_18 := i_rng (F15 11)
      have l_19 : (1 : Int32).toInt = 1 := rfl
      exact ⟨hI15, (KB.tr (KB.f (by decide) (KB.rf : KB F G F G)) hB15), (KT.tr (KT.f (by decide) (rfl : KT F F)) hT15), (show (F 11).toInt = -2 → (F15 11).toInt = -2 by omega), (by decide), (show (1 : Int32).toInt = 1 → (F15 10).toInt = (F 10).toInt + 1 ∧ (F 10).toInt < 40 ∧ (F 11).toInt ≠ -2 by omega), (show (1 : Int32).toInt = 0 → (F15 10).toInt = (F 10).toInt ∧ (F15 11).toInt = -2 by omega)⟩
    · skip
      have q_20 := hI.r 10 rfl
      have l_21 : (40 : Int32).toInt = 40 := rfl
      have e_22 := mt i_lt.mpr (show ¬ ((F 10) < (40 : Int32)) from c_5)
      unfold cb_X2_opens_24
      have l_23 : (3 : Int32).toInt = 3 := rfl
      refine WP.bind (cs_X2_fail hfu (3 : Int32) F G hI) ?_
      rintro r24 F24 G24 ⟨hI24, hB24, hT24, hO24, hp24⟩
      dsimp only
      have q_25 := hI24.r 10 rfl
      have e_26 : (F24 10).toInt = (F 10).toInt := hO24
      have q_27 := i_rng (F24 11)
      have e_28 : (F24 11).toInt = -2 := hp24
      unfold cb_X2_opens_29
      refine WP.ret ?_
      have l_29 : (0 : Int32).toInt = 0 := rfl
      exact ⟨hI24, (KB.tr (KB.rf : KB F G F G) hB24), (KT.tr (rfl : KT F F) hT24), (show (F 11).toInt = -2 → (F24 11).toInt = -2 by omega), (by decide), (show (0 : Int32).toInt = 1 → (F24 10).toInt = (F 10).toInt + 1 ∧ (F 10).toInt < 40 ∧ (F 11).toInt ≠ -2 by omega), (show (0 : Int32).toInt = 0 → (F24 10).toInt = (F 10).toInt ∧ (F24 11).toInt = -2 by omega)⟩
  · skip
    have q_30 := i_rng (F 11)
    have q_31 := i_rng x1
    have e_32 := mt i_eq.mpr (show ¬ ((F 11) = x1) from c_1)
    unfold cb_X2_opens_8
    have l_33 : (2 : Int32).toInt = 2 := rfl
    refine WP.bind (cs_X2_fail hfu (2 : Int32) F G hI) ?_
    rintro r34 F34 G34 ⟨hI34, hB34, hT34, hO34, hp34⟩
    dsimp only
    have q_35 := hI.r 10 rfl
    have q_36 := hI34.r 10 rfl
    have e_37 : (F34 10).toInt = (F 10).toInt := hO34
    have q_38 := i_rng (F34 11)
    have e_39 : (F34 11).toInt = -2 := hp34
    unfold cb_X2_opens_13
    refine WP.ret ?_
    have l_40 : (0 : Int32).toInt = 0 := rfl
    exact ⟨hI34, (KB.tr (KB.rf : KB F G F G) hB34), (KT.tr (rfl : KT F F) hT34), (show (F 11).toInt = -2 → (F34 11).toInt = -2 by omega), (by decide), (show (0 : Int32).toInt = 1 → (F34 10).toInt = (F 10).toInt + 1 ∧ (F 10).toInt < 40 ∧ (F 11).toInt ≠ -2 by omega), (show (0 : Int32).toInt = 0 → (F34 10).toInt = (F 10).toInt ∧ (F34 11).toInt = -2 by omega)⟩
theorem cs_X2_closes {fu : Nat} (hfu : 8589934592 ≤ fu) (F : PF) (G : PG) (hI : CI F G) (h10 : 0 ≤ (F 10).toInt) : WP (cf_X2_closes fu F G) (fun r' F' G' => CI F' G' ∧ KB F G F' G' ∧ KT F F' ∧ KK F F' ∧ ((F' 10).toInt = (F 10).toInt - 1)) := by
  unfold cf_X2_closes
  unfold cb_X2_closes_0
  have q_1 := hI.r 10 rfl
  first | have e_2 : ((F 10) - (1 : Int32)).toInt = (F 10).toInt - (1) := i_subn (F 10) rfl (by omega) (by omega) | have e_3 := i_rng ((F 10) - (1 : Int32))
  have j_4 : CI (fup F 10 ((F 10) - (1 : Int32))) G := CI.rg (k := 10) (x := ((F 10) - (1 : Int32))) rfl (by decide) (by decide) hI ⟨by omega, by omega⟩
  unfold cb_X2_closes_10
  refine WP.ret ?_
  exact ⟨j_4, (KB.f (by decide) (KB.rf : KB F G F G)), (KT.f (by decide) (rfl : KT F F)), (KK.f (by decide) (rfl : KK F F)), (show ((F 10) - (1 : Int32)).toInt = (F 10).toInt - 1 by omega)⟩
theorem cs_X2_closesWith {fu : Nat} (hfu : 8589934592 ≤ fu) (x1 : Int32) (F : PF) (G : PG) (hI : CI F G) (h10 : 0 ≤ (F 10).toInt) (hw : x1.toInt ≠ -2) : WP (cf_X2_closesWith fu x1 F G) (fun r' F' G' => CI F' G' ∧ KB F G F' G' ∧ KT F F' ∧ KS F F' ∧ ((F' 10).toInt = (F 10).toInt - 1)) := by
  unfold cf_X2_closesWith
  unfold cb_X2_closesWith_0
  have q_1 := hI.r 10 rfl
  first | have e_2 : ((F 10) - (1 : Int32)).toInt = (F 10).toInt - (1) := i_subn (F 10) rfl (by omega) (by omega) | have e_3 := i_rng ((F 10) - (1 : Int32))
  have j_4 : CI (fup F 10 ((F 10) - (1 : Int32))) G := CI.rg (k := 10) (x := ((F 10) - (1 : Int32))) rfl (by decide) (by decide) hI ⟨by omega, by omega⟩
  unfold cb_X2_closesWith_10
  refine WP.ite (fun c_5 => ?_) (fun c_5 => ?_)
  · skip
    have q_6 := i_rng (F 11)
    have q_7 := i_rng x1
    have e_8 := i_eq.mp (show (F 11) = x1 from c_5)
    unfold cb_X2_closesWith_18
    have q_9 := i_rng (F 9)
    first | have e_10 : ((F 9) + (1 : Int32)).toInt = (F 9).toInt + (1) := i_addn (F 9) rfl (by omega) (by omega) | have e_11 := i_rng ((F 9) + (1 : Int32))
    refine WP.bind (cs_X2_comeTo hfu ((F 9) + (1 : Int32)) (fup F 10 ((F 10) - (1 : Int32))) G j_4) ?_
    rintro r12 F12 G12 ⟨hI12, hB12, hT12, hO12, hp12⟩
    dsimp only
    have q_13 := hI12.r 10 rfl
    have e_14 : (F12 10).toInt = ((F 10) - (1 : Int32)).toInt := hO12
    unfold cb_X2_closesWith_28
    unfold cb_X2_closesWith_36
    refine WP.ret ?_
    have q_15 := i_rng (F12 11)
    exact ⟨hI12, (KB.tr (KB.f (by decide) (KB.rf : KB F G F G)) hB12), (KT.tr (KT.f (by decide) (rfl : KT F F)) hT12), (show (F 11).toInt = -2 → (F12 11).toInt = -2 by omega), (show (F12 10).toInt = (F 10).toInt - 1 by omega)⟩
  · skip
    have q_16 := i_rng (F 11)
    have q_17 := i_rng x1
    have e_18 := mt i_eq.mpr (show ¬ ((F 11) = x1) from c_5)
    unfold cb_X2_closesWith_31
    have l_19 : (2 : Int32).toInt = 2 := rfl
    refine WP.bind (cs_X2_fail hfu (2 : Int32) (fup F 10 ((F 10) - (1 : Int32))) G j_4) ?_
    rintro r20 F20 G20 ⟨hI20, hB20, hT20, hO20, hp20⟩
    dsimp only
    have q_21 := hI20.r 10 rfl
    have e_22 : (F20 10).toInt = ((F 10) - (1 : Int32)).toInt := hO20
    have q_23 := i_rng (F20 11)
    have e_24 : (F20 11).toInt = -2 := hp20
    unfold cb_X2_closesWith_36
    refine WP.ret ?_
    exact ⟨hI20, (KB.tr (KB.f (by decide) (KB.rf : KB F G F G)) hB20), (KT.tr (KT.f (by decide) (rfl : KT F F)) hT20), (show (F 11).toInt = -2 → (F20 11).toInt = -2 by omega), (show (F20 10).toInt = (F 10).toInt - 1 by omega)⟩
theorem cs_X3_start {fu : Nat} (hfu : 8589934592 ≤ fu) (F : PF) (G : PG) (hI : CI F G) : WP (cf_X3_start fu F G) (fun r' F' G' => CI F' G' ∧ KB F G F' G' ∧ KT F F' ∧ KO F F' ∧ KK F F' ∧ True) := by
  unfold cf_X3_start
  unfold cb_X3_start_0
  have l_1 : (0 : Int32).toInt = 0 := rfl
  have j_2 : CI (fup F 21 (0 : Int32)) G := CI.rg (k := 21) (x := (0 : Int32)) rfl (by decide) (by decide) hI ⟨by omega, by omega⟩
  unfold cb_X3_start_5
  refine WP.ret ?_
  exact ⟨j_2, (KB.f (by decide) (KB.rf : KB F G F G)), (KT.f (by decide) (rfl : KT F F)), (KO.f (by decide) (rfl : KO F F)), (KK.f (by decide) (rfl : KK F F)), trivial⟩
theorem cs_X5_startConstant {fu : Nat} (hfu : 8589934592 ≤ fu) (F : PF) (G : PG) (hI : CI F G) : WP (cf_X5_startConstant fu F G) (fun r' F' G' => CI F' G' ∧ KB F G F' G' ∧ KT F F' ∧ KO F F' ∧ KK F F' ∧ True) := by
  unfold cf_X5_startConstant
  unfold cb_X5_startConstant_0
  have l_1 : (1 : Int32).toInt = 1 := rfl
  have j_2 : CI (fup F 46 (1 : Int32)) G := CI.rg (k := 46) (x := (1 : Int32)) rfl (by decide) (by decide) hI ⟨by omega, by omega⟩
  unfold cb_X5_startConstant_5
  have j_3 : CI (fup (fup F 46 (1 : Int32)) 47 (1 : Int32)) G := CI.rg (k := 47) (x := (1 : Int32)) rfl (by decide) (by decide) j_2 ⟨by omega, by omega⟩
  unfold cb_X5_startConstant_10
  refine WP.ret ?_
  exact ⟨j_3, (KB.f (by decide) (KB.f (by decide) (KB.rf : KB F G F G))), (KT.f (by decide) (KT.f (by decide) (rfl : KT F F))), (KO.f (by decide) (KO.f (by decide) (rfl : KO F F))), (KK.f (by decide) (KK.f (by decide) (rfl : KK F F))), trivial⟩
theorem cs_X5_endsConstant {fu : Nat} (hfu : 8589934592 ≤ fu) (F : PF) (G : PG) (hI : CI F G) : WP (cf_X5_endsConstant fu F G) (fun r' F' G' => CI F' G' ∧ KB F G F' G' ∧ KT F F' ∧ KO F F' ∧ KK F F' ∧ (r' = 0 ∨ r' = 1)) := by
  unfold cf_X5_endsConstant
  unfold cb_X5_endsConstant_0
  have l_1 : (0 : Int32).toInt = 0 := rfl
  have j_2 : CI (fup F 46 (0 : Int32)) G := CI.rg (k := 46) (x := (0 : Int32)) rfl (by decide) (by decide) hI ⟨by omega, by omega⟩
  unfold cb_X5_endsConstant_5
  refine WP.ite (fun c_3 => ?_) (fun c_3 => ?_)
  · skip
    have q_4 := hI.r 45 rfl
    have e_5 := i_eq.mp (show (F 45) = (0 : Int32) from c_3)
    unfold cb_X5_endsConstant_23
    unfold cb_X5_endsConstant_24
    refine WP.bz (show (0 : Int32) = 0 ∨ (0 : Int32) = 1 from (by decide)) ?_
    refine WP.ret ?_
    exact ⟨j_2, (KB.f (by decide) (KB.rf : KB F G F G)), (KT.f (by decide) (rfl : KT F F)), (KO.f (by decide) (rfl : KO F F)), (KK.f (by decide) (rfl : KK F F)), (by decide)⟩
  · skip
    have q_6 := hI.r 45 rfl
    have e_7 := mt i_eq.mpr (show ¬ ((F 45) = (0 : Int32)) from c_3)
    unfold cb_X5_endsConstant_12
    refine WP.ite (fun c_8 => ?_) (fun c_8 => ?_)
    · skip
      have q_9 := hI.r 47 rfl
      have e_10 := i_eq.mp (show (F 47) = (0 : Int32) from c_8)
      unfold cb_X5_endsConstant_23
      unfold cb_X5_endsConstant_24
      refine WP.bz (show (0 : Int32) = 0 ∨ (0 : Int32) = 1 from (by decide)) ?_
      refine WP.ret ?_
      exact ⟨j_2, (KB.f (by decide) (KB.rf : KB F G F G)), (KT.f (by decide) (rfl : KT F F)), (KO.f (by decide) (rfl : KO F F)), (KK.f (by decide) (rfl : KK F F)), (by decide)⟩
    · skip
      have q_11 := hI.r 47 rfl
      have e_12 := mt i_eq.mpr (show ¬ ((F 47) = (0 : Int32)) from c_8)
      unfold cb_X5_endsConstant_19
      unfold cb_X5_endsConstant_24
      have l_13 : (1 : Int32).toInt = 1 := rfl
      refine WP.bz (show (1 : Int32) = 0 ∨ (1 : Int32) = 1 from (by decide)) ?_
      refine WP.ret ?_
      exact ⟨j_2, (KB.f (by decide) (KB.rf : KB F G F G)), (KT.f (by decide) (rfl : KT F F)), (KO.f (by decide) (rfl : KO F F)), (KK.f (by decide) (rfl : KK F F)), (by decide)⟩
