theorem cs_X6_step {fu : Nat} (hfu : 8589934592 ≤ fu) (F : PF) (G : PG) (hI : CI F G) : WP (cf_X6_step fu F G) (fun r' F' G' => CI F' G' ∧ KB F G F' G' ∧ KT F F' ∧ KO F F' ∧ KK F F' ∧ True) := by
  unfold cf_X6_step
  unfold cb_X6_step_0
  refine WP.bind (cs_X6_next hfu F G hI) ?_
  rintro r1 F1 G1 ⟨hI1, hB1, hT1, hO1, hK1, hp1⟩
  dsimp only
  have q_2 := hI.r 10 rfl
  have q_3 := hI1.r 10 rfl
  have e_4 : (F1 10).toInt = (F 10).toInt := hO1
  unfold cb_X6_step_9
  refine WP.ite (fun c_5 => ?_) (fun c_5 => ?_)
  · skip
    have q_6 := i_rng r1
    have l_7 : (45 : Int32).toInt = 45 := rfl
    have e_8 := i_lt.mp (show r1 < (45 : Int32) from c_5)
    unfold cb_X6_step_43
    refine WP.ite (fun c_9 => ?_) (fun c_9 => ?_)
    · skip
      have l_10 : (62 : Int32).toInt = 62 := rfl
      have e_11 := i_lt.mp (show r1 < (62 : Int32) from c_9)
      unfold cb_X6_step_70
      refine WP.ite (fun c_12 => ?_) (fun c_12 => ?_)
      · skip
        have l_13 : (66 : Int32).toInt = 66 := rfl
        have e_14 := i_lt.mp (show r1 < (66 : Int32) from c_12)
        unfold cb_X6_step_90
        refine WP.ite (fun c_15 => ?_) (fun c_15 => ?_)
        · skip
          have l_16 : (74 : Int32).toInt = 74 := rfl
          have e_17 := i_lt.mp (show r1 < (74 : Int32) from c_15)
          unfold cb_X6_step_110
          refine WP.ite (fun c_18 => ?_) (fun c_18 => ?_)
          · skip
            have l_19 : (84 : Int32).toInt = 84 := rfl
            have e_20 := i_lt.mp (show r1 < (84 : Int32) from c_18)
            unfold cb_X6_step_134
            have q_21 := i_rng (F 57)
            refine WP.bind (cs_X6_act hfu r1 (F 57) F1 G1 hI1) ?_
            rintro r22 F22 G22 ⟨hI22, hB22, hT22, hO22, hK22, hp22⟩
            dsimp only
            have q_23 := hI22.r 10 rfl
            have e_24 : (F22 10).toInt = (F1 10).toInt := hO22
            unfold cb_X6_step_140
            refine WP.ret ?_
            exact ⟨hI22, (KB.tr (KB.tr (KB.rf : KB F G F G) hB1) hB22), (KT.tr (KT.tr (rfl : KT F F) hT1) hT22), (KO.tr (KO.tr (rfl : KO F F) hO1) hO22), (KK.tr (KK.tr (rfl : KK F F) hK1) hK22), trivial⟩
          · skip
            have l_25 : (84 : Int32).toInt = 84 := rfl
            have e_26 := mt i_lt.mpr (show ¬ (r1 < (84 : Int32)) from c_18)
            unfold cb_X6_step_116
            refine WP.ite (fun c_27 => ?_) (fun c_27 => ?_)
            · skip
              have l_28 : (88 : Int32).toInt = 88 := rfl
              have e_29 := i_lt.mp (show (88 : Int32) < r1 from c_27)
              unfold cb_X6_step_134
              have q_30 := i_rng (F 57)
              refine WP.bind (cs_X6_act hfu r1 (F 57) F1 G1 hI1) ?_
              rintro r31 F31 G31 ⟨hI31, hB31, hT31, hO31, hK31, hp31⟩
              dsimp only
              have q_32 := hI31.r 10 rfl
              have e_33 : (F31 10).toInt = (F1 10).toInt := hO31
              unfold cb_X6_step_140
              refine WP.ret ?_
              exact ⟨hI31, (KB.tr (KB.tr (KB.rf : KB F G F G) hB1) hB31), (KT.tr (KT.tr (rfl : KT F F) hT1) hT31), (KO.tr (KO.tr (rfl : KO F F) hO1) hO31), (KK.tr (KK.tr (rfl : KK F F) hK1) hK31), trivial⟩
            · skip
              have l_34 : (88 : Int32).toInt = 88 := rfl
              have e_35 := mt i_lt.mpr (show ¬ ((88 : Int32) < r1) from c_27)
              unfold cb_X6_step_122
              refine WP.bind (cs_X6_next hfu F1 G1 hI1) ?_
              rintro r36 F36 G36 ⟨hI36, hB36, hT36, hO36, hK36, hp36⟩
              dsimp only
              have q_37 := hI36.r 10 rfl
              have e_38 : (F36 10).toInt = (F1 10).toInt := hO36
              unfold cb_X6_step_128
              have q_39 := i_rng r36
              refine WP.bind (cs_X6_jump hfu r1 r36 F36 G36 hI36) ?_
              rintro r40 F40 G40 ⟨hI40, hB40, hT40, hO40, hK40, hp40⟩
              dsimp only
              have q_41 := hI40.r 10 rfl
              have e_42 : (F40 10).toInt = (F36 10).toInt := hO40
              unfold cb_X6_step_131
              unfold cb_X6_step_140
              refine WP.ret ?_
              exact ⟨hI40, (KB.tr (KB.tr (KB.tr (KB.rf : KB F G F G) hB1) hB36) hB40), (KT.tr (KT.tr (KT.tr (rfl : KT F F) hT1) hT36) hT40), (KO.tr (KO.tr (KO.tr (rfl : KO F F) hO1) hO36) hO40), (KK.tr (KK.tr (KK.tr (rfl : KK F F) hK1) hK36) hK40), trivial⟩
        · skip
          have l_43 : (74 : Int32).toInt = 74 := rfl
          have e_44 := mt i_lt.mpr (show ¬ (r1 < (74 : Int32)) from c_15)
          unfold cb_X6_step_96
          refine WP.ite (fun c_45 => ?_) (fun c_45 => ?_)
          · skip
            have l_46 : (83 : Int32).toInt = 83 := rfl
            have e_47 := i_lt.mp (show (83 : Int32) < r1 from c_45)
            unfold cb_X6_step_110
            refine WP.ite (fun c_48 => ?_) (fun c_48 => ?_)
            · skip
              have l_49 : (84 : Int32).toInt = 84 := rfl
              have e_50 := i_lt.mp (show r1 < (84 : Int32) from c_48)
              unfold cb_X6_step_134
              have q_51 := i_rng (F 57)
              refine WP.bind (cs_X6_act hfu r1 (F 57) F1 G1 hI1) ?_
              rintro r52 F52 G52 ⟨hI52, hB52, hT52, hO52, hK52, hp52⟩
              dsimp only
              have q_53 := hI52.r 10 rfl
              have e_54 : (F52 10).toInt = (F1 10).toInt := hO52
              unfold cb_X6_step_140
              refine WP.ret ?_
              exact ⟨hI52, (KB.tr (KB.tr (KB.rf : KB F G F G) hB1) hB52), (KT.tr (KT.tr (rfl : KT F F) hT1) hT52), (KO.tr (KO.tr (rfl : KO F F) hO1) hO52), (KK.tr (KK.tr (rfl : KK F F) hK1) hK52), trivial⟩
            · skip
              have l_55 : (84 : Int32).toInt = 84 := rfl
              have e_56 := mt i_lt.mpr (show ¬ (r1 < (84 : Int32)) from c_48)
              unfold cb_X6_step_116
              refine WP.ite (fun c_57 => ?_) (fun c_57 => ?_)
              · skip
                have l_58 : (88 : Int32).toInt = 88 := rfl
                have e_59 := i_lt.mp (show (88 : Int32) < r1 from c_57)
                unfold cb_X6_step_134
                have q_60 := i_rng (F 57)
                refine WP.bind (cs_X6_act hfu r1 (F 57) F1 G1 hI1) ?_
                rintro r61 F61 G61 ⟨hI61, hB61, hT61, hO61, hK61, hp61⟩
                dsimp only
                have q_62 := hI61.r 10 rfl
                have e_63 : (F61 10).toInt = (F1 10).toInt := hO61
                unfold cb_X6_step_140
                refine WP.ret ?_
                exact ⟨hI61, (KB.tr (KB.tr (KB.rf : KB F G F G) hB1) hB61), (KT.tr (KT.tr (rfl : KT F F) hT1) hT61), (KO.tr (KO.tr (rfl : KO F F) hO1) hO61), (KK.tr (KK.tr (rfl : KK F F) hK1) hK61), trivial⟩
              · skip
                have l_64 : (88 : Int32).toInt = 88 := rfl
                have e_65 := mt i_lt.mpr (show ¬ ((88 : Int32) < r1) from c_57)
                unfold cb_X6_step_122
                refine WP.bind (cs_X6_next hfu F1 G1 hI1) ?_
                rintro r66 F66 G66 ⟨hI66, hB66, hT66, hO66, hK66, hp66⟩
                dsimp only
                have q_67 := hI66.r 10 rfl
                have e_68 : (F66 10).toInt = (F1 10).toInt := hO66
                unfold cb_X6_step_128
                have q_69 := i_rng r66
                refine WP.bind (cs_X6_jump hfu r1 r66 F66 G66 hI66) ?_
                rintro r70 F70 G70 ⟨hI70, hB70, hT70, hO70, hK70, hp70⟩
                dsimp only
                have q_71 := hI70.r 10 rfl
                have e_72 : (F70 10).toInt = (F66 10).toInt := hO70
                unfold cb_X6_step_131
                unfold cb_X6_step_140
                refine WP.ret ?_
                exact ⟨hI70, (KB.tr (KB.tr (KB.tr (KB.rf : KB F G F G) hB1) hB66) hB70), (KT.tr (KT.tr (KT.tr (rfl : KT F F) hT1) hT66) hT70), (KO.tr (KO.tr (KO.tr (rfl : KO F F) hO1) hO66) hO70), (KK.tr (KK.tr (KK.tr (rfl : KK F F) hK1) hK66) hK70), trivial⟩
          · skip
            have l_73 : (83 : Int32).toInt = 83 := rfl
            have e_74 := mt i_lt.mpr (show ¬ ((83 : Int32) < r1) from c_45)
            unfold cb_X6_step_102
            refine WP.bind (cs_X6_reach hfu r1 F1 G1 hI1) ?_
            rintro r75 F75 G75 ⟨hI75, hB75, hT75, hO75, hK75, hp75⟩
            dsimp only
            have q_76 := hI75.r 10 rfl
            have e_77 : (F75 10).toInt = (F1 10).toInt := hO75
            unfold cb_X6_step_107
            unfold cb_X6_step_140
            refine WP.ret ?_
            exact ⟨hI75, (KB.tr (KB.tr (KB.rf : KB F G F G) hB1) hB75), (KT.tr (KT.tr (rfl : KT F F) hT1) hT75), (KO.tr (KO.tr (rfl : KO F F) hO1) hO75), (KK.tr (KK.tr (rfl : KK F F) hK1) hK75), trivial⟩
      · skip
        have l_78 : (66 : Int32).toInt = 66 := rfl
        have e_79 := mt i_lt.mpr (show ¬ (r1 < (66 : Int32)) from c_12)
        unfold cb_X6_step_76
        refine WP.ite (fun c_80 => ?_) (fun c_80 => ?_)
        · skip
          have l_81 : (73 : Int32).toInt = 73 := rfl
          have e_82 := i_lt.mp (show (73 : Int32) < r1 from c_80)
          unfold cb_X6_step_90
          refine WP.ite (fun c_83 => ?_) (fun c_83 => ?_)
          · skip
            have l_84 : (74 : Int32).toInt = 74 := rfl
            have e_85 := i_lt.mp (show r1 < (74 : Int32) from c_83)
            unfold cb_X6_step_110
            refine WP.ite (fun c_86 => ?_) (fun c_86 => ?_)
            · skip
              have l_87 : (84 : Int32).toInt = 84 := rfl
              have e_88 := i_lt.mp (show r1 < (84 : Int32) from c_86)
              unfold cb_X6_step_134
              have q_89 := i_rng (F 57)
              refine WP.bind (cs_X6_act hfu r1 (F 57) F1 G1 hI1) ?_
              rintro r90 F90 G90 ⟨hI90, hB90, hT90, hO90, hK90, hp90⟩
              dsimp only
              have q_91 := hI90.r 10 rfl
              have e_92 : (F90 10).toInt = (F1 10).toInt := hO90
              unfold cb_X6_step_140
              refine WP.ret ?_
              exact ⟨hI90, (KB.tr (KB.tr (KB.rf : KB F G F G) hB1) hB90), (KT.tr (KT.tr (rfl : KT F F) hT1) hT90), (KO.tr (KO.tr (rfl : KO F F) hO1) hO90), (KK.tr (KK.tr (rfl : KK F F) hK1) hK90), trivial⟩
            · skip
              have l_93 : (84 : Int32).toInt = 84 := rfl
              have e_94 := mt i_lt.mpr (show ¬ (r1 < (84 : Int32)) from c_86)
              unfold cb_X6_step_116
              refine WP.ite (fun c_95 => ?_) (fun c_95 => ?_)
              · skip
                have l_96 : (88 : Int32).toInt = 88 := rfl
                have e_97 := i_lt.mp (show (88 : Int32) < r1 from c_95)
                unfold cb_X6_step_134
                have q_98 := i_rng (F 57)
                refine WP.bind (cs_X6_act hfu r1 (F 57) F1 G1 hI1) ?_
                rintro r99 F99 G99 ⟨hI99, hB99, hT99, hO99, hK99, hp99⟩
                dsimp only
                have q_100 := hI99.r 10 rfl
                have e_101 : (F99 10).toInt = (F1 10).toInt := hO99
                unfold cb_X6_step_140
                refine WP.ret ?_
                exact ⟨hI99, (KB.tr (KB.tr (KB.rf : KB F G F G) hB1) hB99), (KT.tr (KT.tr (rfl : KT F F) hT1) hT99), (KO.tr (KO.tr (rfl : KO F F) hO1) hO99), (KK.tr (KK.tr (rfl : KK F F) hK1) hK99), trivial⟩
              · skip
                have l_102 : (88 : Int32).toInt = 88 := rfl
                have e_103 := mt i_lt.mpr (show ¬ ((88 : Int32) < r1) from c_95)
                unfold cb_X6_step_122
                refine WP.bind (cs_X6_next hfu F1 G1 hI1) ?_
                rintro r104 F104 G104 ⟨hI104, hB104, hT104, hO104, hK104, hp104⟩
                dsimp only
                have q_105 := hI104.r 10 rfl
                have e_106 : (F104 10).toInt = (F1 10).toInt := hO104
                unfold cb_X6_step_128
                have q_107 := i_rng r104
                refine WP.bind (cs_X6_jump hfu r1 r104 F104 G104 hI104) ?_
                rintro r108 F108 G108 ⟨hI108, hB108, hT108, hO108, hK108, hp108⟩
                dsimp only
                have q_109 := hI108.r 10 rfl
                have e_110 : (F108 10).toInt = (F104 10).toInt := hO108
                unfold cb_X6_step_131
                unfold cb_X6_step_140
                refine WP.ret ?_
                exact ⟨hI108, (KB.tr (KB.tr (KB.tr (KB.rf : KB F G F G) hB1) hB104) hB108), (KT.tr (KT.tr (KT.tr (rfl : KT F F) hT1) hT104) hT108), (KO.tr (KO.tr (KO.tr (rfl : KO F F) hO1) hO104) hO108), (KK.tr (KK.tr (KK.tr (rfl : KK F F) hK1) hK104) hK108), trivial⟩
          · skip
            have l_111 : (74 : Int32).toInt = 74 := rfl
            have e_112 := mt i_lt.mpr (show ¬ (r1 < (74 : Int32)) from c_83)
            unfold cb_X6_step_96
            refine WP.ite (fun c_113 => ?_) (fun c_113 => ?_)
            · skip
              have l_114 : (83 : Int32).toInt = 83 := rfl
              have e_115 := i_lt.mp (show (83 : Int32) < r1 from c_113)
              unfold cb_X6_step_110
              refine WP.ite (fun c_116 => ?_) (fun c_116 => ?_)
              · skip
                have l_117 : (84 : Int32).toInt = 84 := rfl
                have e_118 := i_lt.mp (show r1 < (84 : Int32) from c_116)
                unfold cb_X6_step_134
                have q_119 := i_rng (F 57)
                refine WP.bind (cs_X6_act hfu r1 (F 57) F1 G1 hI1) ?_
                rintro r120 F120 G120 ⟨hI120, hB120, hT120, hO120, hK120, hp120⟩
                dsimp only
                have q_121 := hI120.r 10 rfl
                have e_122 : (F120 10).toInt = (F1 10).toInt := hO120
                unfold cb_X6_step_140
                refine WP.ret ?_
                exact ⟨hI120, (KB.tr (KB.tr (KB.rf : KB F G F G) hB1) hB120), (KT.tr (KT.tr (rfl : KT F F) hT1) hT120), (KO.tr (KO.tr (rfl : KO F F) hO1) hO120), (KK.tr (KK.tr (rfl : KK F F) hK1) hK120), trivial⟩
              · skip
                have l_123 : (84 : Int32).toInt = 84 := rfl
                have e_124 := mt i_lt.mpr (show ¬ (r1 < (84 : Int32)) from c_116)
                unfold cb_X6_step_116
                refine WP.ite (fun c_125 => ?_) (fun c_125 => ?_)
                · skip
                  have l_126 : (88 : Int32).toInt = 88 := rfl
                  have e_127 := i_lt.mp (show (88 : Int32) < r1 from c_125)
                  unfold cb_X6_step_134
                  have q_128 := i_rng (F 57)
                  refine WP.bind (cs_X6_act hfu r1 (F 57) F1 G1 hI1) ?_
                  rintro r129 F129 G129 ⟨hI129, hB129, hT129, hO129, hK129, hp129⟩
                  dsimp only
                  have q_130 := hI129.r 10 rfl
                  have e_131 : (F129 10).toInt = (F1 10).toInt := hO129
                  unfold cb_X6_step_140
                  refine WP.ret ?_
                  exact ⟨hI129, (KB.tr (KB.tr (KB.rf : KB F G F G) hB1) hB129), (KT.tr (KT.tr (rfl : KT F F) hT1) hT129), (KO.tr (KO.tr (rfl : KO F F) hO1) hO129), (KK.tr (KK.tr (rfl : KK F F) hK1) hK129), trivial⟩
                · skip
                  have l_132 : (88 : Int32).toInt = 88 := rfl
                  have e_133 := mt i_lt.mpr (show ¬ ((88 : Int32) < r1) from c_125)
                  unfold cb_X6_step_122
                  refine WP.bind (cs_X6_next hfu F1 G1 hI1) ?_
                  rintro r134 F134 G134 ⟨hI134, hB134, hT134, hO134, hK134, hp134⟩
                  dsimp only
                  have q_135 := hI134.r 10 rfl
                  have e_136 : (F134 10).toInt = (F1 10).toInt := hO134
                  unfold cb_X6_step_128
                  have q_137 := i_rng r134
                  refine WP.bind (cs_X6_jump hfu r1 r134 F134 G134 hI134) ?_
                  rintro r138 F138 G138 ⟨hI138, hB138, hT138, hO138, hK138, hp138⟩
                  dsimp only
                  have q_139 := hI138.r 10 rfl
                  have e_140 : (F138 10).toInt = (F134 10).toInt := hO138
                  unfold cb_X6_step_131
                  unfold cb_X6_step_140
                  refine WP.ret ?_
                  exact ⟨hI138, (KB.tr (KB.tr (KB.tr (KB.rf : KB F G F G) hB1) hB134) hB138), (KT.tr (KT.tr (KT.tr (rfl : KT F F) hT1) hT134) hT138), (KO.tr (KO.tr (KO.tr (rfl : KO F F) hO1) hO134) hO138), (KK.tr (KK.tr (KK.tr (rfl : KK F F) hK1) hK134) hK138), trivial⟩
            · skip
              have l_141 : (83 : Int32).toInt = 83 := rfl
              have e_142 := mt i_lt.mpr (show ¬ ((83 : Int32) < r1) from c_113)
              unfold cb_X6_step_102
              refine WP.bind (cs_X6_reach hfu r1 F1 G1 hI1) ?_
              rintro r143 F143 G143 ⟨hI143, hB143, hT143, hO143, hK143, hp143⟩
              dsimp only
              have q_144 := hI143.r 10 rfl
              have e_145 : (F143 10).toInt = (F1 10).toInt := hO143
              unfold cb_X6_step_107
              unfold cb_X6_step_140
              refine WP.ret ?_
              exact ⟨hI143, (KB.tr (KB.tr (KB.rf : KB F G F G) hB1) hB143), (KT.tr (KT.tr (rfl : KT F F) hT1) hT143), (KO.tr (KO.tr (rfl : KO F F) hO1) hO143), (KK.tr (KK.tr (rfl : KK F F) hK1) hK143), trivial⟩
        · skip
          have l_146 : (73 : Int32).toInt = 73 := rfl
          have e_147 := mt i_lt.mpr (show ¬ ((73 : Int32) < r1) from c_80)
          unfold cb_X6_step_82
          refine WP.bind (cs_X6_move hfu r1 F1 G1 hI1) ?_
          rintro r148 F148 G148 ⟨hI148, hB148, hT148, hO148, hK148, hp148⟩
          dsimp only
          have q_149 := hI148.r 10 rfl
          have e_150 : (F148 10).toInt = (F1 10).toInt := hO148
          unfold cb_X6_step_87
          unfold cb_X6_step_140
          refine WP.ret ?_
          exact ⟨hI148, (KB.tr (KB.tr (KB.rf : KB F G F G) hB1) hB148), (KT.tr (KT.tr (rfl : KT F F) hT1) hT148), (KO.tr (KO.tr (rfl : KO F F) hO1) hO148), (KK.tr (KK.tr (rfl : KK F F) hK1) hK148), trivial⟩
    · skip
      have l_151 : (62 : Int32).toInt = 62 := rfl
      have e_152 := mt i_lt.mpr (show ¬ (r1 < (62 : Int32)) from c_9)
      unfold cb_X6_step_49
      refine WP.ite (fun c_153 => ?_) (fun c_153 => ?_)
      · skip
        have l_154 : (65 : Int32).toInt = 65 := rfl
        have e_155 := i_lt.mp (show (65 : Int32) < r1 from c_153)
        unfold cb_X6_step_70
        refine WP.ite (fun c_156 => ?_) (fun c_156 => ?_)
        · skip
          have l_157 : (66 : Int32).toInt = 66 := rfl
          have e_158 := i_lt.mp (show r1 < (66 : Int32) from c_156)
          unfold cb_X6_step_90
          refine WP.ite (fun c_159 => ?_) (fun c_159 => ?_)
          · skip
            have l_160 : (74 : Int32).toInt = 74 := rfl
            have e_161 := i_lt.mp (show r1 < (74 : Int32) from c_159)
            unfold cb_X6_step_110
            refine WP.ite (fun c_162 => ?_) (fun c_162 => ?_)
            · skip
              have l_163 : (84 : Int32).toInt = 84 := rfl
              have e_164 := i_lt.mp (show r1 < (84 : Int32) from c_162)
              unfold cb_X6_step_134
              have q_165 := i_rng (F 57)
              refine WP.bind (cs_X6_act hfu r1 (F 57) F1 G1 hI1) ?_
              rintro r166 F166 G166 ⟨hI166, hB166, hT166, hO166, hK166, hp166⟩
              dsimp only
              have q_167 := hI166.r 10 rfl
              have e_168 : (F166 10).toInt = (F1 10).toInt := hO166
              unfold cb_X6_step_140
              refine WP.ret ?_
              exact ⟨hI166, (KB.tr (KB.tr (KB.rf : KB F G F G) hB1) hB166), (KT.tr (KT.tr (rfl : KT F F) hT1) hT166), (KO.tr (KO.tr (rfl : KO F F) hO1) hO166), (KK.tr (KK.tr (rfl : KK F F) hK1) hK166), trivial⟩
            · skip
              have l_169 : (84 : Int32).toInt = 84 := rfl
              have e_170 := mt i_lt.mpr (show ¬ (r1 < (84 : Int32)) from c_162)
              unfold cb_X6_step_116
              refine WP.ite (fun c_171 => ?_) (fun c_171 => ?_)
              · skip
                have l_172 : (88 : Int32).toInt = 88 := rfl
                have e_173 := i_lt.mp (show (88 : Int32) < r1 from c_171)
                unfold cb_X6_step_134
                have q_174 := i_rng (F 57)
                refine WP.bind (cs_X6_act hfu r1 (F 57) F1 G1 hI1) ?_
                rintro r175 F175 G175 ⟨hI175, hB175, hT175, hO175, hK175, hp175⟩
                dsimp only
                have q_176 := hI175.r 10 rfl
                have e_177 : (F175 10).toInt = (F1 10).toInt := hO175
                unfold cb_X6_step_140
                refine WP.ret ?_
                exact ⟨hI175, (KB.tr (KB.tr (KB.rf : KB F G F G) hB1) hB175), (KT.tr (KT.tr (rfl : KT F F) hT1) hT175), (KO.tr (KO.tr (rfl : KO F F) hO1) hO175), (KK.tr (KK.tr (rfl : KK F F) hK1) hK175), trivial⟩
              · skip
                have l_178 : (88 : Int32).toInt = 88 := rfl
                have e_179 := mt i_lt.mpr (show ¬ ((88 : Int32) < r1) from c_171)
                unfold cb_X6_step_122
                refine WP.bind (cs_X6_next hfu F1 G1 hI1) ?_
                rintro r180 F180 G180 ⟨hI180, hB180, hT180, hO180, hK180, hp180⟩
                dsimp only
                have q_181 := hI180.r 10 rfl
                have e_182 : (F180 10).toInt = (F1 10).toInt := hO180
                unfold cb_X6_step_128
                have q_183 := i_rng r180
                refine WP.bind (cs_X6_jump hfu r1 r180 F180 G180 hI180) ?_
                rintro r184 F184 G184 ⟨hI184, hB184, hT184, hO184, hK184, hp184⟩
                dsimp only
                have q_185 := hI184.r 10 rfl
                have e_186 : (F184 10).toInt = (F180 10).toInt := hO184
                unfold cb_X6_step_131
                unfold cb_X6_step_140
                refine WP.ret ?_
                exact ⟨hI184, (KB.tr (KB.tr (KB.tr (KB.rf : KB F G F G) hB1) hB180) hB184), (KT.tr (KT.tr (KT.tr (rfl : KT F F) hT1) hT180) hT184), (KO.tr (KO.tr (KO.tr (rfl : KO F F) hO1) hO180) hO184), (KK.tr (KK.tr (KK.tr (rfl : KK F F) hK1) hK180) hK184), trivial⟩
          · skip
            have l_187 : (74 : Int32).toInt = 74 := rfl
            have e_188 := mt i_lt.mpr (show ¬ (r1 < (74 : Int32)) from c_159)
            unfold cb_X6_step_96
            refine WP.ite (fun c_189 => ?_) (fun c_189 => ?_)
            · skip
              have l_190 : (83 : Int32).toInt = 83 := rfl
              have e_191 := i_lt.mp (show (83 : Int32) < r1 from c_189)
              unfold cb_X6_step_110
              refine WP.ite (fun c_192 => ?_) (fun c_192 => ?_)
              · skip
                have l_193 : (84 : Int32).toInt = 84 := rfl
                have e_194 := i_lt.mp (show r1 < (84 : Int32) from c_192)
                unfold cb_X6_step_134
                have q_195 := i_rng (F 57)
                refine WP.bind (cs_X6_act hfu r1 (F 57) F1 G1 hI1) ?_
                rintro r196 F196 G196 ⟨hI196, hB196, hT196, hO196, hK196, hp196⟩
                dsimp only
                have q_197 := hI196.r 10 rfl
                have e_198 : (F196 10).toInt = (F1 10).toInt := hO196
                unfold cb_X6_step_140
                refine WP.ret ?_
                exact ⟨hI196, (KB.tr (KB.tr (KB.rf : KB F G F G) hB1) hB196), (KT.tr (KT.tr (rfl : KT F F) hT1) hT196), (KO.tr (KO.tr (rfl : KO F F) hO1) hO196), (KK.tr (KK.tr (rfl : KK F F) hK1) hK196), trivial⟩
              · skip
                have l_199 : (84 : Int32).toInt = 84 := rfl
                have e_200 := mt i_lt.mpr (show ¬ (r1 < (84 : Int32)) from c_192)
                unfold cb_X6_step_116
                refine WP.ite (fun c_201 => ?_) (fun c_201 => ?_)
                · skip
                  have l_202 : (88 : Int32).toInt = 88 := rfl
                  have e_203 := i_lt.mp (show (88 : Int32) < r1 from c_201)
                  unfold cb_X6_step_134
                  have q_204 := i_rng (F 57)
                  refine WP.bind (cs_X6_act hfu r1 (F 57) F1 G1 hI1) ?_
                  rintro r205 F205 G205 ⟨hI205, hB205, hT205, hO205, hK205, hp205⟩
                  dsimp only
                  have q_206 := hI205.r 10 rfl
                  have e_207 : (F205 10).toInt = (F1 10).toInt := hO205
                  unfold cb_X6_step_140
                  refine WP.ret ?_
                  exact ⟨hI205, (KB.tr (KB.tr (KB.rf : KB F G F G) hB1) hB205), (KT.tr (KT.tr (rfl : KT F F) hT1) hT205), (KO.tr (KO.tr (rfl : KO F F) hO1) hO205), (KK.tr (KK.tr (rfl : KK F F) hK1) hK205), trivial⟩
                · skip
                  have l_208 : (88 : Int32).toInt = 88 := rfl
                  have e_209 := mt i_lt.mpr (show ¬ ((88 : Int32) < r1) from c_201)
                  unfold cb_X6_step_122
                  refine WP.bind (cs_X6_next hfu F1 G1 hI1) ?_
                  rintro r210 F210 G210 ⟨hI210, hB210, hT210, hO210, hK210, hp210⟩
                  dsimp only
                  have q_211 := hI210.r 10 rfl
                  have e_212 : (F210 10).toInt = (F1 10).toInt := hO210
                  unfold cb_X6_step_128
                  have q_213 := i_rng r210
                  refine WP.bind (cs_X6_jump hfu r1 r210 F210 G210 hI210) ?_
                  rintro r214 F214 G214 ⟨hI214, hB214, hT214, hO214, hK214, hp214⟩
                  dsimp only
                  have q_215 := hI214.r 10 rfl
                  have e_216 : (F214 10).toInt = (F210 10).toInt := hO214
                  unfold cb_X6_step_131
                  unfold cb_X6_step_140
                  refine WP.ret ?_
                  exact ⟨hI214, (KB.tr (KB.tr (KB.tr (KB.rf : KB F G F G) hB1) hB210) hB214), (KT.tr (KT.tr (KT.tr (rfl : KT F F) hT1) hT210) hT214), (KO.tr (KO.tr (KO.tr (rfl : KO F F) hO1) hO210) hO214), (KK.tr (KK.tr (KK.tr (rfl : KK F F) hK1) hK210) hK214), trivial⟩
            · skip
              have l_217 : (83 : Int32).toInt = 83 := rfl
              have e_218 := mt i_lt.mpr (show ¬ ((83 : Int32) < r1) from c_189)
              unfold cb_X6_step_102
              refine WP.bind (cs_X6_reach hfu r1 F1 G1 hI1) ?_
              rintro r219 F219 G219 ⟨hI219, hB219, hT219, hO219, hK219, hp219⟩
              dsimp only
              have q_220 := hI219.r 10 rfl
              have e_221 : (F219 10).toInt = (F1 10).toInt := hO219
              unfold cb_X6_step_107
              unfold cb_X6_step_140
              refine WP.ret ?_
              exact ⟨hI219, (KB.tr (KB.tr (KB.rf : KB F G F G) hB1) hB219), (KT.tr (KT.tr (rfl : KT F F) hT1) hT219), (KO.tr (KO.tr (rfl : KO F F) hO1) hO219), (KK.tr (KK.tr (rfl : KK F F) hK1) hK219), trivial⟩
        · skip
          have l_222 : (66 : Int32).toInt = 66 := rfl
          have e_223 := mt i_lt.mpr (show ¬ (r1 < (66 : Int32)) from c_156)
          unfold cb_X6_step_76
          refine WP.ite (fun c_224 => ?_) (fun c_224 => ?_)
          · skip
            have l_225 : (73 : Int32).toInt = 73 := rfl
            have e_226 := i_lt.mp (show (73 : Int32) < r1 from c_224)
            unfold cb_X6_step_90
            refine WP.ite (fun c_227 => ?_) (fun c_227 => ?_)
            · skip
              have l_228 : (74 : Int32).toInt = 74 := rfl
              have e_229 := i_lt.mp (show r1 < (74 : Int32) from c_227)
              unfold cb_X6_step_110
              refine WP.ite (fun c_230 => ?_) (fun c_230 => ?_)
              · skip
                have l_231 : (84 : Int32).toInt = 84 := rfl
                have e_232 := i_lt.mp (show r1 < (84 : Int32) from c_230)
                unfold cb_X6_step_134
                have q_233 := i_rng (F 57)
                refine WP.bind (cs_X6_act hfu r1 (F 57) F1 G1 hI1) ?_
                rintro r234 F234 G234 ⟨hI234, hB234, hT234, hO234, hK234, hp234⟩
                dsimp only
                have q_235 := hI234.r 10 rfl
                have e_236 : (F234 10).toInt = (F1 10).toInt := hO234
                unfold cb_X6_step_140
                refine WP.ret ?_
                exact ⟨hI234, (KB.tr (KB.tr (KB.rf : KB F G F G) hB1) hB234), (KT.tr (KT.tr (rfl : KT F F) hT1) hT234), (KO.tr (KO.tr (rfl : KO F F) hO1) hO234), (KK.tr (KK.tr (rfl : KK F F) hK1) hK234), trivial⟩
              · skip
                have l_237 : (84 : Int32).toInt = 84 := rfl
                have e_238 := mt i_lt.mpr (show ¬ (r1 < (84 : Int32)) from c_230)
                unfold cb_X6_step_116
                refine WP.ite (fun c_239 => ?_) (fun c_239 => ?_)
                · skip
                  have l_240 : (88 : Int32).toInt = 88 := rfl
                  have e_241 := i_lt.mp (show (88 : Int32) < r1 from c_239)
                  unfold cb_X6_step_134
                  have q_242 := i_rng (F 57)
                  refine WP.bind (cs_X6_act hfu r1 (F 57) F1 G1 hI1) ?_
                  rintro r243 F243 G243 ⟨hI243, hB243, hT243, hO243, hK243, hp243⟩
                  dsimp only
                  have q_244 := hI243.r 10 rfl
                  have e_245 : (F243 10).toInt = (F1 10).toInt := hO243
                  unfold cb_X6_step_140
                  refine WP.ret ?_
                  exact ⟨hI243, (KB.tr (KB.tr (KB.rf : KB F G F G) hB1) hB243), (KT.tr (KT.tr (rfl : KT F F) hT1) hT243), (KO.tr (KO.tr (rfl : KO F F) hO1) hO243), (KK.tr (KK.tr (rfl : KK F F) hK1) hK243), trivial⟩
                · skip
                  have l_246 : (88 : Int32).toInt = 88 := rfl
                  have e_247 := mt i_lt.mpr (show ¬ ((88 : Int32) < r1) from c_239)
                  unfold cb_X6_step_122
                  refine WP.bind (cs_X6_next hfu F1 G1 hI1) ?_
                  rintro r248 F248 G248 ⟨hI248, hB248, hT248, hO248, hK248, hp248⟩
                  dsimp only
                  have q_249 := hI248.r 10 rfl
                  have e_250 : (F248 10).toInt = (F1 10).toInt := hO248
                  unfold cb_X6_step_128
                  have q_251 := i_rng r248
                  refine WP.bind (cs_X6_jump hfu r1 r248 F248 G248 hI248) ?_
                  rintro r252 F252 G252 ⟨hI252, hB252, hT252, hO252, hK252, hp252⟩
                  dsimp only
                  have q_253 := hI252.r 10 rfl
                  have e_254 : (F252 10).toInt = (F248 10).toInt := hO252
                  unfold cb_X6_step_131
                  unfold cb_X6_step_140
                  refine WP.ret ?_
                  exact ⟨hI252, (KB.tr (KB.tr (KB.tr (KB.rf : KB F G F G) hB1) hB248) hB252), (KT.tr (KT.tr (KT.tr (rfl : KT F F) hT1) hT248) hT252), (KO.tr (KO.tr (KO.tr (rfl : KO F F) hO1) hO248) hO252), (KK.tr (KK.tr (KK.tr (rfl : KK F F) hK1) hK248) hK252), trivial⟩
            · skip
              have l_255 : (74 : Int32).toInt = 74 := rfl
              have e_256 := mt i_lt.mpr (show ¬ (r1 < (74 : Int32)) from c_227)
              unfold cb_X6_step_96
              refine WP.ite (fun c_257 => ?_) (fun c_257 => ?_)
              · skip
                have l_258 : (83 : Int32).toInt = 83 := rfl
                have e_259 := i_lt.mp (show (83 : Int32) < r1 from c_257)
                unfold cb_X6_step_110
                refine WP.ite (fun c_260 => ?_) (fun c_260 => ?_)
                · skip
                  have l_261 : (84 : Int32).toInt = 84 := rfl
                  have e_262 := i_lt.mp (show r1 < (84 : Int32) from c_260)
                  unfold cb_X6_step_134
                  have q_263 := i_rng (F 57)
                  refine WP.bind (cs_X6_act hfu r1 (F 57) F1 G1 hI1) ?_
                  rintro r264 F264 G264 ⟨hI264, hB264, hT264, hO264, hK264, hp264⟩
                  dsimp only
                  have q_265 := hI264.r 10 rfl
                  have e_266 : (F264 10).toInt = (F1 10).toInt := hO264
                  unfold cb_X6_step_140
                  refine WP.ret ?_
                  exact ⟨hI264, (KB.tr (KB.tr (KB.rf : KB F G F G) hB1) hB264), (KT.tr (KT.tr (rfl : KT F F) hT1) hT264), (KO.tr (KO.tr (rfl : KO F F) hO1) hO264), (KK.tr (KK.tr (rfl : KK F F) hK1) hK264), trivial⟩
                · skip
                  have l_267 : (84 : Int32).toInt = 84 := rfl
                  have e_268 := mt i_lt.mpr (show ¬ (r1 < (84 : Int32)) from c_260)
                  unfold cb_X6_step_116
                  refine WP.ite (fun c_269 => ?_) (fun c_269 => ?_)
                  · skip
                    have l_270 : (88 : Int32).toInt = 88 := rfl
                    have e_271 := i_lt.mp (show (88 : Int32) < r1 from c_269)
                    unfold cb_X6_step_134
                    have q_272 := i_rng (F 57)
                    refine WP.bind (cs_X6_act hfu r1 (F 57) F1 G1 hI1) ?_
                    rintro r273 F273 G273 ⟨hI273, hB273, hT273, hO273, hK273, hp273⟩
                    dsimp only
                    have q_274 := hI273.r 10 rfl
                    have e_275 : (F273 10).toInt = (F1 10).toInt := hO273
                    unfold cb_X6_step_140
                    refine WP.ret ?_
                    exact ⟨hI273, (KB.tr (KB.tr (KB.rf : KB F G F G) hB1) hB273), (KT.tr (KT.tr (rfl : KT F F) hT1) hT273), (KO.tr (KO.tr (rfl : KO F F) hO1) hO273), (KK.tr (KK.tr (rfl : KK F F) hK1) hK273), trivial⟩
                  · skip
                    have l_276 : (88 : Int32).toInt = 88 := rfl
                    have e_277 := mt i_lt.mpr (show ¬ ((88 : Int32) < r1) from c_269)
                    unfold cb_X6_step_122
                    refine WP.bind (cs_X6_next hfu F1 G1 hI1) ?_
                    rintro r278 F278 G278 ⟨hI278, hB278, hT278, hO278, hK278, hp278⟩
                    dsimp only
                    have q_279 := hI278.r 10 rfl
                    have e_280 : (F278 10).toInt = (F1 10).toInt := hO278
                    unfold cb_X6_step_128
                    have q_281 := i_rng r278
                    refine WP.bind (cs_X6_jump hfu r1 r278 F278 G278 hI278) ?_
                    rintro r282 F282 G282 ⟨hI282, hB282, hT282, hO282, hK282, hp282⟩
                    dsimp only
                    have q_283 := hI282.r 10 rfl
                    have e_284 : (F282 10).toInt = (F278 10).toInt := hO282
                    unfold cb_X6_step_131
                    unfold cb_X6_step_140
                    refine WP.ret ?_
                    exact ⟨hI282, (KB.tr (KB.tr (KB.tr (KB.rf : KB F G F G) hB1) hB278) hB282), (KT.tr (KT.tr (KT.tr (rfl : KT F F) hT1) hT278) hT282), (KO.tr (KO.tr (KO.tr (rfl : KO F F) hO1) hO278) hO282), (KK.tr (KK.tr (KK.tr (rfl : KK F F) hK1) hK278) hK282), trivial⟩
              · skip
                have l_285 : (83 : Int32).toInt = 83 := rfl
                have e_286 := mt i_lt.mpr (show ¬ ((83 : Int32) < r1) from c_257)
                unfold cb_X6_step_102
                refine WP.bind (cs_X6_reach hfu r1 F1 G1 hI1) ?_
                rintro r287 F287 G287 ⟨hI287, hB287, hT287, hO287, hK287, hp287⟩
                dsimp only
                have q_288 := hI287.r 10 rfl
                have e_289 : (F287 10).toInt = (F1 10).toInt := hO287
                unfold cb_X6_step_107
                unfold cb_X6_step_140
                refine WP.ret ?_
                exact ⟨hI287, (KB.tr (KB.tr (KB.rf : KB F G F G) hB1) hB287), (KT.tr (KT.tr (rfl : KT F F) hT1) hT287), (KO.tr (KO.tr (rfl : KO F F) hO1) hO287), (KK.tr (KK.tr (rfl : KK F F) hK1) hK287), trivial⟩
          · skip
            have l_290 : (73 : Int32).toInt = 73 := rfl
            have e_291 := mt i_lt.mpr (show ¬ ((73 : Int32) < r1) from c_224)
            unfold cb_X6_step_82
            refine WP.bind (cs_X6_move hfu r1 F1 G1 hI1) ?_
            rintro r292 F292 G292 ⟨hI292, hB292, hT292, hO292, hK292, hp292⟩
            dsimp only
            have q_293 := hI292.r 10 rfl
            have e_294 : (F292 10).toInt = (F1 10).toInt := hO292
            unfold cb_X6_step_87
            unfold cb_X6_step_140
            refine WP.ret ?_
            exact ⟨hI292, (KB.tr (KB.tr (KB.rf : KB F G F G) hB1) hB292), (KT.tr (KT.tr (rfl : KT F F) hT1) hT292), (KO.tr (KO.tr (rfl : KO F F) hO1) hO292), (KK.tr (KK.tr (rfl : KK F F) hK1) hK292), trivial⟩
      · skip
        have l_295 : (65 : Int32).toInt = 65 := rfl
        have e_296 := mt i_lt.mpr (show ¬ ((65 : Int32) < r1) from c_153)
        unfold cb_X6_step_55
        refine WP.bind (cs_X6_pop hfu F1 G1 hI1) ?_
        rintro r297 F297 G297 ⟨hI297, hB297, hT297, hO297, hK297, hp297⟩
        dsimp only
        have q_298 := hI297.r 10 rfl
        have e_299 : (F297 10).toInt = (F1 10).toInt := hO297
        unfold cb_X6_step_61
        have q_300 := i_rng r297
        refine WP.bind (cs_X6_changed hfu r1 r297 F297 G297 hI297) ?_
        rintro r301 _ _ ⟨rfl, rfl, hp301⟩
        dsimp only
        unfold cb_X6_step_64
        have q_302 := i_rng r301
        refine WP.bind (cs_X6_push hfu r301 F297 G297 hI297) ?_
        rintro r303 F303 G303 ⟨hI303, hB303, hT303, hO303, hK303, hp303⟩
        dsimp only
        have q_304 := hI303.r 10 rfl
        have e_305 : (F303 10).toInt = (F297 10).toInt := hO303
        unfold cb_X6_step_67
        unfold cb_X6_step_140
        refine WP.ret ?_
        exact ⟨hI303, (KB.tr (KB.tr (KB.tr (KB.rf : KB F G F G) hB1) hB297) hB303), (KT.tr (KT.tr (KT.tr (rfl : KT F F) hT1) hT297) hT303), (KO.tr (KO.tr (KO.tr (rfl : KO F F) hO1) hO297) hO303), (KK.tr (KK.tr (KK.tr (rfl : KK F F) hK1) hK297) hK303), trivial⟩
  · skip
    have q_306 := i_rng r1
    have l_307 : (45 : Int32).toInt = 45 := rfl
    have e_308 := mt i_lt.mpr (show ¬ (r1 < (45 : Int32)) from c_5)
    unfold cb_X6_step_16
    refine WP.ite (fun c_309 => ?_) (fun c_309 => ?_)
    · skip
      have l_310 : (61 : Int32).toInt = 61 := rfl
      have e_311 := i_lt.mp (show (61 : Int32) < r1 from c_309)
      unfold cb_X6_step_43
      refine WP.ite (fun c_312 => ?_) (fun c_312 => ?_)
      · skip
        have l_313 : (62 : Int32).toInt = 62 := rfl
        have e_314 := i_lt.mp (show r1 < (62 : Int32) from c_312)
        unfold cb_X6_step_70
        refine WP.ite (fun c_315 => ?_) (fun c_315 => ?_)
        · skip
          have l_316 : (66 : Int32).toInt = 66 := rfl
          have e_317 := i_lt.mp (show r1 < (66 : Int32) from c_315)
          unfold cb_X6_step_90
          refine WP.ite (fun c_318 => ?_) (fun c_318 => ?_)
          · skip
            have l_319 : (74 : Int32).toInt = 74 := rfl
            have e_320 := i_lt.mp (show r1 < (74 : Int32) from c_318)
            unfold cb_X6_step_110
            refine WP.ite (fun c_321 => ?_) (fun c_321 => ?_)
            · skip
              have l_322 : (84 : Int32).toInt = 84 := rfl
              have e_323 := i_lt.mp (show r1 < (84 : Int32) from c_321)
              unfold cb_X6_step_134
              have q_324 := i_rng (F 57)
              refine WP.bind (cs_X6_act hfu r1 (F 57) F1 G1 hI1) ?_
              rintro r325 F325 G325 ⟨hI325, hB325, hT325, hO325, hK325, hp325⟩
              dsimp only
              have q_326 := hI325.r 10 rfl
              have e_327 : (F325 10).toInt = (F1 10).toInt := hO325
              unfold cb_X6_step_140
              refine WP.ret ?_
              exact ⟨hI325, (KB.tr (KB.tr (KB.rf : KB F G F G) hB1) hB325), (KT.tr (KT.tr (rfl : KT F F) hT1) hT325), (KO.tr (KO.tr (rfl : KO F F) hO1) hO325), (KK.tr (KK.tr (rfl : KK F F) hK1) hK325), trivial⟩
            · skip
              have l_328 : (84 : Int32).toInt = 84 := rfl
              have e_329 := mt i_lt.mpr (show ¬ (r1 < (84 : Int32)) from c_321)
              unfold cb_X6_step_116
              refine WP.ite (fun c_330 => ?_) (fun c_330 => ?_)
              · skip
                have l_331 : (88 : Int32).toInt = 88 := rfl
                have e_332 := i_lt.mp (show (88 : Int32) < r1 from c_330)
                unfold cb_X6_step_134
                have q_333 := i_rng (F 57)
                refine WP.bind (cs_X6_act hfu r1 (F 57) F1 G1 hI1) ?_
                rintro r334 F334 G334 ⟨hI334, hB334, hT334, hO334, hK334, hp334⟩
                dsimp only
                have q_335 := hI334.r 10 rfl
                have e_336 : (F334 10).toInt = (F1 10).toInt := hO334
                unfold cb_X6_step_140
                refine WP.ret ?_
                exact ⟨hI334, (KB.tr (KB.tr (KB.rf : KB F G F G) hB1) hB334), (KT.tr (KT.tr (rfl : KT F F) hT1) hT334), (KO.tr (KO.tr (rfl : KO F F) hO1) hO334), (KK.tr (KK.tr (rfl : KK F F) hK1) hK334), trivial⟩
              · skip
                have l_337 : (88 : Int32).toInt = 88 := rfl
                have e_338 := mt i_lt.mpr (show ¬ ((88 : Int32) < r1) from c_330)
                unfold cb_X6_step_122
                refine WP.bind (cs_X6_next hfu F1 G1 hI1) ?_
                rintro r339 F339 G339 ⟨hI339, hB339, hT339, hO339, hK339, hp339⟩
                dsimp only
                have q_340 := hI339.r 10 rfl
                have e_341 : (F339 10).toInt = (F1 10).toInt := hO339
                unfold cb_X6_step_128
                have q_342 := i_rng r339
                refine WP.bind (cs_X6_jump hfu r1 r339 F339 G339 hI339) ?_
                rintro r343 F343 G343 ⟨hI343, hB343, hT343, hO343, hK343, hp343⟩
                dsimp only
                have q_344 := hI343.r 10 rfl
                have e_345 : (F343 10).toInt = (F339 10).toInt := hO343
                unfold cb_X6_step_131
                unfold cb_X6_step_140
                refine WP.ret ?_
                exact ⟨hI343, (KB.tr (KB.tr (KB.tr (KB.rf : KB F G F G) hB1) hB339) hB343), (KT.tr (KT.tr (KT.tr (rfl : KT F F) hT1) hT339) hT343), (KO.tr (KO.tr (KO.tr (rfl : KO F F) hO1) hO339) hO343), (KK.tr (KK.tr (KK.tr (rfl : KK F F) hK1) hK339) hK343), trivial⟩
          · skip
            have l_346 : (74 : Int32).toInt = 74 := rfl
            have e_347 := mt i_lt.mpr (show ¬ (r1 < (74 : Int32)) from c_318)
            unfold cb_X6_step_96
            refine WP.ite (fun c_348 => ?_) (fun c_348 => ?_)
            · skip
              have l_349 : (83 : Int32).toInt = 83 := rfl
              have e_350 := i_lt.mp (show (83 : Int32) < r1 from c_348)
              unfold cb_X6_step_110
              refine WP.ite (fun c_351 => ?_) (fun c_351 => ?_)
              · skip
                have l_352 : (84 : Int32).toInt = 84 := rfl
                have e_353 := i_lt.mp (show r1 < (84 : Int32) from c_351)
                unfold cb_X6_step_134
                have q_354 := i_rng (F 57)
                refine WP.bind (cs_X6_act hfu r1 (F 57) F1 G1 hI1) ?_
                rintro r355 F355 G355 ⟨hI355, hB355, hT355, hO355, hK355, hp355⟩
                dsimp only
                have q_356 := hI355.r 10 rfl
                have e_357 : (F355 10).toInt = (F1 10).toInt := hO355
                unfold cb_X6_step_140
                refine WP.ret ?_
                exact ⟨hI355, (KB.tr (KB.tr (KB.rf : KB F G F G) hB1) hB355), (KT.tr (KT.tr (rfl : KT F F) hT1) hT355), (KO.tr (KO.tr (rfl : KO F F) hO1) hO355), (KK.tr (KK.tr (rfl : KK F F) hK1) hK355), trivial⟩
              · skip
                have l_358 : (84 : Int32).toInt = 84 := rfl
                have e_359 := mt i_lt.mpr (show ¬ (r1 < (84 : Int32)) from c_351)
                unfold cb_X6_step_116
                refine WP.ite (fun c_360 => ?_) (fun c_360 => ?_)
                · skip
                  have l_361 : (88 : Int32).toInt = 88 := rfl
                  have e_362 := i_lt.mp (show (88 : Int32) < r1 from c_360)
                  unfold cb_X6_step_134
                  have q_363 := i_rng (F 57)
                  refine WP.bind (cs_X6_act hfu r1 (F 57) F1 G1 hI1) ?_
                  rintro r364 F364 G364 ⟨hI364, hB364, hT364, hO364, hK364, hp364⟩
                  dsimp only
                  have q_365 := hI364.r 10 rfl
                  have e_366 : (F364 10).toInt = (F1 10).toInt := hO364
                  unfold cb_X6_step_140
                  refine WP.ret ?_
                  exact ⟨hI364, (KB.tr (KB.tr (KB.rf : KB F G F G) hB1) hB364), (KT.tr (KT.tr (rfl : KT F F) hT1) hT364), (KO.tr (KO.tr (rfl : KO F F) hO1) hO364), (KK.tr (KK.tr (rfl : KK F F) hK1) hK364), trivial⟩
                · skip
                  have l_367 : (88 : Int32).toInt = 88 := rfl
                  have e_368 := mt i_lt.mpr (show ¬ ((88 : Int32) < r1) from c_360)
                  unfold cb_X6_step_122
                  refine WP.bind (cs_X6_next hfu F1 G1 hI1) ?_
                  rintro r369 F369 G369 ⟨hI369, hB369, hT369, hO369, hK369, hp369⟩
                  dsimp only
                  have q_370 := hI369.r 10 rfl
                  have e_371 : (F369 10).toInt = (F1 10).toInt := hO369
                  unfold cb_X6_step_128
                  have q_372 := i_rng r369
                  refine WP.bind (cs_X6_jump hfu r1 r369 F369 G369 hI369) ?_
                  rintro r373 F373 G373 ⟨hI373, hB373, hT373, hO373, hK373, hp373⟩
                  dsimp only
                  have q_374 := hI373.r 10 rfl
                  have e_375 : (F373 10).toInt = (F369 10).toInt := hO373
                  unfold cb_X6_step_131
                  unfold cb_X6_step_140
                  refine WP.ret ?_
                  exact ⟨hI373, (KB.tr (KB.tr (KB.tr (KB.rf : KB F G F G) hB1) hB369) hB373), (KT.tr (KT.tr (KT.tr (rfl : KT F F) hT1) hT369) hT373), (KO.tr (KO.tr (KO.tr (rfl : KO F F) hO1) hO369) hO373), (KK.tr (KK.tr (KK.tr (rfl : KK F F) hK1) hK369) hK373), trivial⟩
            · skip
              have l_376 : (83 : Int32).toInt = 83 := rfl
              have e_377 := mt i_lt.mpr (show ¬ ((83 : Int32) < r1) from c_348)
              unfold cb_X6_step_102
              refine WP.bind (cs_X6_reach hfu r1 F1 G1 hI1) ?_
              rintro r378 F378 G378 ⟨hI378, hB378, hT378, hO378, hK378, hp378⟩
              dsimp only
              have q_379 := hI378.r 10 rfl
              have e_380 : (F378 10).toInt = (F1 10).toInt := hO378
              unfold cb_X6_step_107
              unfold cb_X6_step_140
              refine WP.ret ?_
              exact ⟨hI378, (KB.tr (KB.tr (KB.rf : KB F G F G) hB1) hB378), (KT.tr (KT.tr (rfl : KT F F) hT1) hT378), (KO.tr (KO.tr (rfl : KO F F) hO1) hO378), (KK.tr (KK.tr (rfl : KK F F) hK1) hK378), trivial⟩
        · skip
          have l_381 : (66 : Int32).toInt = 66 := rfl
          have e_382 := mt i_lt.mpr (show ¬ (r1 < (66 : Int32)) from c_315)
          unfold cb_X6_step_76
          refine WP.ite (fun c_383 => ?_) (fun c_383 => ?_)
          · skip
            have l_384 : (73 : Int32).toInt = 73 := rfl
            have e_385 := i_lt.mp (show (73 : Int32) < r1 from c_383)
            unfold cb_X6_step_90
            refine WP.ite (fun c_386 => ?_) (fun c_386 => ?_)
            · skip
              have l_387 : (74 : Int32).toInt = 74 := rfl
              have e_388 := i_lt.mp (show r1 < (74 : Int32) from c_386)
              unfold cb_X6_step_110
              refine WP.ite (fun c_389 => ?_) (fun c_389 => ?_)
              · skip
                have l_390 : (84 : Int32).toInt = 84 := rfl
                have e_391 := i_lt.mp (show r1 < (84 : Int32) from c_389)
                unfold cb_X6_step_134
                have q_392 := i_rng (F 57)
                refine WP.bind (cs_X6_act hfu r1 (F 57) F1 G1 hI1) ?_
                rintro r393 F393 G393 ⟨hI393, hB393, hT393, hO393, hK393, hp393⟩
                dsimp only
                have q_394 := hI393.r 10 rfl
                have e_395 : (F393 10).toInt = (F1 10).toInt := hO393
                unfold cb_X6_step_140
                refine WP.ret ?_
                exact ⟨hI393, (KB.tr (KB.tr (KB.rf : KB F G F G) hB1) hB393), (KT.tr (KT.tr (rfl : KT F F) hT1) hT393), (KO.tr (KO.tr (rfl : KO F F) hO1) hO393), (KK.tr (KK.tr (rfl : KK F F) hK1) hK393), trivial⟩
              · skip
                have l_396 : (84 : Int32).toInt = 84 := rfl
                have e_397 := mt i_lt.mpr (show ¬ (r1 < (84 : Int32)) from c_389)
                unfold cb_X6_step_116
                refine WP.ite (fun c_398 => ?_) (fun c_398 => ?_)
                · skip
                  have l_399 : (88 : Int32).toInt = 88 := rfl
                  have e_400 := i_lt.mp (show (88 : Int32) < r1 from c_398)
                  unfold cb_X6_step_134
                  have q_401 := i_rng (F 57)
                  refine WP.bind (cs_X6_act hfu r1 (F 57) F1 G1 hI1) ?_
                  rintro r402 F402 G402 ⟨hI402, hB402, hT402, hO402, hK402, hp402⟩
                  dsimp only
                  have q_403 := hI402.r 10 rfl
                  have e_404 : (F402 10).toInt = (F1 10).toInt := hO402
                  unfold cb_X6_step_140
                  refine WP.ret ?_
                  exact ⟨hI402, (KB.tr (KB.tr (KB.rf : KB F G F G) hB1) hB402), (KT.tr (KT.tr (rfl : KT F F) hT1) hT402), (KO.tr (KO.tr (rfl : KO F F) hO1) hO402), (KK.tr (KK.tr (rfl : KK F F) hK1) hK402), trivial⟩
                · skip
                  have l_405 : (88 : Int32).toInt = 88 := rfl
                  have e_406 := mt i_lt.mpr (show ¬ ((88 : Int32) < r1) from c_398)
                  unfold cb_X6_step_122
                  refine WP.bind (cs_X6_next hfu F1 G1 hI1) ?_
                  rintro r407 F407 G407 ⟨hI407, hB407, hT407, hO407, hK407, hp407⟩
                  dsimp only
                  have q_408 := hI407.r 10 rfl
                  have e_409 : (F407 10).toInt = (F1 10).toInt := hO407
                  unfold cb_X6_step_128
                  have q_410 := i_rng r407
                  refine WP.bind (cs_X6_jump hfu r1 r407 F407 G407 hI407) ?_
                  rintro r411 F411 G411 ⟨hI411, hB411, hT411, hO411, hK411, hp411⟩
                  dsimp only
                  have q_412 := hI411.r 10 rfl
                  have e_413 : (F411 10).toInt = (F407 10).toInt := hO411
                  unfold cb_X6_step_131
                  unfold cb_X6_step_140
                  refine WP.ret ?_
                  exact ⟨hI411, (KB.tr (KB.tr (KB.tr (KB.rf : KB F G F G) hB1) hB407) hB411), (KT.tr (KT.tr (KT.tr (rfl : KT F F) hT1) hT407) hT411), (KO.tr (KO.tr (KO.tr (rfl : KO F F) hO1) hO407) hO411), (KK.tr (KK.tr (KK.tr (rfl : KK F F) hK1) hK407) hK411), trivial⟩
            · skip
              have l_414 : (74 : Int32).toInt = 74 := rfl
              have e_415 := mt i_lt.mpr (show ¬ (r1 < (74 : Int32)) from c_386)
              unfold cb_X6_step_96
              refine WP.ite (fun c_416 => ?_) (fun c_416 => ?_)
              · skip
                have l_417 : (83 : Int32).toInt = 83 := rfl
                have e_418 := i_lt.mp (show (83 : Int32) < r1 from c_416)
                unfold cb_X6_step_110
                refine WP.ite (fun c_419 => ?_) (fun c_419 => ?_)
                · skip
                  have l_420 : (84 : Int32).toInt = 84 := rfl
                  have e_421 := i_lt.mp (show r1 < (84 : Int32) from c_419)
                  unfold cb_X6_step_134
                  have q_422 := i_rng (F 57)
                  refine WP.bind (cs_X6_act hfu r1 (F 57) F1 G1 hI1) ?_
                  rintro r423 F423 G423 ⟨hI423, hB423, hT423, hO423, hK423, hp423⟩
                  dsimp only
                  have q_424 := hI423.r 10 rfl
                  have e_425 : (F423 10).toInt = (F1 10).toInt := hO423
                  unfold cb_X6_step_140
                  refine WP.ret ?_
                  exact ⟨hI423, (KB.tr (KB.tr (KB.rf : KB F G F G) hB1) hB423), (KT.tr (KT.tr (rfl : KT F F) hT1) hT423), (KO.tr (KO.tr (rfl : KO F F) hO1) hO423), (KK.tr (KK.tr (rfl : KK F F) hK1) hK423), trivial⟩
                · skip
                  have l_426 : (84 : Int32).toInt = 84 := rfl
                  have e_427 := mt i_lt.mpr (show ¬ (r1 < (84 : Int32)) from c_419)
                  unfold cb_X6_step_116
                  refine WP.ite (fun c_428 => ?_) (fun c_428 => ?_)
                  · skip
                    have l_429 : (88 : Int32).toInt = 88 := rfl
                    have e_430 := i_lt.mp (show (88 : Int32) < r1 from c_428)
                    unfold cb_X6_step_134
                    have q_431 := i_rng (F 57)
                    refine WP.bind (cs_X6_act hfu r1 (F 57) F1 G1 hI1) ?_
                    rintro r432 F432 G432 ⟨hI432, hB432, hT432, hO432, hK432, hp432⟩
                    dsimp only
                    have q_433 := hI432.r 10 rfl
                    have e_434 : (F432 10).toInt = (F1 10).toInt := hO432
                    unfold cb_X6_step_140
                    refine WP.ret ?_
                    exact ⟨hI432, (KB.tr (KB.tr (KB.rf : KB F G F G) hB1) hB432), (KT.tr (KT.tr (rfl : KT F F) hT1) hT432), (KO.tr (KO.tr (rfl : KO F F) hO1) hO432), (KK.tr (KK.tr (rfl : KK F F) hK1) hK432), trivial⟩
                  · skip
                    have l_435 : (88 : Int32).toInt = 88 := rfl
                    have e_436 := mt i_lt.mpr (show ¬ ((88 : Int32) < r1) from c_428)
                    unfold cb_X6_step_122
                    refine WP.bind (cs_X6_next hfu F1 G1 hI1) ?_
                    rintro r437 F437 G437 ⟨hI437, hB437, hT437, hO437, hK437, hp437⟩
                    dsimp only
                    have q_438 := hI437.r 10 rfl
                    have e_439 : (F437 10).toInt = (F1 10).toInt := hO437
                    unfold cb_X6_step_128
                    have q_440 := i_rng r437
                    refine WP.bind (cs_X6_jump hfu r1 r437 F437 G437 hI437) ?_
                    rintro r441 F441 G441 ⟨hI441, hB441, hT441, hO441, hK441, hp441⟩
                    dsimp only
                    have q_442 := hI441.r 10 rfl
                    have e_443 : (F441 10).toInt = (F437 10).toInt := hO441
                    unfold cb_X6_step_131
                    unfold cb_X6_step_140
                    refine WP.ret ?_
                    exact ⟨hI441, (KB.tr (KB.tr (KB.tr (KB.rf : KB F G F G) hB1) hB437) hB441), (KT.tr (KT.tr (KT.tr (rfl : KT F F) hT1) hT437) hT441), (KO.tr (KO.tr (KO.tr (rfl : KO F F) hO1) hO437) hO441), (KK.tr (KK.tr (KK.tr (rfl : KK F F) hK1) hK437) hK441), trivial⟩
              · skip
                have l_444 : (83 : Int32).toInt = 83 := rfl
                have e_445 := mt i_lt.mpr (show ¬ ((83 : Int32) < r1) from c_416)
                unfold cb_X6_step_102
                refine WP.bind (cs_X6_reach hfu r1 F1 G1 hI1) ?_
                rintro r446 F446 G446 ⟨hI446, hB446, hT446, hO446, hK446, hp446⟩
                dsimp only
                have q_447 := hI446.r 10 rfl
                have e_448 : (F446 10).toInt = (F1 10).toInt := hO446
                unfold cb_X6_step_107
                unfold cb_X6_step_140
                refine WP.ret ?_
                exact ⟨hI446, (KB.tr (KB.tr (KB.rf : KB F G F G) hB1) hB446), (KT.tr (KT.tr (rfl : KT F F) hT1) hT446), (KO.tr (KO.tr (rfl : KO F F) hO1) hO446), (KK.tr (KK.tr (rfl : KK F F) hK1) hK446), trivial⟩
          · skip
            have l_449 : (73 : Int32).toInt = 73 := rfl
            have e_450 := mt i_lt.mpr (show ¬ ((73 : Int32) < r1) from c_383)
            unfold cb_X6_step_82
            refine WP.bind (cs_X6_move hfu r1 F1 G1 hI1) ?_
            rintro r451 F451 G451 ⟨hI451, hB451, hT451, hO451, hK451, hp451⟩
            dsimp only
            have q_452 := hI451.r 10 rfl
            have e_453 : (F451 10).toInt = (F1 10).toInt := hO451
            unfold cb_X6_step_87
            unfold cb_X6_step_140
            refine WP.ret ?_
            exact ⟨hI451, (KB.tr (KB.tr (KB.rf : KB F G F G) hB1) hB451), (KT.tr (KT.tr (rfl : KT F F) hT1) hT451), (KO.tr (KO.tr (rfl : KO F F) hO1) hO451), (KK.tr (KK.tr (rfl : KK F F) hK1) hK451), trivial⟩
      · skip
        have l_454 : (62 : Int32).toInt = 62 := rfl
        have e_455 := mt i_lt.mpr (show ¬ (r1 < (62 : Int32)) from c_312)
        unfold cb_X6_step_49
        refine WP.ite (fun c_456 => ?_) (fun c_456 => ?_)
        · skip
          have l_457 : (65 : Int32).toInt = 65 := rfl
          have e_458 := i_lt.mp (show (65 : Int32) < r1 from c_456)
          unfold cb_X6_step_70
          refine WP.ite (fun c_459 => ?_) (fun c_459 => ?_)
          · skip
            have l_460 : (66 : Int32).toInt = 66 := rfl
            have e_461 := i_lt.mp (show r1 < (66 : Int32) from c_459)
            unfold cb_X6_step_90
            refine WP.ite (fun c_462 => ?_) (fun c_462 => ?_)
            · skip
              have l_463 : (74 : Int32).toInt = 74 := rfl
              have e_464 := i_lt.mp (show r1 < (74 : Int32) from c_462)
              unfold cb_X6_step_110
              refine WP.ite (fun c_465 => ?_) (fun c_465 => ?_)
              · skip
                have l_466 : (84 : Int32).toInt = 84 := rfl
                have e_467 := i_lt.mp (show r1 < (84 : Int32) from c_465)
                unfold cb_X6_step_134
                have q_468 := i_rng (F 57)
                refine WP.bind (cs_X6_act hfu r1 (F 57) F1 G1 hI1) ?_
                rintro r469 F469 G469 ⟨hI469, hB469, hT469, hO469, hK469, hp469⟩
                dsimp only
                have q_470 := hI469.r 10 rfl
                have e_471 : (F469 10).toInt = (F1 10).toInt := hO469
                unfold cb_X6_step_140
                refine WP.ret ?_
                exact ⟨hI469, (KB.tr (KB.tr (KB.rf : KB F G F G) hB1) hB469), (KT.tr (KT.tr (rfl : KT F F) hT1) hT469), (KO.tr (KO.tr (rfl : KO F F) hO1) hO469), (KK.tr (KK.tr (rfl : KK F F) hK1) hK469), trivial⟩
              · skip
                have l_472 : (84 : Int32).toInt = 84 := rfl
                have e_473 := mt i_lt.mpr (show ¬ (r1 < (84 : Int32)) from c_465)
                unfold cb_X6_step_116
                refine WP.ite (fun c_474 => ?_) (fun c_474 => ?_)
                · skip
                  have l_475 : (88 : Int32).toInt = 88 := rfl
                  have e_476 := i_lt.mp (show (88 : Int32) < r1 from c_474)
                  unfold cb_X6_step_134
                  have q_477 := i_rng (F 57)
                  refine WP.bind (cs_X6_act hfu r1 (F 57) F1 G1 hI1) ?_
                  rintro r478 F478 G478 ⟨hI478, hB478, hT478, hO478, hK478, hp478⟩
                  dsimp only
                  have q_479 := hI478.r 10 rfl
                  have e_480 : (F478 10).toInt = (F1 10).toInt := hO478
                  unfold cb_X6_step_140
                  refine WP.ret ?_
                  exact ⟨hI478, (KB.tr (KB.tr (KB.rf : KB F G F G) hB1) hB478), (KT.tr (KT.tr (rfl : KT F F) hT1) hT478), (KO.tr (KO.tr (rfl : KO F F) hO1) hO478), (KK.tr (KK.tr (rfl : KK F F) hK1) hK478), trivial⟩
                · skip
                  have l_481 : (88 : Int32).toInt = 88 := rfl
                  have e_482 := mt i_lt.mpr (show ¬ ((88 : Int32) < r1) from c_474)
                  unfold cb_X6_step_122
                  refine WP.bind (cs_X6_next hfu F1 G1 hI1) ?_
                  rintro r483 F483 G483 ⟨hI483, hB483, hT483, hO483, hK483, hp483⟩
                  dsimp only
                  have q_484 := hI483.r 10 rfl
                  have e_485 : (F483 10).toInt = (F1 10).toInt := hO483
                  unfold cb_X6_step_128
                  have q_486 := i_rng r483
                  refine WP.bind (cs_X6_jump hfu r1 r483 F483 G483 hI483) ?_
                  rintro r487 F487 G487 ⟨hI487, hB487, hT487, hO487, hK487, hp487⟩
                  dsimp only
                  have q_488 := hI487.r 10 rfl
                  have e_489 : (F487 10).toInt = (F483 10).toInt := hO487
                  unfold cb_X6_step_131
                  unfold cb_X6_step_140
                  refine WP.ret ?_
                  exact ⟨hI487, (KB.tr (KB.tr (KB.tr (KB.rf : KB F G F G) hB1) hB483) hB487), (KT.tr (KT.tr (KT.tr (rfl : KT F F) hT1) hT483) hT487), (KO.tr (KO.tr (KO.tr (rfl : KO F F) hO1) hO483) hO487), (KK.tr (KK.tr (KK.tr (rfl : KK F F) hK1) hK483) hK487), trivial⟩
            · skip
              have l_490 : (74 : Int32).toInt = 74 := rfl
              have e_491 := mt i_lt.mpr (show ¬ (r1 < (74 : Int32)) from c_462)
              unfold cb_X6_step_96
              refine WP.ite (fun c_492 => ?_) (fun c_492 => ?_)
              · skip
                have l_493 : (83 : Int32).toInt = 83 := rfl
                have e_494 := i_lt.mp (show (83 : Int32) < r1 from c_492)
                unfold cb_X6_step_110
                refine WP.ite (fun c_495 => ?_) (fun c_495 => ?_)
                · skip
                  have l_496 : (84 : Int32).toInt = 84 := rfl
                  have e_497 := i_lt.mp (show r1 < (84 : Int32) from c_495)
                  unfold cb_X6_step_134
                  have q_498 := i_rng (F 57)
                  refine WP.bind (cs_X6_act hfu r1 (F 57) F1 G1 hI1) ?_
                  rintro r499 F499 G499 ⟨hI499, hB499, hT499, hO499, hK499, hp499⟩
                  dsimp only
                  have q_500 := hI499.r 10 rfl
                  have e_501 : (F499 10).toInt = (F1 10).toInt := hO499
                  unfold cb_X6_step_140
                  refine WP.ret ?_
                  exact ⟨hI499, (KB.tr (KB.tr (KB.rf : KB F G F G) hB1) hB499), (KT.tr (KT.tr (rfl : KT F F) hT1) hT499), (KO.tr (KO.tr (rfl : KO F F) hO1) hO499), (KK.tr (KK.tr (rfl : KK F F) hK1) hK499), trivial⟩
                · skip
                  have l_502 : (84 : Int32).toInt = 84 := rfl
                  have e_503 := mt i_lt.mpr (show ¬ (r1 < (84 : Int32)) from c_495)
                  unfold cb_X6_step_116
                  refine WP.ite (fun c_504 => ?_) (fun c_504 => ?_)
                  · skip
                    have l_505 : (88 : Int32).toInt = 88 := rfl
                    have e_506 := i_lt.mp (show (88 : Int32) < r1 from c_504)
                    unfold cb_X6_step_134
                    have q_507 := i_rng (F 57)
                    refine WP.bind (cs_X6_act hfu r1 (F 57) F1 G1 hI1) ?_
                    rintro r508 F508 G508 ⟨hI508, hB508, hT508, hO508, hK508, hp508⟩
                    dsimp only
                    have q_509 := hI508.r 10 rfl
                    have e_510 : (F508 10).toInt = (F1 10).toInt := hO508
                    unfold cb_X6_step_140
                    refine WP.ret ?_
                    exact ⟨hI508, (KB.tr (KB.tr (KB.rf : KB F G F G) hB1) hB508), (KT.tr (KT.tr (rfl : KT F F) hT1) hT508), (KO.tr (KO.tr (rfl : KO F F) hO1) hO508), (KK.tr (KK.tr (rfl : KK F F) hK1) hK508), trivial⟩
                  · skip
                    have l_511 : (88 : Int32).toInt = 88 := rfl
                    have e_512 := mt i_lt.mpr (show ¬ ((88 : Int32) < r1) from c_504)
                    unfold cb_X6_step_122
                    refine WP.bind (cs_X6_next hfu F1 G1 hI1) ?_
                    rintro r513 F513 G513 ⟨hI513, hB513, hT513, hO513, hK513, hp513⟩
                    dsimp only
                    have q_514 := hI513.r 10 rfl
                    have e_515 : (F513 10).toInt = (F1 10).toInt := hO513
                    unfold cb_X6_step_128
                    have q_516 := i_rng r513
                    refine WP.bind (cs_X6_jump hfu r1 r513 F513 G513 hI513) ?_
                    rintro r517 F517 G517 ⟨hI517, hB517, hT517, hO517, hK517, hp517⟩
                    dsimp only
                    have q_518 := hI517.r 10 rfl
                    have e_519 : (F517 10).toInt = (F513 10).toInt := hO517
                    unfold cb_X6_step_131
                    unfold cb_X6_step_140
                    refine WP.ret ?_
                    exact ⟨hI517, (KB.tr (KB.tr (KB.tr (KB.rf : KB F G F G) hB1) hB513) hB517), (KT.tr (KT.tr (KT.tr (rfl : KT F F) hT1) hT513) hT517), (KO.tr (KO.tr (KO.tr (rfl : KO F F) hO1) hO513) hO517), (KK.tr (KK.tr (KK.tr (rfl : KK F F) hK1) hK513) hK517), trivial⟩
              · skip
                have l_520 : (83 : Int32).toInt = 83 := rfl
                have e_521 := mt i_lt.mpr (show ¬ ((83 : Int32) < r1) from c_492)
                unfold cb_X6_step_102
                refine WP.bind (cs_X6_reach hfu r1 F1 G1 hI1) ?_
                rintro r522 F522 G522 ⟨hI522, hB522, hT522, hO522, hK522, hp522⟩
                dsimp only
                have q_523 := hI522.r 10 rfl
                have e_524 : (F522 10).toInt = (F1 10).toInt := hO522
                unfold cb_X6_step_107
                unfold cb_X6_step_140
                refine WP.ret ?_
                exact ⟨hI522, (KB.tr (KB.tr (KB.rf : KB F G F G) hB1) hB522), (KT.tr (KT.tr (rfl : KT F F) hT1) hT522), (KO.tr (KO.tr (rfl : KO F F) hO1) hO522), (KK.tr (KK.tr (rfl : KK F F) hK1) hK522), trivial⟩
          · skip
            have l_525 : (66 : Int32).toInt = 66 := rfl
            have e_526 := mt i_lt.mpr (show ¬ (r1 < (66 : Int32)) from c_459)
            unfold cb_X6_step_76
            refine WP.ite (fun c_527 => ?_) (fun c_527 => ?_)
            · skip
              have l_528 : (73 : Int32).toInt = 73 := rfl
              have e_529 := i_lt.mp (show (73 : Int32) < r1 from c_527)
              unfold cb_X6_step_90
              refine WP.ite (fun c_530 => ?_) (fun c_530 => ?_)
              · skip
                have l_531 : (74 : Int32).toInt = 74 := rfl
                have e_532 := i_lt.mp (show r1 < (74 : Int32) from c_530)
                unfold cb_X6_step_110
                refine WP.ite (fun c_533 => ?_) (fun c_533 => ?_)
                · skip
                  have l_534 : (84 : Int32).toInt = 84 := rfl
                  have e_535 := i_lt.mp (show r1 < (84 : Int32) from c_533)
                  unfold cb_X6_step_134
                  have q_536 := i_rng (F 57)
                  refine WP.bind (cs_X6_act hfu r1 (F 57) F1 G1 hI1) ?_
                  rintro r537 F537 G537 ⟨hI537, hB537, hT537, hO537, hK537, hp537⟩
                  dsimp only
                  have q_538 := hI537.r 10 rfl
                  have e_539 : (F537 10).toInt = (F1 10).toInt := hO537
                  unfold cb_X6_step_140
                  refine WP.ret ?_
                  exact ⟨hI537, (KB.tr (KB.tr (KB.rf : KB F G F G) hB1) hB537), (KT.tr (KT.tr (rfl : KT F F) hT1) hT537), (KO.tr (KO.tr (rfl : KO F F) hO1) hO537), (KK.tr (KK.tr (rfl : KK F F) hK1) hK537), trivial⟩
                · skip
                  have l_540 : (84 : Int32).toInt = 84 := rfl
                  have e_541 := mt i_lt.mpr (show ¬ (r1 < (84 : Int32)) from c_533)
                  unfold cb_X6_step_116
                  refine WP.ite (fun c_542 => ?_) (fun c_542 => ?_)
                  · skip
                    have l_543 : (88 : Int32).toInt = 88 := rfl
                    have e_544 := i_lt.mp (show (88 : Int32) < r1 from c_542)
                    unfold cb_X6_step_134
                    have q_545 := i_rng (F 57)
                    refine WP.bind (cs_X6_act hfu r1 (F 57) F1 G1 hI1) ?_
                    rintro r546 F546 G546 ⟨hI546, hB546, hT546, hO546, hK546, hp546⟩
                    dsimp only
                    have q_547 := hI546.r 10 rfl
                    have e_548 : (F546 10).toInt = (F1 10).toInt := hO546
                    unfold cb_X6_step_140
                    refine WP.ret ?_
                    exact ⟨hI546, (KB.tr (KB.tr (KB.rf : KB F G F G) hB1) hB546), (KT.tr (KT.tr (rfl : KT F F) hT1) hT546), (KO.tr (KO.tr (rfl : KO F F) hO1) hO546), (KK.tr (KK.tr (rfl : KK F F) hK1) hK546), trivial⟩
                  · skip
                    have l_549 : (88 : Int32).toInt = 88 := rfl
                    have e_550 := mt i_lt.mpr (show ¬ ((88 : Int32) < r1) from c_542)
                    unfold cb_X6_step_122
                    refine WP.bind (cs_X6_next hfu F1 G1 hI1) ?_
                    rintro r551 F551 G551 ⟨hI551, hB551, hT551, hO551, hK551, hp551⟩
                    dsimp only
                    have q_552 := hI551.r 10 rfl
                    have e_553 : (F551 10).toInt = (F1 10).toInt := hO551
                    unfold cb_X6_step_128
                    have q_554 := i_rng r551
                    refine WP.bind (cs_X6_jump hfu r1 r551 F551 G551 hI551) ?_
                    rintro r555 F555 G555 ⟨hI555, hB555, hT555, hO555, hK555, hp555⟩
                    dsimp only
                    have q_556 := hI555.r 10 rfl
                    have e_557 : (F555 10).toInt = (F551 10).toInt := hO555
                    unfold cb_X6_step_131
                    unfold cb_X6_step_140
                    refine WP.ret ?_
                    exact ⟨hI555, (KB.tr (KB.tr (KB.tr (KB.rf : KB F G F G) hB1) hB551) hB555), (KT.tr (KT.tr (KT.tr (rfl : KT F F) hT1) hT551) hT555), (KO.tr (KO.tr (KO.tr (rfl : KO F F) hO1) hO551) hO555), (KK.tr (KK.tr (KK.tr (rfl : KK F F) hK1) hK551) hK555), trivial⟩
              · skip
                have l_558 : (74 : Int32).toInt = 74 := rfl
                have e_559 := mt i_lt.mpr (show ¬ (r1 < (74 : Int32)) from c_530)
                unfold cb_X6_step_96
                refine WP.ite (fun c_560 => ?_) (fun c_560 => ?_)
                · skip
                  have l_561 : (83 : Int32).toInt = 83 := rfl
                  have e_562 := i_lt.mp (show (83 : Int32) < r1 from c_560)
                  unfold cb_X6_step_110
                  refine WP.ite (fun c_563 => ?_) (fun c_563 => ?_)
                  · skip
                    have l_564 : (84 : Int32).toInt = 84 := rfl
                    have e_565 := i_lt.mp (show r1 < (84 : Int32) from c_563)
                    unfold cb_X6_step_134
                    have q_566 := i_rng (F 57)
                    refine WP.bind (cs_X6_act hfu r1 (F 57) F1 G1 hI1) ?_
                    rintro r567 F567 G567 ⟨hI567, hB567, hT567, hO567, hK567, hp567⟩
                    dsimp only
                    have q_568 := hI567.r 10 rfl
                    have e_569 : (F567 10).toInt = (F1 10).toInt := hO567
                    unfold cb_X6_step_140
                    refine WP.ret ?_
                    exact ⟨hI567, (KB.tr (KB.tr (KB.rf : KB F G F G) hB1) hB567), (KT.tr (KT.tr (rfl : KT F F) hT1) hT567), (KO.tr (KO.tr (rfl : KO F F) hO1) hO567), (KK.tr (KK.tr (rfl : KK F F) hK1) hK567), trivial⟩
                  · skip
                    have l_570 : (84 : Int32).toInt = 84 := rfl
                    have e_571 := mt i_lt.mpr (show ¬ (r1 < (84 : Int32)) from c_563)
                    unfold cb_X6_step_116
                    refine WP.ite (fun c_572 => ?_) (fun c_572 => ?_)
                    · skip
                      have l_573 : (88 : Int32).toInt = 88 := rfl
                      have e_574 := i_lt.mp (show (88 : Int32) < r1 from c_572)
                      unfold cb_X6_step_134
                      have q_575 := i_rng (F 57)
                      refine WP.bind (cs_X6_act hfu r1 (F 57) F1 G1 hI1) ?_
                      rintro r576 F576 G576 ⟨hI576, hB576, hT576, hO576, hK576, hp576⟩
                      dsimp only
                      have q_577 := hI576.r 10 rfl
                      have e_578 : (F576 10).toInt = (F1 10).toInt := hO576
                      unfold cb_X6_step_140
                      refine WP.ret ?_
                      exact ⟨hI576, (KB.tr (KB.tr (KB.rf : KB F G F G) hB1) hB576), (KT.tr (KT.tr (rfl : KT F F) hT1) hT576), (KO.tr (KO.tr (rfl : KO F F) hO1) hO576), (KK.tr (KK.tr (rfl : KK F F) hK1) hK576), trivial⟩
                    · skip
                      have l_579 : (88 : Int32).toInt = 88 := rfl
                      have e_580 := mt i_lt.mpr (show ¬ ((88 : Int32) < r1) from c_572)
                      unfold cb_X6_step_122
                      refine WP.bind (cs_X6_next hfu F1 G1 hI1) ?_
                      rintro r581 F581 G581 ⟨hI581, hB581, hT581, hO581, hK581, hp581⟩
                      dsimp only
                      have q_582 := hI581.r 10 rfl
                      have e_583 : (F581 10).toInt = (F1 10).toInt := hO581
                      unfold cb_X6_step_128
                      have q_584 := i_rng r581
                      refine WP.bind (cs_X6_jump hfu r1 r581 F581 G581 hI581) ?_
                      rintro r585 F585 G585 ⟨hI585, hB585, hT585, hO585, hK585, hp585⟩
                      dsimp only
                      have q_586 := hI585.r 10 rfl
                      have e_587 : (F585 10).toInt = (F581 10).toInt := hO585
                      unfold cb_X6_step_131
                      unfold cb_X6_step_140
                      refine WP.ret ?_
                      exact ⟨hI585, (KB.tr (KB.tr (KB.tr (KB.rf : KB F G F G) hB1) hB581) hB585), (KT.tr (KT.tr (KT.tr (rfl : KT F F) hT1) hT581) hT585), (KO.tr (KO.tr (KO.tr (rfl : KO F F) hO1) hO581) hO585), (KK.tr (KK.tr (KK.tr (rfl : KK F F) hK1) hK581) hK585), trivial⟩
                · skip
                  have l_588 : (83 : Int32).toInt = 83 := rfl
                  have e_589 := mt i_lt.mpr (show ¬ ((83 : Int32) < r1) from c_560)
                  unfold cb_X6_step_102
                  refine WP.bind (cs_X6_reach hfu r1 F1 G1 hI1) ?_
                  rintro r590 F590 G590 ⟨hI590, hB590, hT590, hO590, hK590, hp590⟩
                  dsimp only
                  have q_591 := hI590.r 10 rfl
                  have e_592 : (F590 10).toInt = (F1 10).toInt := hO590
                  unfold cb_X6_step_107
                  unfold cb_X6_step_140
                  refine WP.ret ?_
                  exact ⟨hI590, (KB.tr (KB.tr (KB.rf : KB F G F G) hB1) hB590), (KT.tr (KT.tr (rfl : KT F F) hT1) hT590), (KO.tr (KO.tr (rfl : KO F F) hO1) hO590), (KK.tr (KK.tr (rfl : KK F F) hK1) hK590), trivial⟩
            · skip
              have l_593 : (73 : Int32).toInt = 73 := rfl
              have e_594 := mt i_lt.mpr (show ¬ ((73 : Int32) < r1) from c_527)
              unfold cb_X6_step_82
              refine WP.bind (cs_X6_move hfu r1 F1 G1 hI1) ?_
              rintro r595 F595 G595 ⟨hI595, hB595, hT595, hO595, hK595, hp595⟩
              dsimp only
              have q_596 := hI595.r 10 rfl
              have e_597 : (F595 10).toInt = (F1 10).toInt := hO595
              unfold cb_X6_step_87
              unfold cb_X6_step_140
              refine WP.ret ?_
              exact ⟨hI595, (KB.tr (KB.tr (KB.rf : KB F G F G) hB1) hB595), (KT.tr (KT.tr (rfl : KT F F) hT1) hT595), (KO.tr (KO.tr (rfl : KO F F) hO1) hO595), (KK.tr (KK.tr (rfl : KK F F) hK1) hK595), trivial⟩
        · skip
          have l_598 : (65 : Int32).toInt = 65 := rfl
          have e_599 := mt i_lt.mpr (show ¬ ((65 : Int32) < r1) from c_456)
          unfold cb_X6_step_55
          refine WP.bind (cs_X6_pop hfu F1 G1 hI1) ?_
          rintro r600 F600 G600 ⟨hI600, hB600, hT600, hO600, hK600, hp600⟩
          dsimp only
          have q_601 := hI600.r 10 rfl
          have e_602 : (F600 10).toInt = (F1 10).toInt := hO600
          unfold cb_X6_step_61
          have q_603 := i_rng r600
          refine WP.bind (cs_X6_changed hfu r1 r600 F600 G600 hI600) ?_
          rintro r604 _ _ ⟨rfl, rfl, hp604⟩
          dsimp only
          unfold cb_X6_step_64
          have q_605 := i_rng r604
          refine WP.bind (cs_X6_push hfu r604 F600 G600 hI600) ?_
          rintro r606 F606 G606 ⟨hI606, hB606, hT606, hO606, hK606, hp606⟩
          dsimp only
          have q_607 := hI606.r 10 rfl
          have e_608 : (F606 10).toInt = (F600 10).toInt := hO606
          unfold cb_X6_step_67
          unfold cb_X6_step_140
          refine WP.ret ?_
          exact ⟨hI606, (KB.tr (KB.tr (KB.tr (KB.rf : KB F G F G) hB1) hB600) hB606), (KT.tr (KT.tr (KT.tr (rfl : KT F F) hT1) hT600) hT606), (KO.tr (KO.tr (KO.tr (rfl : KO F F) hO1) hO600) hO606), (KK.tr (KK.tr (KK.tr (rfl : KK F F) hK1) hK600) hK606), trivial⟩
    · skip
      have l_609 : (61 : Int32).toInt = 61 := rfl
      have e_610 := mt i_lt.mpr (show ¬ ((61 : Int32) < r1) from c_309)
      unfold cb_X6_step_22
      refine WP.bind (cs_X6_pop hfu F1 G1 hI1) ?_
      rintro r611 F611 G611 ⟨hI611, hB611, hT611, hO611, hK611, hp611⟩
      dsimp only
      have q_612 := hI611.r 10 rfl
      have e_613 : (F611 10).toInt = (F1 10).toInt := hO611
      unfold cb_X6_step_26
      refine WP.bind (cs_X6_pop hfu F611 G611 hI611) ?_
      rintro r614 F614 G614 ⟨hI614, hB614, hT614, hO614, hK614, hp614⟩
      dsimp only
      have q_615 := hI614.r 10 rfl
      have e_616 : (F614 10).toInt = (F611 10).toInt := hO614
      unfold cb_X6_step_33
      have q_617 := i_rng r614
      have q_618 := i_rng r611
      refine WP.bind (cs_X11_joined hfu r1 r614 r611 F614 G614 hI614) ?_
      rintro r619 _ _ ⟨rfl, rfl, hp619⟩
      dsimp only
      unfold cb_X6_step_37
      have q_620 := i_rng r619
      refine WP.bind (cs_X6_push hfu r619 F614 G614 hI614) ?_
      rintro r621 F621 G621 ⟨hI621, hB621, hT621, hO621, hK621, hp621⟩
      dsimp only
      have q_622 := hI621.r 10 rfl
      have e_623 : (F621 10).toInt = (F614 10).toInt := hO621
      unfold cb_X6_step_40
      unfold cb_X6_step_140
      refine WP.ret ?_
      exact ⟨hI621, (KB.tr (KB.tr (KB.tr (KB.tr (KB.rf : KB F G F G) hB1) hB611) hB614) hB621), (KT.tr (KT.tr (KT.tr (KT.tr (rfl : KT F F) hT1) hT611) hT614) hT621), (KO.tr (KO.tr (KO.tr (KO.tr (rfl : KO F F) hO1) hO611) hO614) hO621), (KK.tr (KK.tr (KK.tr (KK.tr (rfl : KK F F) hK1) hK611) hK614) hK621), trivial⟩
