theorem cs_X10_behindSign {fu : Nat} (hfu : 8589934592 ≤ fu) (x1 : Int32) (x2 : Int32) (F : PF) (G : PG) (hI : CI F G) (ha : 0 ≤ x1.toInt) (hb : x1.toInt ≤ 4000) : WP (cf_X10_behindSign fu x1 x2 F G) (fun r' F' G' => CI F' G' ∧ KB F G F' G' ∧ KT F F' ∧ KO F F' ∧ KK F F' ∧ ((r'.toInt = -1 ∨ (0 ≤ r'.toInt ∧ r'.toInt ≤ 4010)))) := by
  unfold cf_X10_behindSign
  unfold cb_X10_behindSign_0
  have q_1 := i_rng ((x2.toUInt32 % 65536).toInt32)
  refine WP.bind (cs_J0_indexOf_0f7a4 hfu 3 ((x2.toUInt32 % 65536).toInt32) F G hI (by decide)) ?_
  rintro r2 _ _ ⟨rfl, rfl, hp2⟩
  dsimp only
  unfold cb_X10_behindSign_7
  have q_3 := i_rng x1
  first | have e_4 : (x1 + (1 : Int32)).toInt = x1.toInt + (1) := i_addn x1 rfl (by omega) (by omega) | have e_5 := i_rng (x1 + (1 : Int32))
  refine WP.bind (cs_X9_at hfu (x1 + (1 : Int32)) F G hI) ?_
  rintro r6 _ _ ⟨rfl, rfl, hp6⟩
  dsimp only
  unfold cb_X10_behindSign_22
  refine WP.ite (fun c_7 => ?_) (fun c_7 => ?_)
  · skip
    have q_8 := i_rng r2
    have l_9 : (0 : Int32).toInt = 0 := rfl
    have e_10 := i_lt.mp (show r2 < (0 : Int32) from c_7)
    unfold cb_X10_behindSign_49
    refine WP.ret ?_
    have l_11 : (-1 : Int32).toInt = -1 := rfl
    exact ⟨hI, (KB.rf : KB F G F G), (rfl : KT F F), (rfl : KO F F), (rfl : KK F F), (show (-1 : Int32).toInt = -1 ∨ (0 ≤ (-1 : Int32).toInt ∧ (-1 : Int32).toInt ≤ 4010) by omega)⟩
  · skip
    have q_12 := i_rng r2
    have l_13 : (0 : Int32).toInt = 0 := rfl
    have e_14 := mt i_lt.mpr (show ¬ (r2 < (0 : Int32)) from c_7)
    unfold cb_X10_behindSign_28
    refine WP.ite (fun c_15 => ?_) (fun c_15 => ?_)
    · skip
      have l_16 : (23 : Int32).toInt = 23 := rfl
      have e_17 := i_le.mp (show (23 : Int32) ≤ r2 from c_15)
      unfold cb_X10_behindSign_49
      refine WP.ret ?_
      have l_18 : (-1 : Int32).toInt = -1 := rfl
      exact ⟨hI, (KB.rf : KB F G F G), (rfl : KT F F), (rfl : KO F F), (rfl : KK F F), (show (-1 : Int32).toInt = -1 ∨ (0 ≤ (-1 : Int32).toInt ∧ (-1 : Int32).toInt ≤ 4010) by omega)⟩
    · skip
      have l_19 : (23 : Int32).toInt = 23 := rfl
      have e_20 := mt i_le.mpr (show ¬ ((23 : Int32) ≤ r2) from c_15)
      unfold cb_X10_behindSign_36
      refine WP.ite (fun c_21 => ?_) (fun c_21 => ?_)
      · skip
        have q_22 := i_rng x2
        have l_23 : (47 : Int32).toInt = 47 := rfl
        have e_24 := i_eq.mp (show x2 = (47 : Int32) from c_21)
        unfold cb_X10_behindSign_42
        refine WP.ite (fun c_25 => ?_) (fun c_25 => ?_)
        · skip
          have q_26 := i_rng r6
          have l_27 : (42 : Int32).toInt = 42 := rfl
          have e_28 := i_eq.mp (show r6 = (42 : Int32) from c_25)
          unfold cb_X10_behindSign_49
          refine WP.ret ?_
          have l_29 : (-1 : Int32).toInt = -1 := rfl
          exact ⟨hI, (KB.rf : KB F G F G), (rfl : KT F F), (rfl : KO F F), (rfl : KK F F), (show (-1 : Int32).toInt = -1 ∨ (0 ≤ (-1 : Int32).toInt ∧ (-1 : Int32).toInt ≤ 4010) by omega)⟩
        · skip
          have q_30 := i_rng r6
          have l_31 : (42 : Int32).toInt = 42 := rfl
          have e_32 := mt i_eq.mpr (show ¬ (r6 = (42 : Int32)) from c_25)
          unfold cb_X10_behindSign_51
          refine WP.ix (show vp_in r2 23 from vp_in_iff.mpr ⟨by omega, by omega⟩) ?_
          refine WP.ite (fun c_33 => ?_) (fun c_33 => ?_)
          · skip
            have e_34 := i_eq.mp (show r6 = x2 from c_33)
            unfold cb_X10_behindSign_64
            refine WP.ix (show vp_in r2 23 from vp_in_iff.mpr ⟨by omega, by omega⟩) ?_
            refine WP.ite (fun c_35 => ?_) (fun c_35 => ?_)
            · skip
              have q_36 := i_rng (tb_3 r2.toNatClampNeg)
              have e_37 := i_eq.mp (show (tb_3 r2.toNatClampNeg) = (0 : Int32) from c_35)
              unfold cb_X10_behindSign_153
              refine WP.ite (fun c_38 => ?_) (fun c_38 => ?_)
              · skip
                have l_39 : (61 : Int32).toInt = 61 := rfl
                have e_40 := i_eq.mp (show r6 = (61 : Int32) from c_38)
                unfold cb_X10_behindSign_160
                refine WP.ix (show vp_in r2 23 from vp_in_iff.mpr ⟨by omega, by omega⟩) ?_
                refine WP.ite (fun c_41 => ?_) (fun c_41 => ?_)
                · skip
                  have q_42 := i_rng (tb_4 r2.toNatClampNeg)
                  have e_43 := i_eq.mp (show (tb_4 r2.toNatClampNeg) = (0 : Int32) from c_41)
                  unfold cb_X10_behindSign_178
                  have q_44 := i_rng (tb_2 r2.toNatClampNeg)
                  refine WP.bind (cs_X10_add hfu (tb_2 r2.toNatClampNeg) (0 : Int32) x1 F G hI) ?_
                  rintro r45 F45 G45 ⟨hI45, hB45, hT45, hO45, hK45, hp45⟩
                  dsimp only
                  have q_46 := hI.r 10 rfl
                  have q_47 := hI45.r 10 rfl
                  have e_48 : (F45 10).toInt = (F 10).toInt := hO45
                  unfold cb_X10_behindSign_186
                  refine WP.ret ?_
                  exact ⟨hI45, (KB.tr (KB.rf : KB F G F G) hB45), (KT.tr (rfl : KT F F) hT45), (KO.tr (rfl : KO F F) hO45), (KK.tr (rfl : KK F F) hK45), (show (x1 + (1 : Int32)).toInt = -1 ∨ (0 ≤ (x1 + (1 : Int32)).toInt ∧ (x1 + (1 : Int32)).toInt ≤ 4010) by omega)⟩
                · skip
                  have q_49 := i_rng (tb_4 r2.toNatClampNeg)
                  have e_50 := mt i_eq.mpr (show ¬ ((tb_4 r2.toNatClampNeg) = (0 : Int32)) from c_41)
                  unfold cb_X10_behindSign_168
                  refine WP.ix (show vp_in r2 23 from vp_in_iff.mpr ⟨by omega, by omega⟩) ?_
                  unfold cb_X10_behindSign_178
                  refine WP.bind (cs_X10_add hfu (tb_4 r2.toNatClampNeg) (0 : Int32) x1 F G hI) ?_
                  rintro r51 F51 G51 ⟨hI51, hB51, hT51, hO51, hK51, hp51⟩
                  dsimp only
                  have q_52 := hI.r 10 rfl
                  have q_53 := hI51.r 10 rfl
                  have e_54 : (F51 10).toInt = (F 10).toInt := hO51
                  unfold cb_X10_behindSign_186
                  refine WP.ret ?_
                  first | have e_55 : ((x1 + (1 : Int32)) + (1 : Int32)).toInt = (x1 + (1 : Int32)).toInt + (1) := i_addn (x1 + (1 : Int32)) rfl (by omega) (by omega) | have e_56 := i_rng ((x1 + (1 : Int32)) + (1 : Int32))
                  exact ⟨hI51, (KB.tr (KB.rf : KB F G F G) hB51), (KT.tr (rfl : KT F F) hT51), (KO.tr (rfl : KO F F) hO51), (KK.tr (rfl : KK F F) hK51), (show ((x1 + (1 : Int32)) + (1 : Int32)).toInt = -1 ∨ (0 ≤ ((x1 + (1 : Int32)) + (1 : Int32)).toInt ∧ ((x1 + (1 : Int32)) + (1 : Int32)).toInt ≤ 4010) by omega)⟩
              · skip
                have l_57 : (61 : Int32).toInt = 61 := rfl
                have e_58 := mt i_eq.mpr (show ¬ (r6 = (61 : Int32)) from c_38)
                unfold cb_X10_behindSign_178
                have q_59 := i_rng (tb_2 r2.toNatClampNeg)
                refine WP.bind (cs_X10_add hfu (tb_2 r2.toNatClampNeg) (0 : Int32) x1 F G hI) ?_
                rintro r60 F60 G60 ⟨hI60, hB60, hT60, hO60, hK60, hp60⟩
                dsimp only
                have q_61 := hI.r 10 rfl
                have q_62 := hI60.r 10 rfl
                have e_63 : (F60 10).toInt = (F 10).toInt := hO60
                unfold cb_X10_behindSign_186
                refine WP.ret ?_
                exact ⟨hI60, (KB.tr (KB.rf : KB F G F G) hB60), (KT.tr (rfl : KT F F) hT60), (KO.tr (rfl : KO F F) hO60), (KK.tr (rfl : KK F F) hK60), (show (x1 + (1 : Int32)).toInt = -1 ∨ (0 ≤ (x1 + (1 : Int32)).toInt ∧ (x1 + (1 : Int32)).toInt ≤ 4010) by omega)⟩
            · skip
              have q_64 := i_rng (tb_3 r2.toNatClampNeg)
              have e_65 := mt i_eq.mpr (show ¬ ((tb_3 r2.toNatClampNeg) = (0 : Int32)) from c_35)
              unfold cb_X10_behindSign_72
              refine WP.ix (show vp_in r2 23 from vp_in_iff.mpr ⟨by omega, by omega⟩) ?_
              refine WP.ite (fun c_66 => ?_) (fun c_66 => ?_)
              · skip
                have l_67 : (55 : Int32).toInt = 55 := rfl
                have e_68 := i_eq.mp (show (tb_3 r2.toNatClampNeg) = (55 : Int32) from c_66)
                unfold cb_X10_behindSign_89
                first | have e_69 : ((x1 + (1 : Int32)) + (1 : Int32)).toInt = (x1 + (1 : Int32)).toInt + (1) := i_addn (x1 + (1 : Int32)) rfl (by omega) (by omega) | have e_70 := i_rng ((x1 + (1 : Int32)) + (1 : Int32))
                refine WP.bind (cs_X9_at hfu ((x1 + (1 : Int32)) + (1 : Int32)) F G hI) ?_
                rintro r71 _ _ ⟨rfl, rfl, hp71⟩
                dsimp only
                unfold cb_X10_behindSign_98
                refine WP.ite (fun c_72 => ?_) (fun c_72 => ?_)
                · skip
                  have q_73 := i_rng r71
                  have e_74 := i_eq.mp (show r71 = x2 from c_72)
                  unfold cb_X10_behindSign_102
                  unfold cb_X10_behindSign_109
                  refine WP.ite (fun c_75 => absurd c_75 (by decide)) (fun _ => ?_)
                  unfold cb_X10_behindSign_116
                  refine WP.ite (fun c_76 => absurd c_76 (by decide)) (fun _ => ?_)
                  unfold cb_X10_behindSign_123
                  first | have e_77 : (((x1 + (1 : Int32)) + (1 : Int32)) + (1 : Int32)).toInt = ((x1 + (1 : Int32)) + (1 : Int32)).toInt + (1) := i_addn ((x1 + (1 : Int32)) + (1 : Int32)) rfl (by omega) (by omega) | have e_78 := i_rng (((x1 + (1 : Int32)) + (1 : Int32)) + (1 : Int32))
                  refine WP.bind (cs_X9_at hfu (((x1 + (1 : Int32)) + (1 : Int32)) + (1 : Int32)) F G hI) ?_
                  rintro r79 _ _ ⟨rfl, rfl, hp79⟩
                  dsimp only
                  unfold cb_X10_behindSign_132
                  refine WP.ite (fun c_80 => ?_) (fun c_80 => ?_)
                  · skip
                    have q_81 := i_rng r79
                    have l_82 : (61 : Int32).toInt = 61 := rfl
                    have e_83 := i_eq.mp (show r79 = (61 : Int32) from c_80)
                    unfold cb_X10_behindSign_137
                    unfold cb_X10_behindSign_178
                    have l_84 : (56 : Int32).toInt = 56 := rfl
                    first | have e_85 : ((56 : Int32) - (54 : Int32)).toInt = (56 : Int32).toInt - (54) := i_subn (56 : Int32) rfl (by omega) (by omega) | have e_86 := i_rng ((56 : Int32) - (54 : Int32))
                    first | have e_87 : (((56 : Int32) - (54 : Int32)) + (38 : Int32)).toInt = ((56 : Int32) - (54 : Int32)).toInt + (38) := i_addn ((56 : Int32) - (54 : Int32)) rfl (by omega) (by omega) | have e_88 := i_rng (((56 : Int32) - (54 : Int32)) + (38 : Int32))
                    refine WP.bind (cs_X10_add hfu (((56 : Int32) - (54 : Int32)) + (38 : Int32)) (0 : Int32) x1 F G hI) ?_
                    rintro r89 F89 G89 ⟨hI89, hB89, hT89, hO89, hK89, hp89⟩
                    dsimp only
                    have q_90 := hI.r 10 rfl
                    have q_91 := hI89.r 10 rfl
                    have e_92 : (F89 10).toInt = (F 10).toInt := hO89
                    unfold cb_X10_behindSign_186
                    refine WP.ret ?_
                    first | have e_93 : ((((x1 + (1 : Int32)) + (1 : Int32)) + (1 : Int32)) + (1 : Int32)).toInt = (((x1 + (1 : Int32)) + (1 : Int32)) + (1 : Int32)).toInt + (1) := i_addn (((x1 + (1 : Int32)) + (1 : Int32)) + (1 : Int32)) rfl (by omega) (by omega) | have e_94 := i_rng ((((x1 + (1 : Int32)) + (1 : Int32)) + (1 : Int32)) + (1 : Int32))
                    exact ⟨hI89, (KB.tr (KB.rf : KB F G F G) hB89), (KT.tr (rfl : KT F F) hT89), (KO.tr (rfl : KO F F) hO89), (KK.tr (rfl : KK F F) hK89), (show ((((x1 + (1 : Int32)) + (1 : Int32)) + (1 : Int32)) + (1 : Int32)).toInt = -1 ∨ (0 ≤ ((((x1 + (1 : Int32)) + (1 : Int32)) + (1 : Int32)) + (1 : Int32)).toInt ∧ ((((x1 + (1 : Int32)) + (1 : Int32)) + (1 : Int32)) + (1 : Int32)).toInt ≤ 4010) by omega)⟩
                  · skip
                    have q_95 := i_rng r79
                    have l_96 : (61 : Int32).toInt = 61 := rfl
                    have e_97 := mt i_eq.mpr (show ¬ (r79 = (61 : Int32)) from c_80)
                    unfold cb_X10_behindSign_178
                    have l_98 : (56 : Int32).toInt = 56 := rfl
                    refine WP.bind (cs_X10_add hfu (56 : Int32) (0 : Int32) x1 F G hI) ?_
                    rintro r99 F99 G99 ⟨hI99, hB99, hT99, hO99, hK99, hp99⟩
                    dsimp only
                    have q_100 := hI.r 10 rfl
                    have q_101 := hI99.r 10 rfl
                    have e_102 : (F99 10).toInt = (F 10).toInt := hO99
                    unfold cb_X10_behindSign_186
                    refine WP.ret ?_
                    exact ⟨hI99, (KB.tr (KB.rf : KB F G F G) hB99), (KT.tr (rfl : KT F F) hT99), (KO.tr (rfl : KO F F) hO99), (KK.tr (rfl : KK F F) hK99), (show (((x1 + (1 : Int32)) + (1 : Int32)) + (1 : Int32)).toInt = -1 ∨ (0 ≤ (((x1 + (1 : Int32)) + (1 : Int32)) + (1 : Int32)).toInt ∧ (((x1 + (1 : Int32)) + (1 : Int32)) + (1 : Int32)).toInt ≤ 4010) by omega)⟩
                · skip
                  have q_103 := i_rng r71
                  have e_104 := mt i_eq.mpr (show ¬ (r71 = x2) from c_72)
                  unfold cb_X10_behindSign_109
                  refine WP.ite (fun c_105 => ?_) (fun c_105 => ?_)
                  · skip
                    have l_106 : (54 : Int32).toInt = 54 := rfl
                    have e_107 := i_lt.mp (show (tb_3 r2.toNatClampNeg) < (54 : Int32) from c_105)
                    unfold cb_X10_behindSign_178
                    refine WP.bind (cs_X10_add hfu (tb_3 r2.toNatClampNeg) (0 : Int32) x1 F G hI) ?_
                    rintro r108 F108 G108 ⟨hI108, hB108, hT108, hO108, hK108, hp108⟩
                    dsimp only
                    have q_109 := hI.r 10 rfl
                    have q_110 := hI108.r 10 rfl
                    have e_111 : (F108 10).toInt = (F 10).toInt := hO108
                    unfold cb_X10_behindSign_186
                    refine WP.ret ?_
                    exact ⟨hI108, (KB.tr (KB.rf : KB F G F G) hB108), (KT.tr (rfl : KT F F) hT108), (KO.tr (rfl : KO F F) hO108), (KK.tr (rfl : KK F F) hK108), (show ((x1 + (1 : Int32)) + (1 : Int32)).toInt = -1 ∨ (0 ≤ ((x1 + (1 : Int32)) + (1 : Int32)).toInt ∧ ((x1 + (1 : Int32)) + (1 : Int32)).toInt ≤ 4010) by omega)⟩
                  · skip
                    have l_112 : (54 : Int32).toInt = 54 := rfl
                    have e_113 := mt i_lt.mpr (show ¬ ((tb_3 r2.toNatClampNeg) < (54 : Int32)) from c_105)
                    unfold cb_X10_behindSign_116
                    refine WP.ite (fun c_114 => ?_) (fun c_114 => ?_)
                    · skip
                      have l_115 : (56 : Int32).toInt = 56 := rfl
                      have e_116 := i_lt.mp (show (56 : Int32) < (tb_3 r2.toNatClampNeg) from c_114)
                      unfold cb_X10_behindSign_178
                      refine WP.bind (cs_X10_add hfu (tb_3 r2.toNatClampNeg) (0 : Int32) x1 F G hI) ?_
                      rintro r117 F117 G117 ⟨hI117, hB117, hT117, hO117, hK117, hp117⟩
                      dsimp only
                      have q_118 := hI.r 10 rfl
                      have q_119 := hI117.r 10 rfl
                      have e_120 : (F117 10).toInt = (F 10).toInt := hO117
                      unfold cb_X10_behindSign_186
                      refine WP.ret ?_
                      exact ⟨hI117, (KB.tr (KB.rf : KB F G F G) hB117), (KT.tr (rfl : KT F F) hT117), (KO.tr (rfl : KO F F) hO117), (KK.tr (rfl : KK F F) hK117), (show ((x1 + (1 : Int32)) + (1 : Int32)).toInt = -1 ∨ (0 ≤ ((x1 + (1 : Int32)) + (1 : Int32)).toInt ∧ ((x1 + (1 : Int32)) + (1 : Int32)).toInt ≤ 4010) by omega)⟩
                    · skip
                      have l_121 : (56 : Int32).toInt = 56 := rfl
                      have e_122 := mt i_lt.mpr (show ¬ ((56 : Int32) < (tb_3 r2.toNatClampNeg)) from c_114)
                      unfold cb_X10_behindSign_123
                      refine WP.bind (cs_X9_at hfu ((x1 + (1 : Int32)) + (1 : Int32)) F G hI) ?_
                      rintro r123 _ _ ⟨rfl, rfl, hp123⟩
                      dsimp only
                      unfold cb_X10_behindSign_132
                      refine WP.ite (fun c_124 => ?_) (fun c_124 => ?_)
                      · skip
                        have q_125 := i_rng r123
                        have l_126 : (61 : Int32).toInt = 61 := rfl
                        have e_127 := i_eq.mp (show r123 = (61 : Int32) from c_124)
                        unfold cb_X10_behindSign_137
                        unfold cb_X10_behindSign_178
                        first | have e_128 : ((tb_3 r2.toNatClampNeg) - (54 : Int32)).toInt = (tb_3 r2.toNatClampNeg).toInt - (54) := i_subn (tb_3 r2.toNatClampNeg) rfl (by omega) (by omega) | have e_129 := i_rng ((tb_3 r2.toNatClampNeg) - (54 : Int32))
                        first | have e_130 : (((tb_3 r2.toNatClampNeg) - (54 : Int32)) + (38 : Int32)).toInt = ((tb_3 r2.toNatClampNeg) - (54 : Int32)).toInt + (38) := i_addn ((tb_3 r2.toNatClampNeg) - (54 : Int32)) rfl (by omega) (by omega) | have e_131 := i_rng (((tb_3 r2.toNatClampNeg) - (54 : Int32)) + (38 : Int32))
                        refine WP.bind (cs_X10_add hfu (((tb_3 r2.toNatClampNeg) - (54 : Int32)) + (38 : Int32)) (0 : Int32) x1 F G hI) ?_
                        rintro r132 F132 G132 ⟨hI132, hB132, hT132, hO132, hK132, hp132⟩
                        dsimp only
                        have q_133 := hI.r 10 rfl
                        have q_134 := hI132.r 10 rfl
                        have e_135 : (F132 10).toInt = (F 10).toInt := hO132
                        unfold cb_X10_behindSign_186
                        refine WP.ret ?_
                        first | have e_136 : (((x1 + (1 : Int32)) + (1 : Int32)) + (1 : Int32)).toInt = ((x1 + (1 : Int32)) + (1 : Int32)).toInt + (1) := i_addn ((x1 + (1 : Int32)) + (1 : Int32)) rfl (by omega) (by omega) | have e_137 := i_rng (((x1 + (1 : Int32)) + (1 : Int32)) + (1 : Int32))
                        exact ⟨hI132, (KB.tr (KB.rf : KB F G F G) hB132), (KT.tr (rfl : KT F F) hT132), (KO.tr (rfl : KO F F) hO132), (KK.tr (rfl : KK F F) hK132), (show (((x1 + (1 : Int32)) + (1 : Int32)) + (1 : Int32)).toInt = -1 ∨ (0 ≤ (((x1 + (1 : Int32)) + (1 : Int32)) + (1 : Int32)).toInt ∧ (((x1 + (1 : Int32)) + (1 : Int32)) + (1 : Int32)).toInt ≤ 4010) by omega)⟩
                      · skip
                        have q_138 := i_rng r123
                        have l_139 : (61 : Int32).toInt = 61 := rfl
                        have e_140 := mt i_eq.mpr (show ¬ (r123 = (61 : Int32)) from c_124)
                        unfold cb_X10_behindSign_178
                        refine WP.bind (cs_X10_add hfu (tb_3 r2.toNatClampNeg) (0 : Int32) x1 F G hI) ?_
                        rintro r141 F141 G141 ⟨hI141, hB141, hT141, hO141, hK141, hp141⟩
                        dsimp only
                        have q_142 := hI.r 10 rfl
                        have q_143 := hI141.r 10 rfl
                        have e_144 : (F141 10).toInt = (F 10).toInt := hO141
                        unfold cb_X10_behindSign_186
                        refine WP.ret ?_
                        exact ⟨hI141, (KB.tr (KB.rf : KB F G F G) hB141), (KT.tr (rfl : KT F F) hT141), (KO.tr (rfl : KO F F) hO141), (KK.tr (rfl : KK F F) hK141), (show ((x1 + (1 : Int32)) + (1 : Int32)).toInt = -1 ∨ (0 ≤ ((x1 + (1 : Int32)) + (1 : Int32)).toInt ∧ ((x1 + (1 : Int32)) + (1 : Int32)).toInt ≤ 4010) by omega)⟩
              · skip
                have l_145 : (55 : Int32).toInt = 55 := rfl
                have e_146 := mt i_eq.mpr (show ¬ ((tb_3 r2.toNatClampNeg) = (55 : Int32)) from c_66)
                unfold cb_X10_behindSign_109
                refine WP.ite (fun c_147 => ?_) (fun c_147 => ?_)
                · skip
                  have l_148 : (54 : Int32).toInt = 54 := rfl
                  have e_149 := i_lt.mp (show (tb_3 r2.toNatClampNeg) < (54 : Int32) from c_147)
                  unfold cb_X10_behindSign_178
                  refine WP.bind (cs_X10_add hfu (tb_3 r2.toNatClampNeg) (0 : Int32) x1 F G hI) ?_
                  rintro r150 F150 G150 ⟨hI150, hB150, hT150, hO150, hK150, hp150⟩
                  dsimp only
                  have q_151 := hI.r 10 rfl
                  have q_152 := hI150.r 10 rfl
                  have e_153 : (F150 10).toInt = (F 10).toInt := hO150
                  unfold cb_X10_behindSign_186
                  refine WP.ret ?_
                  first | have e_154 : ((x1 + (1 : Int32)) + (1 : Int32)).toInt = (x1 + (1 : Int32)).toInt + (1) := i_addn (x1 + (1 : Int32)) rfl (by omega) (by omega) | have e_155 := i_rng ((x1 + (1 : Int32)) + (1 : Int32))
                  exact ⟨hI150, (KB.tr (KB.rf : KB F G F G) hB150), (KT.tr (rfl : KT F F) hT150), (KO.tr (rfl : KO F F) hO150), (KK.tr (rfl : KK F F) hK150), (show ((x1 + (1 : Int32)) + (1 : Int32)).toInt = -1 ∨ (0 ≤ ((x1 + (1 : Int32)) + (1 : Int32)).toInt ∧ ((x1 + (1 : Int32)) + (1 : Int32)).toInt ≤ 4010) by omega)⟩
                · skip
                  have l_156 : (54 : Int32).toInt = 54 := rfl
                  have e_157 := mt i_lt.mpr (show ¬ ((tb_3 r2.toNatClampNeg) < (54 : Int32)) from c_147)
                  unfold cb_X10_behindSign_116
                  refine WP.ite (fun c_158 => ?_) (fun c_158 => ?_)
                  · skip
                    have l_159 : (56 : Int32).toInt = 56 := rfl
                    have e_160 := i_lt.mp (show (56 : Int32) < (tb_3 r2.toNatClampNeg) from c_158)
                    unfold cb_X10_behindSign_178
                    refine WP.bind (cs_X10_add hfu (tb_3 r2.toNatClampNeg) (0 : Int32) x1 F G hI) ?_
                    rintro r161 F161 G161 ⟨hI161, hB161, hT161, hO161, hK161, hp161⟩
                    dsimp only
                    have q_162 := hI.r 10 rfl
                    have q_163 := hI161.r 10 rfl
                    have e_164 : (F161 10).toInt = (F 10).toInt := hO161
                    unfold cb_X10_behindSign_186
                    refine WP.ret ?_
                    first | have e_165 : ((x1 + (1 : Int32)) + (1 : Int32)).toInt = (x1 + (1 : Int32)).toInt + (1) := i_addn (x1 + (1 : Int32)) rfl (by omega) (by omega) | have e_166 := i_rng ((x1 + (1 : Int32)) + (1 : Int32))
                    exact ⟨hI161, (KB.tr (KB.rf : KB F G F G) hB161), (KT.tr (rfl : KT F F) hT161), (KO.tr (rfl : KO F F) hO161), (KK.tr (rfl : KK F F) hK161), (show ((x1 + (1 : Int32)) + (1 : Int32)).toInt = -1 ∨ (0 ≤ ((x1 + (1 : Int32)) + (1 : Int32)).toInt ∧ ((x1 + (1 : Int32)) + (1 : Int32)).toInt ≤ 4010) by omega)⟩
                  · skip
                    have l_167 : (56 : Int32).toInt = 56 := rfl
                    have e_168 := mt i_lt.mpr (show ¬ ((56 : Int32) < (tb_3 r2.toNatClampNeg)) from c_158)
                    unfold cb_X10_behindSign_123
                    first | have e_169 : ((x1 + (1 : Int32)) + (1 : Int32)).toInt = (x1 + (1 : Int32)).toInt + (1) := i_addn (x1 + (1 : Int32)) rfl (by omega) (by omega) | have e_170 := i_rng ((x1 + (1 : Int32)) + (1 : Int32))
                    refine WP.bind (cs_X9_at hfu ((x1 + (1 : Int32)) + (1 : Int32)) F G hI) ?_
                    rintro r171 _ _ ⟨rfl, rfl, hp171⟩
                    dsimp only
                    unfold cb_X10_behindSign_132
                    refine WP.ite (fun c_172 => ?_) (fun c_172 => ?_)
                    · skip
                      have q_173 := i_rng r171
                      have l_174 : (61 : Int32).toInt = 61 := rfl
                      have e_175 := i_eq.mp (show r171 = (61 : Int32) from c_172)
                      unfold cb_X10_behindSign_137
                      unfold cb_X10_behindSign_178
                      first | have e_176 : ((tb_3 r2.toNatClampNeg) - (54 : Int32)).toInt = (tb_3 r2.toNatClampNeg).toInt - (54) := i_subn (tb_3 r2.toNatClampNeg) rfl (by omega) (by omega) | have e_177 := i_rng ((tb_3 r2.toNatClampNeg) - (54 : Int32))
                      first | have e_178 : (((tb_3 r2.toNatClampNeg) - (54 : Int32)) + (38 : Int32)).toInt = ((tb_3 r2.toNatClampNeg) - (54 : Int32)).toInt + (38) := i_addn ((tb_3 r2.toNatClampNeg) - (54 : Int32)) rfl (by omega) (by omega) | have e_179 := i_rng (((tb_3 r2.toNatClampNeg) - (54 : Int32)) + (38 : Int32))
                      refine WP.bind (cs_X10_add hfu (((tb_3 r2.toNatClampNeg) - (54 : Int32)) + (38 : Int32)) (0 : Int32) x1 F G hI) ?_
                      rintro r180 F180 G180 ⟨hI180, hB180, hT180, hO180, hK180, hp180⟩
                      dsimp only
                      have q_181 := hI.r 10 rfl
                      have q_182 := hI180.r 10 rfl
                      have e_183 : (F180 10).toInt = (F 10).toInt := hO180
                      unfold cb_X10_behindSign_186
                      refine WP.ret ?_
                      first | have e_184 : (((x1 + (1 : Int32)) + (1 : Int32)) + (1 : Int32)).toInt = ((x1 + (1 : Int32)) + (1 : Int32)).toInt + (1) := i_addn ((x1 + (1 : Int32)) + (1 : Int32)) rfl (by omega) (by omega) | have e_185 := i_rng (((x1 + (1 : Int32)) + (1 : Int32)) + (1 : Int32))
                      exact ⟨hI180, (KB.tr (KB.rf : KB F G F G) hB180), (KT.tr (rfl : KT F F) hT180), (KO.tr (rfl : KO F F) hO180), (KK.tr (rfl : KK F F) hK180), (show (((x1 + (1 : Int32)) + (1 : Int32)) + (1 : Int32)).toInt = -1 ∨ (0 ≤ (((x1 + (1 : Int32)) + (1 : Int32)) + (1 : Int32)).toInt ∧ (((x1 + (1 : Int32)) + (1 : Int32)) + (1 : Int32)).toInt ≤ 4010) by omega)⟩
                    · skip
                      have q_186 := i_rng r171
                      have l_187 : (61 : Int32).toInt = 61 := rfl
                      have e_188 := mt i_eq.mpr (show ¬ (r171 = (61 : Int32)) from c_172)
                      unfold cb_X10_behindSign_178
                      refine WP.bind (cs_X10_add hfu (tb_3 r2.toNatClampNeg) (0 : Int32) x1 F G hI) ?_
                      rintro r189 F189 G189 ⟨hI189, hB189, hT189, hO189, hK189, hp189⟩
                      dsimp only
                      have q_190 := hI.r 10 rfl
                      have q_191 := hI189.r 10 rfl
                      have e_192 : (F189 10).toInt = (F 10).toInt := hO189
                      unfold cb_X10_behindSign_186
                      refine WP.ret ?_
                      exact ⟨hI189, (KB.tr (KB.rf : KB F G F G) hB189), (KT.tr (rfl : KT F F) hT189), (KO.tr (rfl : KO F F) hO189), (KK.tr (rfl : KK F F) hK189), (show ((x1 + (1 : Int32)) + (1 : Int32)).toInt = -1 ∨ (0 ≤ ((x1 + (1 : Int32)) + (1 : Int32)).toInt ∧ ((x1 + (1 : Int32)) + (1 : Int32)).toInt ≤ 4010) by omega)⟩
          · skip
            have e_193 := mt i_eq.mpr (show ¬ (r6 = x2) from c_33)
            unfold cb_X10_behindSign_153
            refine WP.ite (fun c_194 => ?_) (fun c_194 => ?_)
            · skip
              have l_195 : (61 : Int32).toInt = 61 := rfl
              have e_196 := i_eq.mp (show r6 = (61 : Int32) from c_194)
              unfold cb_X10_behindSign_160
              refine WP.ix (show vp_in r2 23 from vp_in_iff.mpr ⟨by omega, by omega⟩) ?_
              refine WP.ite (fun c_197 => ?_) (fun c_197 => ?_)
              · skip
                have q_198 := i_rng (tb_4 r2.toNatClampNeg)
                have e_199 := i_eq.mp (show (tb_4 r2.toNatClampNeg) = (0 : Int32) from c_197)
                unfold cb_X10_behindSign_178
                have q_200 := i_rng (tb_2 r2.toNatClampNeg)
                refine WP.bind (cs_X10_add hfu (tb_2 r2.toNatClampNeg) (0 : Int32) x1 F G hI) ?_
                rintro r201 F201 G201 ⟨hI201, hB201, hT201, hO201, hK201, hp201⟩
                dsimp only
                have q_202 := hI.r 10 rfl
                have q_203 := hI201.r 10 rfl
                have e_204 : (F201 10).toInt = (F 10).toInt := hO201
                unfold cb_X10_behindSign_186
                refine WP.ret ?_
                exact ⟨hI201, (KB.tr (KB.rf : KB F G F G) hB201), (KT.tr (rfl : KT F F) hT201), (KO.tr (rfl : KO F F) hO201), (KK.tr (rfl : KK F F) hK201), (show (x1 + (1 : Int32)).toInt = -1 ∨ (0 ≤ (x1 + (1 : Int32)).toInt ∧ (x1 + (1 : Int32)).toInt ≤ 4010) by omega)⟩
              · skip
                have q_205 := i_rng (tb_4 r2.toNatClampNeg)
                have e_206 := mt i_eq.mpr (show ¬ ((tb_4 r2.toNatClampNeg) = (0 : Int32)) from c_197)
                unfold cb_X10_behindSign_168
                refine WP.ix (show vp_in r2 23 from vp_in_iff.mpr ⟨by omega, by omega⟩) ?_
                unfold cb_X10_behindSign_178
                refine WP.bind (cs_X10_add hfu (tb_4 r2.toNatClampNeg) (0 : Int32) x1 F G hI) ?_
                rintro r207 F207 G207 ⟨hI207, hB207, hT207, hO207, hK207, hp207⟩
                dsimp only
                have q_208 := hI.r 10 rfl
                have q_209 := hI207.r 10 rfl
                have e_210 : (F207 10).toInt = (F 10).toInt := hO207
                unfold cb_X10_behindSign_186
                refine WP.ret ?_
                first | have e_211 : ((x1 + (1 : Int32)) + (1 : Int32)).toInt = (x1 + (1 : Int32)).toInt + (1) := i_addn (x1 + (1 : Int32)) rfl (by omega) (by omega) | have e_212 := i_rng ((x1 + (1 : Int32)) + (1 : Int32))
                exact ⟨hI207, (KB.tr (KB.rf : KB F G F G) hB207), (KT.tr (rfl : KT F F) hT207), (KO.tr (rfl : KO F F) hO207), (KK.tr (rfl : KK F F) hK207), (show ((x1 + (1 : Int32)) + (1 : Int32)).toInt = -1 ∨ (0 ≤ ((x1 + (1 : Int32)) + (1 : Int32)).toInt ∧ ((x1 + (1 : Int32)) + (1 : Int32)).toInt ≤ 4010) by omega)⟩
            · skip
              have l_213 : (61 : Int32).toInt = 61 := rfl
              have e_214 := mt i_eq.mpr (show ¬ (r6 = (61 : Int32)) from c_194)
              unfold cb_X10_behindSign_178
              have q_215 := i_rng (tb_2 r2.toNatClampNeg)
              refine WP.bind (cs_X10_add hfu (tb_2 r2.toNatClampNeg) (0 : Int32) x1 F G hI) ?_
              rintro r216 F216 G216 ⟨hI216, hB216, hT216, hO216, hK216, hp216⟩
              dsimp only
              have q_217 := hI.r 10 rfl
              have q_218 := hI216.r 10 rfl
              have e_219 : (F216 10).toInt = (F 10).toInt := hO216
              unfold cb_X10_behindSign_186
              refine WP.ret ?_
              exact ⟨hI216, (KB.tr (KB.rf : KB F G F G) hB216), (KT.tr (rfl : KT F F) hT216), (KO.tr (rfl : KO F F) hO216), (KK.tr (rfl : KK F F) hK216), (show (x1 + (1 : Int32)).toInt = -1 ∨ (0 ≤ (x1 + (1 : Int32)).toInt ∧ (x1 + (1 : Int32)).toInt ≤ 4010) by omega)⟩
      · skip
        have q_220 := i_rng x2
        have l_221 : (47 : Int32).toInt = 47 := rfl
        have e_222 := mt i_eq.mpr (show ¬ (x2 = (47 : Int32)) from c_21)
        unfold cb_X10_behindSign_51
        refine WP.ix (show vp_in r2 23 from vp_in_iff.mpr ⟨by omega, by omega⟩) ?_
        refine WP.ite (fun c_223 => ?_) (fun c_223 => ?_)
        · skip
          have q_224 := i_rng r6
          have e_225 := i_eq.mp (show r6 = x2 from c_223)
          unfold cb_X10_behindSign_64
          refine WP.ix (show vp_in r2 23 from vp_in_iff.mpr ⟨by omega, by omega⟩) ?_
          refine WP.ite (fun c_226 => ?_) (fun c_226 => ?_)
          · skip
            have q_227 := i_rng (tb_3 r2.toNatClampNeg)
            have e_228 := i_eq.mp (show (tb_3 r2.toNatClampNeg) = (0 : Int32) from c_226)
            unfold cb_X10_behindSign_153
            refine WP.ite (fun c_229 => ?_) (fun c_229 => ?_)
            · skip
              have l_230 : (61 : Int32).toInt = 61 := rfl
              have e_231 := i_eq.mp (show r6 = (61 : Int32) from c_229)
              unfold cb_X10_behindSign_160
              refine WP.ix (show vp_in r2 23 from vp_in_iff.mpr ⟨by omega, by omega⟩) ?_
              refine WP.ite (fun c_232 => ?_) (fun c_232 => ?_)
              · skip
                have q_233 := i_rng (tb_4 r2.toNatClampNeg)
                have e_234 := i_eq.mp (show (tb_4 r2.toNatClampNeg) = (0 : Int32) from c_232)
                unfold cb_X10_behindSign_178
                have q_235 := i_rng (tb_2 r2.toNatClampNeg)
                refine WP.bind (cs_X10_add hfu (tb_2 r2.toNatClampNeg) (0 : Int32) x1 F G hI) ?_
                rintro r236 F236 G236 ⟨hI236, hB236, hT236, hO236, hK236, hp236⟩
                dsimp only
                have q_237 := hI.r 10 rfl
                have q_238 := hI236.r 10 rfl
                have e_239 : (F236 10).toInt = (F 10).toInt := hO236
                unfold cb_X10_behindSign_186
                refine WP.ret ?_
                exact ⟨hI236, (KB.tr (KB.rf : KB F G F G) hB236), (KT.tr (rfl : KT F F) hT236), (KO.tr (rfl : KO F F) hO236), (KK.tr (rfl : KK F F) hK236), (show (x1 + (1 : Int32)).toInt = -1 ∨ (0 ≤ (x1 + (1 : Int32)).toInt ∧ (x1 + (1 : Int32)).toInt ≤ 4010) by omega)⟩
              · skip
                have q_240 := i_rng (tb_4 r2.toNatClampNeg)
                have e_241 := mt i_eq.mpr (show ¬ ((tb_4 r2.toNatClampNeg) = (0 : Int32)) from c_232)
                unfold cb_X10_behindSign_168
                refine WP.ix (show vp_in r2 23 from vp_in_iff.mpr ⟨by omega, by omega⟩) ?_
                unfold cb_X10_behindSign_178
                refine WP.bind (cs_X10_add hfu (tb_4 r2.toNatClampNeg) (0 : Int32) x1 F G hI) ?_
                rintro r242 F242 G242 ⟨hI242, hB242, hT242, hO242, hK242, hp242⟩
                dsimp only
                have q_243 := hI.r 10 rfl
                have q_244 := hI242.r 10 rfl
                have e_245 : (F242 10).toInt = (F 10).toInt := hO242
                unfold cb_X10_behindSign_186
                refine WP.ret ?_
                first | have e_246 : ((x1 + (1 : Int32)) + (1 : Int32)).toInt = (x1 + (1 : Int32)).toInt + (1) := i_addn (x1 + (1 : Int32)) rfl (by omega) (by omega) | have e_247 := i_rng ((x1 + (1 : Int32)) + (1 : Int32))
                exact ⟨hI242, (KB.tr (KB.rf : KB F G F G) hB242), (KT.tr (rfl : KT F F) hT242), (KO.tr (rfl : KO F F) hO242), (KK.tr (rfl : KK F F) hK242), (show ((x1 + (1 : Int32)) + (1 : Int32)).toInt = -1 ∨ (0 ≤ ((x1 + (1 : Int32)) + (1 : Int32)).toInt ∧ ((x1 + (1 : Int32)) + (1 : Int32)).toInt ≤ 4010) by omega)⟩
            · skip
              have l_248 : (61 : Int32).toInt = 61 := rfl
              have e_249 := mt i_eq.mpr (show ¬ (r6 = (61 : Int32)) from c_229)
              unfold cb_X10_behindSign_178
              have q_250 := i_rng (tb_2 r2.toNatClampNeg)
              refine WP.bind (cs_X10_add hfu (tb_2 r2.toNatClampNeg) (0 : Int32) x1 F G hI) ?_
              rintro r251 F251 G251 ⟨hI251, hB251, hT251, hO251, hK251, hp251⟩
              dsimp only
              have q_252 := hI.r 10 rfl
              have q_253 := hI251.r 10 rfl
              have e_254 : (F251 10).toInt = (F 10).toInt := hO251
              unfold cb_X10_behindSign_186
              refine WP.ret ?_
              exact ⟨hI251, (KB.tr (KB.rf : KB F G F G) hB251), (KT.tr (rfl : KT F F) hT251), (KO.tr (rfl : KO F F) hO251), (KK.tr (rfl : KK F F) hK251), (show (x1 + (1 : Int32)).toInt = -1 ∨ (0 ≤ (x1 + (1 : Int32)).toInt ∧ (x1 + (1 : Int32)).toInt ≤ 4010) by omega)⟩
          · skip
            have q_255 := i_rng (tb_3 r2.toNatClampNeg)
            have e_256 := mt i_eq.mpr (show ¬ ((tb_3 r2.toNatClampNeg) = (0 : Int32)) from c_226)
            unfold cb_X10_behindSign_72
            refine WP.ix (show vp_in r2 23 from vp_in_iff.mpr ⟨by omega, by omega⟩) ?_
            refine WP.ite (fun c_257 => ?_) (fun c_257 => ?_)
            · skip
              have l_258 : (55 : Int32).toInt = 55 := rfl
              have e_259 := i_eq.mp (show (tb_3 r2.toNatClampNeg) = (55 : Int32) from c_257)
              unfold cb_X10_behindSign_89
              first | have e_260 : ((x1 + (1 : Int32)) + (1 : Int32)).toInt = (x1 + (1 : Int32)).toInt + (1) := i_addn (x1 + (1 : Int32)) rfl (by omega) (by omega) | have e_261 := i_rng ((x1 + (1 : Int32)) + (1 : Int32))
              refine WP.bind (cs_X9_at hfu ((x1 + (1 : Int32)) + (1 : Int32)) F G hI) ?_
              rintro r262 _ _ ⟨rfl, rfl, hp262⟩
              dsimp only
              unfold cb_X10_behindSign_98
              refine WP.ite (fun c_263 => ?_) (fun c_263 => ?_)
              · skip
                have q_264 := i_rng r262
                have e_265 := i_eq.mp (show r262 = x2 from c_263)
                unfold cb_X10_behindSign_102
                unfold cb_X10_behindSign_109
                refine WP.ite (fun c_266 => absurd c_266 (by decide)) (fun _ => ?_)
                unfold cb_X10_behindSign_116
                refine WP.ite (fun c_267 => absurd c_267 (by decide)) (fun _ => ?_)
                unfold cb_X10_behindSign_123
                first | have e_268 : (((x1 + (1 : Int32)) + (1 : Int32)) + (1 : Int32)).toInt = ((x1 + (1 : Int32)) + (1 : Int32)).toInt + (1) := i_addn ((x1 + (1 : Int32)) + (1 : Int32)) rfl (by omega) (by omega) | have e_269 := i_rng (((x1 + (1 : Int32)) + (1 : Int32)) + (1 : Int32))
                refine WP.bind (cs_X9_at hfu (((x1 + (1 : Int32)) + (1 : Int32)) + (1 : Int32)) F G hI) ?_
                rintro r270 _ _ ⟨rfl, rfl, hp270⟩
                dsimp only
                unfold cb_X10_behindSign_132
                refine WP.ite (fun c_271 => ?_) (fun c_271 => ?_)
                · skip
                  have q_272 := i_rng r270
                  have l_273 : (61 : Int32).toInt = 61 := rfl
                  have e_274 := i_eq.mp (show r270 = (61 : Int32) from c_271)
                  unfold cb_X10_behindSign_137
                  unfold cb_X10_behindSign_178
                  have l_275 : (56 : Int32).toInt = 56 := rfl
                  first | have e_276 : ((56 : Int32) - (54 : Int32)).toInt = (56 : Int32).toInt - (54) := i_subn (56 : Int32) rfl (by omega) (by omega) | have e_277 := i_rng ((56 : Int32) - (54 : Int32))
                  first | have e_278 : (((56 : Int32) - (54 : Int32)) + (38 : Int32)).toInt = ((56 : Int32) - (54 : Int32)).toInt + (38) := i_addn ((56 : Int32) - (54 : Int32)) rfl (by omega) (by omega) | have e_279 := i_rng (((56 : Int32) - (54 : Int32)) + (38 : Int32))
                  refine WP.bind (cs_X10_add hfu (((56 : Int32) - (54 : Int32)) + (38 : Int32)) (0 : Int32) x1 F G hI) ?_
                  rintro r280 F280 G280 ⟨hI280, hB280, hT280, hO280, hK280, hp280⟩
                  dsimp only
                  have q_281 := hI.r 10 rfl
                  have q_282 := hI280.r 10 rfl
                  have e_283 : (F280 10).toInt = (F 10).toInt := hO280
                  unfold cb_X10_behindSign_186
                  refine WP.ret ?_
                  first | have e_284 : ((((x1 + (1 : Int32)) + (1 : Int32)) + (1 : Int32)) + (1 : Int32)).toInt = (((x1 + (1 : Int32)) + (1 : Int32)) + (1 : Int32)).toInt + (1) := i_addn (((x1 + (1 : Int32)) + (1 : Int32)) + (1 : Int32)) rfl (by omega) (by omega) | have e_285 := i_rng ((((x1 + (1 : Int32)) + (1 : Int32)) + (1 : Int32)) + (1 : Int32))
                  exact ⟨hI280, (KB.tr (KB.rf : KB F G F G) hB280), (KT.tr (rfl : KT F F) hT280), (KO.tr (rfl : KO F F) hO280), (KK.tr (rfl : KK F F) hK280), (show ((((x1 + (1 : Int32)) + (1 : Int32)) + (1 : Int32)) + (1 : Int32)).toInt = -1 ∨ (0 ≤ ((((x1 + (1 : Int32)) + (1 : Int32)) + (1 : Int32)) + (1 : Int32)).toInt ∧ ((((x1 + (1 : Int32)) + (1 : Int32)) + (1 : Int32)) + (1 : Int32)).toInt ≤ 4010) by omega)⟩
                · skip
                  have q_286 := i_rng r270
                  have l_287 : (61 : Int32).toInt = 61 := rfl
                  have e_288 := mt i_eq.mpr (show ¬ (r270 = (61 : Int32)) from c_271)
                  unfold cb_X10_behindSign_178
                  have l_289 : (56 : Int32).toInt = 56 := rfl
                  refine WP.bind (cs_X10_add hfu (56 : Int32) (0 : Int32) x1 F G hI) ?_
                  rintro r290 F290 G290 ⟨hI290, hB290, hT290, hO290, hK290, hp290⟩
                  dsimp only
                  have q_291 := hI.r 10 rfl
                  have q_292 := hI290.r 10 rfl
                  have e_293 : (F290 10).toInt = (F 10).toInt := hO290
                  unfold cb_X10_behindSign_186
                  refine WP.ret ?_
                  exact ⟨hI290, (KB.tr (KB.rf : KB F G F G) hB290), (KT.tr (rfl : KT F F) hT290), (KO.tr (rfl : KO F F) hO290), (KK.tr (rfl : KK F F) hK290), (show (((x1 + (1 : Int32)) + (1 : Int32)) + (1 : Int32)).toInt = -1 ∨ (0 ≤ (((x1 + (1 : Int32)) + (1 : Int32)) + (1 : Int32)).toInt ∧ (((x1 + (1 : Int32)) + (1 : Int32)) + (1 : Int32)).toInt ≤ 4010) by omega)⟩
              · skip
                have q_294 := i_rng r262
                have e_295 := mt i_eq.mpr (show ¬ (r262 = x2) from c_263)
                unfold cb_X10_behindSign_109
                refine WP.ite (fun c_296 => ?_) (fun c_296 => ?_)
                · skip
                  have l_297 : (54 : Int32).toInt = 54 := rfl
                  have e_298 := i_lt.mp (show (tb_3 r2.toNatClampNeg) < (54 : Int32) from c_296)
                  unfold cb_X10_behindSign_178
                  refine WP.bind (cs_X10_add hfu (tb_3 r2.toNatClampNeg) (0 : Int32) x1 F G hI) ?_
                  rintro r299 F299 G299 ⟨hI299, hB299, hT299, hO299, hK299, hp299⟩
                  dsimp only
                  have q_300 := hI.r 10 rfl
                  have q_301 := hI299.r 10 rfl
                  have e_302 : (F299 10).toInt = (F 10).toInt := hO299
                  unfold cb_X10_behindSign_186
                  refine WP.ret ?_
                  exact ⟨hI299, (KB.tr (KB.rf : KB F G F G) hB299), (KT.tr (rfl : KT F F) hT299), (KO.tr (rfl : KO F F) hO299), (KK.tr (rfl : KK F F) hK299), (show ((x1 + (1 : Int32)) + (1 : Int32)).toInt = -1 ∨ (0 ≤ ((x1 + (1 : Int32)) + (1 : Int32)).toInt ∧ ((x1 + (1 : Int32)) + (1 : Int32)).toInt ≤ 4010) by omega)⟩
                · skip
                  have l_303 : (54 : Int32).toInt = 54 := rfl
                  have e_304 := mt i_lt.mpr (show ¬ ((tb_3 r2.toNatClampNeg) < (54 : Int32)) from c_296)
                  unfold cb_X10_behindSign_116
                  refine WP.ite (fun c_305 => ?_) (fun c_305 => ?_)
                  · skip
                    have l_306 : (56 : Int32).toInt = 56 := rfl
                    have e_307 := i_lt.mp (show (56 : Int32) < (tb_3 r2.toNatClampNeg) from c_305)
                    unfold cb_X10_behindSign_178
                    refine WP.bind (cs_X10_add hfu (tb_3 r2.toNatClampNeg) (0 : Int32) x1 F G hI) ?_
                    rintro r308 F308 G308 ⟨hI308, hB308, hT308, hO308, hK308, hp308⟩
                    dsimp only
                    have q_309 := hI.r 10 rfl
                    have q_310 := hI308.r 10 rfl
                    have e_311 : (F308 10).toInt = (F 10).toInt := hO308
                    unfold cb_X10_behindSign_186
                    refine WP.ret ?_
                    exact ⟨hI308, (KB.tr (KB.rf : KB F G F G) hB308), (KT.tr (rfl : KT F F) hT308), (KO.tr (rfl : KO F F) hO308), (KK.tr (rfl : KK F F) hK308), (show ((x1 + (1 : Int32)) + (1 : Int32)).toInt = -1 ∨ (0 ≤ ((x1 + (1 : Int32)) + (1 : Int32)).toInt ∧ ((x1 + (1 : Int32)) + (1 : Int32)).toInt ≤ 4010) by omega)⟩
                  · skip
                    have l_312 : (56 : Int32).toInt = 56 := rfl
                    have e_313 := mt i_lt.mpr (show ¬ ((56 : Int32) < (tb_3 r2.toNatClampNeg)) from c_305)
                    unfold cb_X10_behindSign_123
                    refine WP.bind (cs_X9_at hfu ((x1 + (1 : Int32)) + (1 : Int32)) F G hI) ?_
                    rintro r314 _ _ ⟨rfl, rfl, hp314⟩
                    dsimp only
                    unfold cb_X10_behindSign_132
                    refine WP.ite (fun c_315 => ?_) (fun c_315 => ?_)
                    · skip
                      have q_316 := i_rng r314
                      have l_317 : (61 : Int32).toInt = 61 := rfl
                      have e_318 := i_eq.mp (show r314 = (61 : Int32) from c_315)
                      unfold cb_X10_behindSign_137
                      unfold cb_X10_behindSign_178
                      first | have e_319 : ((tb_3 r2.toNatClampNeg) - (54 : Int32)).toInt = (tb_3 r2.toNatClampNeg).toInt - (54) := i_subn (tb_3 r2.toNatClampNeg) rfl (by omega) (by omega) | have e_320 := i_rng ((tb_3 r2.toNatClampNeg) - (54 : Int32))
                      first | have e_321 : (((tb_3 r2.toNatClampNeg) - (54 : Int32)) + (38 : Int32)).toInt = ((tb_3 r2.toNatClampNeg) - (54 : Int32)).toInt + (38) := i_addn ((tb_3 r2.toNatClampNeg) - (54 : Int32)) rfl (by omega) (by omega) | have e_322 := i_rng (((tb_3 r2.toNatClampNeg) - (54 : Int32)) + (38 : Int32))
                      refine WP.bind (cs_X10_add hfu (((tb_3 r2.toNatClampNeg) - (54 : Int32)) + (38 : Int32)) (0 : Int32) x1 F G hI) ?_
                      rintro r323 F323 G323 ⟨hI323, hB323, hT323, hO323, hK323, hp323⟩
                      dsimp only
                      have q_324 := hI.r 10 rfl
                      have q_325 := hI323.r 10 rfl
                      have e_326 : (F323 10).toInt = (F 10).toInt := hO323
                      unfold cb_X10_behindSign_186
                      refine WP.ret ?_
                      first | have e_327 : (((x1 + (1 : Int32)) + (1 : Int32)) + (1 : Int32)).toInt = ((x1 + (1 : Int32)) + (1 : Int32)).toInt + (1) := i_addn ((x1 + (1 : Int32)) + (1 : Int32)) rfl (by omega) (by omega) | have e_328 := i_rng (((x1 + (1 : Int32)) + (1 : Int32)) + (1 : Int32))
                      exact ⟨hI323, (KB.tr (KB.rf : KB F G F G) hB323), (KT.tr (rfl : KT F F) hT323), (KO.tr (rfl : KO F F) hO323), (KK.tr (rfl : KK F F) hK323), (show (((x1 + (1 : Int32)) + (1 : Int32)) + (1 : Int32)).toInt = -1 ∨ (0 ≤ (((x1 + (1 : Int32)) + (1 : Int32)) + (1 : Int32)).toInt ∧ (((x1 + (1 : Int32)) + (1 : Int32)) + (1 : Int32)).toInt ≤ 4010) by omega)⟩
                    · skip
                      have q_329 := i_rng r314
                      have l_330 : (61 : Int32).toInt = 61 := rfl
                      have e_331 := mt i_eq.mpr (show ¬ (r314 = (61 : Int32)) from c_315)
                      unfold cb_X10_behindSign_178
                      refine WP.bind (cs_X10_add hfu (tb_3 r2.toNatClampNeg) (0 : Int32) x1 F G hI) ?_
                      rintro r332 F332 G332 ⟨hI332, hB332, hT332, hO332, hK332, hp332⟩
                      dsimp only
                      have q_333 := hI.r 10 rfl
                      have q_334 := hI332.r 10 rfl
                      have e_335 : (F332 10).toInt = (F 10).toInt := hO332
                      unfold cb_X10_behindSign_186
                      refine WP.ret ?_
                      exact ⟨hI332, (KB.tr (KB.rf : KB F G F G) hB332), (KT.tr (rfl : KT F F) hT332), (KO.tr (rfl : KO F F) hO332), (KK.tr (rfl : KK F F) hK332), (show ((x1 + (1 : Int32)) + (1 : Int32)).toInt = -1 ∨ (0 ≤ ((x1 + (1 : Int32)) + (1 : Int32)).toInt ∧ ((x1 + (1 : Int32)) + (1 : Int32)).toInt ≤ 4010) by omega)⟩
            · skip
              have l_336 : (55 : Int32).toInt = 55 := rfl
              have e_337 := mt i_eq.mpr (show ¬ ((tb_3 r2.toNatClampNeg) = (55 : Int32)) from c_257)
              unfold cb_X10_behindSign_109
              refine WP.ite (fun c_338 => ?_) (fun c_338 => ?_)
              · skip
                have l_339 : (54 : Int32).toInt = 54 := rfl
                have e_340 := i_lt.mp (show (tb_3 r2.toNatClampNeg) < (54 : Int32) from c_338)
                unfold cb_X10_behindSign_178
                refine WP.bind (cs_X10_add hfu (tb_3 r2.toNatClampNeg) (0 : Int32) x1 F G hI) ?_
                rintro r341 F341 G341 ⟨hI341, hB341, hT341, hO341, hK341, hp341⟩
                dsimp only
                have q_342 := hI.r 10 rfl
                have q_343 := hI341.r 10 rfl
                have e_344 : (F341 10).toInt = (F 10).toInt := hO341
                unfold cb_X10_behindSign_186
                refine WP.ret ?_
                first | have e_345 : ((x1 + (1 : Int32)) + (1 : Int32)).toInt = (x1 + (1 : Int32)).toInt + (1) := i_addn (x1 + (1 : Int32)) rfl (by omega) (by omega) | have e_346 := i_rng ((x1 + (1 : Int32)) + (1 : Int32))
                exact ⟨hI341, (KB.tr (KB.rf : KB F G F G) hB341), (KT.tr (rfl : KT F F) hT341), (KO.tr (rfl : KO F F) hO341), (KK.tr (rfl : KK F F) hK341), (show ((x1 + (1 : Int32)) + (1 : Int32)).toInt = -1 ∨ (0 ≤ ((x1 + (1 : Int32)) + (1 : Int32)).toInt ∧ ((x1 + (1 : Int32)) + (1 : Int32)).toInt ≤ 4010) by omega)⟩
              · skip
                have l_347 : (54 : Int32).toInt = 54 := rfl
                have e_348 := mt i_lt.mpr (show ¬ ((tb_3 r2.toNatClampNeg) < (54 : Int32)) from c_338)
                unfold cb_X10_behindSign_116
                refine WP.ite (fun c_349 => ?_) (fun c_349 => ?_)
                · skip
                  have l_350 : (56 : Int32).toInt = 56 := rfl
                  have e_351 := i_lt.mp (show (56 : Int32) < (tb_3 r2.toNatClampNeg) from c_349)
                  unfold cb_X10_behindSign_178
                  refine WP.bind (cs_X10_add hfu (tb_3 r2.toNatClampNeg) (0 : Int32) x1 F G hI) ?_
                  rintro r352 F352 G352 ⟨hI352, hB352, hT352, hO352, hK352, hp352⟩
                  dsimp only
                  have q_353 := hI.r 10 rfl
                  have q_354 := hI352.r 10 rfl
                  have e_355 : (F352 10).toInt = (F 10).toInt := hO352
                  unfold cb_X10_behindSign_186
                  refine WP.ret ?_
                  first | have e_356 : ((x1 + (1 : Int32)) + (1 : Int32)).toInt = (x1 + (1 : Int32)).toInt + (1) := i_addn (x1 + (1 : Int32)) rfl (by omega) (by omega) | have e_357 := i_rng ((x1 + (1 : Int32)) + (1 : Int32))
                  exact ⟨hI352, (KB.tr (KB.rf : KB F G F G) hB352), (KT.tr (rfl : KT F F) hT352), (KO.tr (rfl : KO F F) hO352), (KK.tr (rfl : KK F F) hK352), (show ((x1 + (1 : Int32)) + (1 : Int32)).toInt = -1 ∨ (0 ≤ ((x1 + (1 : Int32)) + (1 : Int32)).toInt ∧ ((x1 + (1 : Int32)) + (1 : Int32)).toInt ≤ 4010) by omega)⟩
                · skip
                  have l_358 : (56 : Int32).toInt = 56 := rfl
                  have e_359 := mt i_lt.mpr (show ¬ ((56 : Int32) < (tb_3 r2.toNatClampNeg)) from c_349)
                  unfold cb_X10_behindSign_123
                  first | have e_360 : ((x1 + (1 : Int32)) + (1 : Int32)).toInt = (x1 + (1 : Int32)).toInt + (1) := i_addn (x1 + (1 : Int32)) rfl (by omega) (by omega) | have e_361 := i_rng ((x1 + (1 : Int32)) + (1 : Int32))
                  refine WP.bind (cs_X9_at hfu ((x1 + (1 : Int32)) + (1 : Int32)) F G hI) ?_
                  rintro r362 _ _ ⟨rfl, rfl, hp362⟩
                  dsimp only
                  unfold cb_X10_behindSign_132
                  refine WP.ite (fun c_363 => ?_) (fun c_363 => ?_)
                  · skip
                    have q_364 := i_rng r362
                    have l_365 : (61 : Int32).toInt = 61 := rfl
                    have e_366 := i_eq.mp (show r362 = (61 : Int32) from c_363)
                    unfold cb_X10_behindSign_137
                    unfold cb_X10_behindSign_178
                    first | have e_367 : ((tb_3 r2.toNatClampNeg) - (54 : Int32)).toInt = (tb_3 r2.toNatClampNeg).toInt - (54) := i_subn (tb_3 r2.toNatClampNeg) rfl (by omega) (by omega) | have e_368 := i_rng ((tb_3 r2.toNatClampNeg) - (54 : Int32))
                    first | have e_369 : (((tb_3 r2.toNatClampNeg) - (54 : Int32)) + (38 : Int32)).toInt = ((tb_3 r2.toNatClampNeg) - (54 : Int32)).toInt + (38) := i_addn ((tb_3 r2.toNatClampNeg) - (54 : Int32)) rfl (by omega) (by omega) | have e_370 := i_rng (((tb_3 r2.toNatClampNeg) - (54 : Int32)) + (38 : Int32))
                    refine WP.bind (cs_X10_add hfu (((tb_3 r2.toNatClampNeg) - (54 : Int32)) + (38 : Int32)) (0 : Int32) x1 F G hI) ?_
                    rintro r371 F371 G371 ⟨hI371, hB371, hT371, hO371, hK371, hp371⟩
                    dsimp only
                    have q_372 := hI.r 10 rfl
                    have q_373 := hI371.r 10 rfl
                    have e_374 : (F371 10).toInt = (F 10).toInt := hO371
                    unfold cb_X10_behindSign_186
                    refine WP.ret ?_
                    first | have e_375 : (((x1 + (1 : Int32)) + (1 : Int32)) + (1 : Int32)).toInt = ((x1 + (1 : Int32)) + (1 : Int32)).toInt + (1) := i_addn ((x1 + (1 : Int32)) + (1 : Int32)) rfl (by omega) (by omega) | have e_376 := i_rng (((x1 + (1 : Int32)) + (1 : Int32)) + (1 : Int32))
                    exact ⟨hI371, (KB.tr (KB.rf : KB F G F G) hB371), (KT.tr (rfl : KT F F) hT371), (KO.tr (rfl : KO F F) hO371), (KK.tr (rfl : KK F F) hK371), (show (((x1 + (1 : Int32)) + (1 : Int32)) + (1 : Int32)).toInt = -1 ∨ (0 ≤ (((x1 + (1 : Int32)) + (1 : Int32)) + (1 : Int32)).toInt ∧ (((x1 + (1 : Int32)) + (1 : Int32)) + (1 : Int32)).toInt ≤ 4010) by omega)⟩
                  · skip
                    have q_377 := i_rng r362
                    have l_378 : (61 : Int32).toInt = 61 := rfl
                    have e_379 := mt i_eq.mpr (show ¬ (r362 = (61 : Int32)) from c_363)
                    unfold cb_X10_behindSign_178
                    refine WP.bind (cs_X10_add hfu (tb_3 r2.toNatClampNeg) (0 : Int32) x1 F G hI) ?_
                    rintro r380 F380 G380 ⟨hI380, hB380, hT380, hO380, hK380, hp380⟩
                    dsimp only
                    have q_381 := hI.r 10 rfl
                    have q_382 := hI380.r 10 rfl
                    have e_383 : (F380 10).toInt = (F 10).toInt := hO380
                    unfold cb_X10_behindSign_186
                    refine WP.ret ?_
                    exact ⟨hI380, (KB.tr (KB.rf : KB F G F G) hB380), (KT.tr (rfl : KT F F) hT380), (KO.tr (rfl : KO F F) hO380), (KK.tr (rfl : KK F F) hK380), (show ((x1 + (1 : Int32)) + (1 : Int32)).toInt = -1 ∨ (0 ≤ ((x1 + (1 : Int32)) + (1 : Int32)).toInt ∧ ((x1 + (1 : Int32)) + (1 : Int32)).toInt ≤ 4010) by omega)⟩
        · skip
          have q_384 := i_rng r6
          have e_385 := mt i_eq.mpr (show ¬ (r6 = x2) from c_223)
          unfold cb_X10_behindSign_153
          refine WP.ite (fun c_386 => ?_) (fun c_386 => ?_)
          · skip
            have l_387 : (61 : Int32).toInt = 61 := rfl
            have e_388 := i_eq.mp (show r6 = (61 : Int32) from c_386)
            unfold cb_X10_behindSign_160
            refine WP.ix (show vp_in r2 23 from vp_in_iff.mpr ⟨by omega, by omega⟩) ?_
            refine WP.ite (fun c_389 => ?_) (fun c_389 => ?_)
            · skip
              have q_390 := i_rng (tb_4 r2.toNatClampNeg)
              have e_391 := i_eq.mp (show (tb_4 r2.toNatClampNeg) = (0 : Int32) from c_389)
              unfold cb_X10_behindSign_178
              have q_392 := i_rng (tb_2 r2.toNatClampNeg)
              refine WP.bind (cs_X10_add hfu (tb_2 r2.toNatClampNeg) (0 : Int32) x1 F G hI) ?_
              rintro r393 F393 G393 ⟨hI393, hB393, hT393, hO393, hK393, hp393⟩
              dsimp only
              have q_394 := hI.r 10 rfl
              have q_395 := hI393.r 10 rfl
              have e_396 : (F393 10).toInt = (F 10).toInt := hO393
              unfold cb_X10_behindSign_186
              refine WP.ret ?_
              exact ⟨hI393, (KB.tr (KB.rf : KB F G F G) hB393), (KT.tr (rfl : KT F F) hT393), (KO.tr (rfl : KO F F) hO393), (KK.tr (rfl : KK F F) hK393), (show (x1 + (1 : Int32)).toInt = -1 ∨ (0 ≤ (x1 + (1 : Int32)).toInt ∧ (x1 + (1 : Int32)).toInt ≤ 4010) by omega)⟩
            · skip
              have q_397 := i_rng (tb_4 r2.toNatClampNeg)
              have e_398 := mt i_eq.mpr (show ¬ ((tb_4 r2.toNatClampNeg) = (0 : Int32)) from c_389)
              unfold cb_X10_behindSign_168
              refine WP.ix (show vp_in r2 23 from vp_in_iff.mpr ⟨by omega, by omega⟩) ?_
              unfold cb_X10_behindSign_178
              refine WP.bind (cs_X10_add hfu (tb_4 r2.toNatClampNeg) (0 : Int32) x1 F G hI) ?_
              rintro r399 F399 G399 ⟨hI399, hB399, hT399, hO399, hK399, hp399⟩
              dsimp only
              have q_400 := hI.r 10 rfl
              have q_401 := hI399.r 10 rfl
              have e_402 : (F399 10).toInt = (F 10).toInt := hO399
              unfold cb_X10_behindSign_186
              refine WP.ret ?_
              first | have e_403 : ((x1 + (1 : Int32)) + (1 : Int32)).toInt = (x1 + (1 : Int32)).toInt + (1) := i_addn (x1 + (1 : Int32)) rfl (by omega) (by omega) | have e_404 := i_rng ((x1 + (1 : Int32)) + (1 : Int32))
              exact ⟨hI399, (KB.tr (KB.rf : KB F G F G) hB399), (KT.tr (rfl : KT F F) hT399), (KO.tr (rfl : KO F F) hO399), (KK.tr (rfl : KK F F) hK399), (show ((x1 + (1 : Int32)) + (1 : Int32)).toInt = -1 ∨ (0 ≤ ((x1 + (1 : Int32)) + (1 : Int32)).toInt ∧ ((x1 + (1 : Int32)) + (1 : Int32)).toInt ≤ 4010) by omega)⟩
          · skip
            have l_405 : (61 : Int32).toInt = 61 := rfl
            have e_406 := mt i_eq.mpr (show ¬ (r6 = (61 : Int32)) from c_386)
            unfold cb_X10_behindSign_178
            have q_407 := i_rng (tb_2 r2.toNatClampNeg)
            refine WP.bind (cs_X10_add hfu (tb_2 r2.toNatClampNeg) (0 : Int32) x1 F G hI) ?_
            rintro r408 F408 G408 ⟨hI408, hB408, hT408, hO408, hK408, hp408⟩
            dsimp only
            have q_409 := hI.r 10 rfl
            have q_410 := hI408.r 10 rfl
            have e_411 : (F408 10).toInt = (F 10).toInt := hO408
            unfold cb_X10_behindSign_186
            refine WP.ret ?_
            exact ⟨hI408, (KB.tr (KB.rf : KB F G F G) hB408), (KT.tr (rfl : KT F F) hT408), (KO.tr (rfl : KO F F) hO408), (KK.tr (rfl : KK F F) hK408), (show (x1 + (1 : Int32)).toInt = -1 ∨ (0 ≤ (x1 + (1 : Int32)).toInt ∧ (x1 + (1 : Int32)).toInt ≤ 4010) by omega)⟩
