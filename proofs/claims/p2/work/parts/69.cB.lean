theorem ct_X4_forStatement {fu d : Nat} (hfu : 8589934592 ≤ fu) (rc : RC) (ih : cIH2 rc d) (F : PF) (G : PG) (hI : CI F G) (hd : 4 * (40 - (F 10).toInt) + 3 ≤ (d + 1 : Int)) : WP (ch_X4_forStatement fu rc F G) (fun r' F' G' => CI F' G' ∧ KB F G F' G' ∧ KT F F' ∧ KO F F' ∧ True) := by
  unfold ch_X4_forStatement
  have q_10 := hI.r 10 rfl
  unfold cb_X4_forStatement_0
  have l_1 : (12 : Int32).toInt = 12 := rfl
  refine WP.bind (cs_X2_opens hfu (12 : Int32) F G hI) ?_
  rintro r2 F2 G2 ⟨hI2, hB2, hT2, hp2⟩
  dsimp only
  have q_3 := b_rng (hp2.1)
  have q_4 := hI.r 10 rfl
  have q_5 := hI2.r 10 rfl
  have e_6 : r2.toInt = 1 → (F2 10).toInt = (F 10).toInt + 1 ∧ (F 10).toInt < 40 := hp2.2.1
  have e_7 : r2.toInt = 0 → (F2 10).toInt = (F 10).toInt := hp2.2.2
  unfold cb_X4_forStatement_9
  refine WP.ite (fun c_8 => ?_) (fun c_8 => ?_)
  · skip
    have l_9 : (0 : Int32).toInt = 0 := rfl
    have e_10 := i_eq.mp (show r2 = (0 : Int32) from c_8)
    unfold cb_X4_forStatement_12
    refine WP.ret ?_
    exact ⟨hI2, (KB.tr (KB.rf : KB F G F G) hB2), (KT.tr (rfl : KT F F) hT2), (show (F2 10).toInt = (F 10).toInt by omega), trivial⟩
  · skip
    have l_11 : (0 : Int32).toInt = 0 := rfl
    have e_12 := mt i_eq.mpr (show ¬ (r2 = (0 : Int32)) from c_8)
    unfold cb_X4_forStatement_13
    refine WP.bind (cs_X5_enter hfu F2 G2 hI2) ?_
    rintro r13 F13 G13 ⟨hI13, hB13, hT13, hO13, hp13⟩
    dsimp only
    have q_14 := hI13.r 10 rfl
    have e_15 : (F13 10).toInt = (F2 10).toInt := hO13
    unfold cb_X4_forStatement_30
    have l_16 : (19 : Int32).toInt = 19 := rfl
    refine WP.bind (cs_X2_opens hfu (19 : Int32) F13 G13 hI13) ?_
    rintro r17 F17 G17 ⟨hI17, hB17, hT17, hp17⟩
    dsimp only
    have q_18 := b_rng (hp17.1)
    have q_19 := hI17.r 10 rfl
    have e_20 : r17.toInt = 1 → (F17 10).toInt = (F13 10).toInt + 1 ∧ (F13 10).toInt < 40 := hp17.2.1
    have e_21 : r17.toInt = 0 → (F17 10).toInt = (F13 10).toInt := hp17.2.2
    unfold cb_X4_forStatement_39
    refine WP.ite (fun c_22 => ?_) (fun c_22 => ?_)
    · skip
      have e_23 := i_eq.mp (show r17 = (0 : Int32) from c_22)
      unfold cb_X4_forStatement_63
      refine WP.ite (fun c_24 => ?_) (fun c_24 => ?_)
      · skip
        have e_25 := i_eq.mp (show r17 = (0 : Int32) from c_24)
        unfold cb_X4_forStatement_83
        have l_26 : (26 : Int32).toInt = 26 := rfl
        refine WP.bind (cs_X2_expect hfu (26 : Int32) F17 G17 hI17) ?_
        rintro r27 F27 G27 ⟨hI27, hB27, hT27, hO27, hp27⟩
        dsimp only
        have q_28 := hI27.r 10 rfl
        have e_29 : (F27 10).toInt = (F17 10).toInt := hO27
        unfold cb_X4_forStatement_92
        refine WP.ite (fun c_30 => ?_) (fun c_30 => ?_)
        · skip
          have q_31 := i_rng (F27 11)
          have e_32 := i_eq.mp (show (F27 11) = (26 : Int32) from c_30)
          unfold cb_X4_forStatement_135
          refine WP.bind (cs_X2_expect hfu (26 : Int32) F27 G27 hI27) ?_
          rintro r33 F33 G33 ⟨hI33, hB33, hT33, hO33, hp33⟩
          dsimp only
          have q_34 := hI33.r 10 rfl
          have e_35 : (F33 10).toInt = (F27 10).toInt := hO33
          unfold cb_X4_forStatement_144
          have l_36 : (84 : Int32).toInt = 84 := rfl
          have l_37 : (-1 : Int32).toInt = -1 := rfl
          refine WP.bind (cs_X1_addJump hfu (84 : Int32) (-1 : Int32) F33 G33 hI33) ?_
          rintro r38 F38 G38 ⟨hI38, hB38, hT38, hO38, hp38⟩
          dsimp only
          have q_39 := hI38.r 10 rfl
          have e_40 : (F38 10).toInt = (F33 10).toInt := hO38
          have q_41 := hI33.r 21 rfl
          have q_42 := hI38.r 21 rfl
          have e_43 : (F38 21).toInt = (F33 21).toInt := congrArg Int32.toInt hp38
          unfold cb_X4_forStatement_154
          refine WP.ite (fun c_44 => ?_) (fun c_44 => ?_)
          · skip
            have q_45 := i_rng (F38 11)
            have l_46 : (20 : Int32).toInt = 20 := rfl
            have e_47 := i_eq.mp (show (F38 11) = (20 : Int32) from c_44)
            unfold cb_X4_forStatement_181
            have q_48 := hI27.r 6 rfl
            refine WP.bind (cs_X1_addPair hfu (84 : Int32) (F27 6) F38 G38 hI38) ?_
            rintro r49 F49 G49 ⟨hI49, hB49, hT49, hO49, hp49⟩
            dsimp only
            have q_50 := hI49.r 10 rfl
            have e_51 : (F49 10).toInt = (F38 10).toInt := hO49
            unfold cb_X4_forStatement_192
            refine WP.bind (cs_X2_closesWith hfu (20 : Int32) F49 G49 hI49 (show 1 ≤ (F49 10).toInt by omega)) ?_
            rintro r52 F52 G52 ⟨hI52, hB52, hT52, hp52⟩
            dsimp only
            have q_53 := hI52.r 10 rfl
            have e_54 : (F52 10).toInt = (F49 10).toInt - 1 := hp52
            unfold cb_X4_forStatement_201
            have q_55 := i_rng r38
            have q_56 := hI52.r 6 rfl
            refine WP.bind (cs_X1_aim hfu r38 (F52 6) F52 G52 hI52) ?_
            rintro r57 F57 G57 ⟨hI57, hB57, hT57, hO57, hp57⟩
            dsimp only
            have q_58 := hI57.r 10 rfl
            have e_59 : (F57 10).toInt = (F52 10).toInt := hO57
            unfold cb_X4_forStatement_217
            refine WP.bind (ih.2.2.2.2.2.1 F57 G57 hI57 (by omega)) ?_
            rintro r60 F60 G60 ⟨hI60, hB60, hT60, hO60, hp60⟩
            dsimp only
            have q_61 := hI60.r 10 rfl
            have e_62 : (F60 10).toInt = (F57 10).toInt := hO60
            unfold cb_X4_forStatement_221
            have q_63 := hI38.r 6 rfl
            refine WP.bind (cs_X1_addPair hfu (84 : Int32) (F38 6) F60 G60 hI60) ?_
            rintro r64 F64 G64 ⟨hI64, hB64, hT64, hO64, hp64⟩
            dsimp only
            have q_65 := hI64.r 10 rfl
            have e_66 : (F64 10).toInt = (F60 10).toInt := hO64
            unfold cb_X4_forStatement_232
            have q_67 := i_rng (F64 31)
            refine WP.bind (cs_X1_aim hfu (F64 31) (F38 6) F64 G64 hI64) ?_
            rintro r68 F68 G68 ⟨hI68, hB68, hT68, hO68, hp68⟩
            dsimp only
            have q_69 := hI68.r 10 rfl
            have e_70 : (F68 10).toInt = (F64 10).toInt := hO68
            unfold cb_X4_forStatement_245
            have q_71 := hI68.r 6 rfl
            refine WP.bind (cs_X1_aim hfu (-1 : Int32) (F68 6) F68 G68 hI68) ?_
            rintro r72 F72 G72 ⟨hI72, hB72, hT72, hO72, hp72⟩
            dsimp only
            have q_73 := hI72.r 10 rfl
            have e_74 : (F72 10).toInt = (F68 10).toInt := hO72
            unfold cb_X4_forStatement_261
            have q_75 := i_rng (F72 30)
            have q_76 := hI72.r 6 rfl
            refine WP.bind (cs_X1_aim hfu (F72 30) (F72 6) F72 G72 hI72) ?_
            rintro r77 F77 G77 ⟨hI77, hB77, hT77, hO77, hp77⟩
            dsimp only
            have q_78 := hI77.r 10 rfl
            have e_79 : (F77 10).toInt = (F72 10).toInt := hO77
            unfold cb_X4_forStatement_279
            refine WP.bind (cs_X5_leave hfu F77 G77 hI77) ?_
            rintro r80 F80 G80 ⟨hI80, hB80, hT80, hO80, hp80⟩
            dsimp only
            have q_81 := hI80.r 10 rfl
            have e_82 : (F80 10).toInt = (F77 10).toInt := hO80
            unfold cb_X4_forStatement_286
            have q_83 := i_rng (F2 30)
            have j_84 : CI (fup F80 30 (F2 30)) G80 := CI.fr rfl hI80
            unfold cb_X4_forStatement_291
            have q_85 := i_rng (F2 31)
            have j_86 : CI (fup (fup F80 30 (F2 30)) 31 (F2 31)) G80 := CI.fr rfl j_84
            unfold cb_X4_forStatement_296
            refine WP.bind (cs_X2_closes hfu (fup (fup F80 30 (F2 30)) 31 (F2 31)) G80 j_86 (show 1 ≤ (F80 10).toInt by omega)) ?_
            rintro r87 F87 G87 ⟨hI87, hB87, hT87, hp87⟩
            dsimp only
            have q_88 := hI87.r 10 rfl
            have e_89 : (F87 10).toInt = (F80 10).toInt - 1 := hp87
            unfold cb_X4_forStatement_303
            refine WP.ret ?_
            exact ⟨hI87, (KB.tr (KB.f (by decide) (KB.f (by decide) (KB.tr (KB.tr (KB.tr (KB.tr (KB.tr (KB.tr (KB.tr (KB.tr (KB.tr (KB.tr (KB.tr (KB.tr (KB.tr (KB.tr (KB.tr (KB.rf : KB F G F G) hB2) hB13) hB17) hB27) hB33) hB38) hB49) hB52) hB57) hB60) hB64) hB68) hB72) hB77) hB80))) hB87), (KT.tr (KT.f (by decide) (KT.f (by decide) (KT.tr (KT.tr (KT.tr (KT.tr (KT.tr (KT.tr (KT.tr (KT.tr (KT.tr (KT.tr (KT.tr (KT.tr (KT.tr (KT.tr (KT.tr (rfl : KT F F) hT2) hT13) hT17) hT27) hT33) hT38) hT49) hT52) hT57) hT60) hT64) hT68) hT72) hT77) hT80))) hT87), (show (F87 10).toInt = (F 10).toInt by omega), trivial⟩
          · skip
            have q_90 := i_rng (F38 11)
            have l_91 : (20 : Int32).toInt = 20 := rfl
            have e_92 := mt i_eq.mpr (show ¬ ((F38 11) = (20 : Int32)) from c_44)
            unfold cb_X4_forStatement_177
            refine WP.bind (cs_X4_simple hfu F38 G38 hI38) ?_
            rintro r93 F93 G93 ⟨hI93, hB93, hT93, hO93, hp93⟩
            dsimp only
            have q_94 := hI93.r 10 rfl
            have e_95 : (F93 10).toInt = (F38 10).toInt := hO93
            unfold cb_X4_forStatement_181
            have q_96 := hI27.r 6 rfl
            refine WP.bind (cs_X1_addPair hfu (84 : Int32) (F27 6) F93 G93 hI93) ?_
            rintro r97 F97 G97 ⟨hI97, hB97, hT97, hO97, hp97⟩
            dsimp only
            have q_98 := hI97.r 10 rfl
            have e_99 : (F97 10).toInt = (F93 10).toInt := hO97
            unfold cb_X4_forStatement_192
            refine WP.bind (cs_X2_closesWith hfu (20 : Int32) F97 G97 hI97 (show 1 ≤ (F97 10).toInt by omega)) ?_
            rintro r100 F100 G100 ⟨hI100, hB100, hT100, hp100⟩
            dsimp only
            have q_101 := hI100.r 10 rfl
            have e_102 : (F100 10).toInt = (F97 10).toInt - 1 := hp100
            unfold cb_X4_forStatement_201
            have q_103 := i_rng r38
            have q_104 := hI100.r 6 rfl
            refine WP.bind (cs_X1_aim hfu r38 (F100 6) F100 G100 hI100) ?_
            rintro r105 F105 G105 ⟨hI105, hB105, hT105, hO105, hp105⟩
            dsimp only
            have q_106 := hI105.r 10 rfl
            have e_107 : (F105 10).toInt = (F100 10).toInt := hO105
            unfold cb_X4_forStatement_217
            refine WP.bind (ih.2.2.2.2.2.1 F105 G105 hI105 (by omega)) ?_
            rintro r108 F108 G108 ⟨hI108, hB108, hT108, hO108, hp108⟩
            dsimp only
            have q_109 := hI108.r 10 rfl
            have e_110 : (F108 10).toInt = (F105 10).toInt := hO108
            unfold cb_X4_forStatement_221
            have q_111 := hI38.r 6 rfl
            refine WP.bind (cs_X1_addPair hfu (84 : Int32) (F38 6) F108 G108 hI108) ?_
            rintro r112 F112 G112 ⟨hI112, hB112, hT112, hO112, hp112⟩
            dsimp only
            have q_113 := hI112.r 10 rfl
            have e_114 : (F112 10).toInt = (F108 10).toInt := hO112
            unfold cb_X4_forStatement_232
            have q_115 := i_rng (F112 31)
            refine WP.bind (cs_X1_aim hfu (F112 31) (F38 6) F112 G112 hI112) ?_
            rintro r116 F116 G116 ⟨hI116, hB116, hT116, hO116, hp116⟩
            dsimp only
            have q_117 := hI116.r 10 rfl
            have e_118 : (F116 10).toInt = (F112 10).toInt := hO116
            unfold cb_X4_forStatement_245
            have q_119 := hI116.r 6 rfl
            refine WP.bind (cs_X1_aim hfu (-1 : Int32) (F116 6) F116 G116 hI116) ?_
            rintro r120 F120 G120 ⟨hI120, hB120, hT120, hO120, hp120⟩
            dsimp only
            have q_121 := hI120.r 10 rfl
            have e_122 : (F120 10).toInt = (F116 10).toInt := hO120
            unfold cb_X4_forStatement_261
            have q_123 := i_rng (F120 30)
            have q_124 := hI120.r 6 rfl
            refine WP.bind (cs_X1_aim hfu (F120 30) (F120 6) F120 G120 hI120) ?_
            rintro r125 F125 G125 ⟨hI125, hB125, hT125, hO125, hp125⟩
            dsimp only
            have q_126 := hI125.r 10 rfl
            have e_127 : (F125 10).toInt = (F120 10).toInt := hO125
            unfold cb_X4_forStatement_279
            refine WP.bind (cs_X5_leave hfu F125 G125 hI125) ?_
            rintro r128 F128 G128 ⟨hI128, hB128, hT128, hO128, hp128⟩
            dsimp only
            have q_129 := hI128.r 10 rfl
            have e_130 : (F128 10).toInt = (F125 10).toInt := hO128
            unfold cb_X4_forStatement_286
            have q_131 := i_rng (F2 30)
            have j_132 : CI (fup F128 30 (F2 30)) G128 := CI.fr rfl hI128
            unfold cb_X4_forStatement_291
            have q_133 := i_rng (F2 31)
            have j_134 : CI (fup (fup F128 30 (F2 30)) 31 (F2 31)) G128 := CI.fr rfl j_132
            unfold cb_X4_forStatement_296
            refine WP.bind (cs_X2_closes hfu (fup (fup F128 30 (F2 30)) 31 (F2 31)) G128 j_134 (show 1 ≤ (F128 10).toInt by omega)) ?_
            rintro r135 F135 G135 ⟨hI135, hB135, hT135, hp135⟩
            dsimp only
            have q_136 := hI135.r 10 rfl
            have e_137 : (F135 10).toInt = (F128 10).toInt - 1 := hp135
            unfold cb_X4_forStatement_303
            refine WP.ret ?_
            exact ⟨hI135, (KB.tr (KB.f (by decide) (KB.f (by decide) (KB.tr (KB.tr (KB.tr (KB.tr (KB.tr (KB.tr (KB.tr (KB.tr (KB.tr (KB.tr (KB.tr (KB.tr (KB.tr (KB.tr (KB.tr (KB.tr (KB.rf : KB F G F G) hB2) hB13) hB17) hB27) hB33) hB38) hB93) hB97) hB100) hB105) hB108) hB112) hB116) hB120) hB125) hB128))) hB135), (KT.tr (KT.f (by decide) (KT.f (by decide) (KT.tr (KT.tr (KT.tr (KT.tr (KT.tr (KT.tr (KT.tr (KT.tr (KT.tr (KT.tr (KT.tr (KT.tr (KT.tr (KT.tr (KT.tr (KT.tr (rfl : KT F F) hT2) hT13) hT17) hT27) hT33) hT38) hT93) hT97) hT100) hT105) hT108) hT112) hT116) hT120) hT125) hT128))) hT135), (show (F135 10).toInt = (F 10).toInt by omega), trivial⟩
        · skip
          have q_138 := i_rng (F27 11)
          have e_139 := mt i_eq.mpr (show ¬ ((F27 11) = (26 : Int32)) from c_30)
          unfold cb_X4_forStatement_116
          refine WP.bind (cs_X3_expression hfu F27 G27 hI27) ?_
          rintro r140 F140 G140 ⟨hI140, hB140, hT140, hO140, hp140⟩
          dsimp only
          have q_141 := hI140.r 10 rfl
          have e_142 : (F140 10).toInt = (F27 10).toInt := hO140
          unfold cb_X4_forStatement_123
          have l_143 : (86 : Int32).toInt = 86 := rfl
          have l_144 : (-1 : Int32).toInt = -1 := rfl
          refine WP.bind (cs_X1_addJump hfu (86 : Int32) (-1 : Int32) F140 G140 hI140) ?_
          rintro r145 F145 G145 ⟨hI145, hB145, hT145, hO145, hp145⟩
          dsimp only
          have q_146 := hI145.r 10 rfl
          have e_147 : (F145 10).toInt = (F140 10).toInt := hO145
          have q_148 := hI140.r 21 rfl
          have q_149 := hI145.r 21 rfl
          have e_150 : (F145 21).toInt = (F140 21).toInt := congrArg Int32.toInt hp145
          unfold cb_X4_forStatement_133
          unfold cb_X4_forStatement_135
          refine WP.bind (cs_X2_expect hfu (26 : Int32) F145 G145 hI145) ?_
          rintro r151 F151 G151 ⟨hI151, hB151, hT151, hO151, hp151⟩
          dsimp only
          have q_152 := hI151.r 10 rfl
          have e_153 : (F151 10).toInt = (F145 10).toInt := hO151
          unfold cb_X4_forStatement_144
          have l_154 : (84 : Int32).toInt = 84 := rfl
          refine WP.bind (cs_X1_addJump hfu (84 : Int32) (-1 : Int32) F151 G151 hI151) ?_
          rintro r155 F155 G155 ⟨hI155, hB155, hT155, hO155, hp155⟩
          dsimp only
          have q_156 := hI155.r 10 rfl
          have e_157 : (F155 10).toInt = (F151 10).toInt := hO155
          have q_158 := hI151.r 21 rfl
          have q_159 := hI155.r 21 rfl
          have e_160 : (F155 21).toInt = (F151 21).toInt := congrArg Int32.toInt hp155
          unfold cb_X4_forStatement_154
          refine WP.ite (fun c_161 => ?_) (fun c_161 => ?_)
          · skip
            have q_162 := i_rng (F155 11)
            have l_163 : (20 : Int32).toInt = 20 := rfl
            have e_164 := i_eq.mp (show (F155 11) = (20 : Int32) from c_161)
            unfold cb_X4_forStatement_181
            have q_165 := hI27.r 6 rfl
            refine WP.bind (cs_X1_addPair hfu (84 : Int32) (F27 6) F155 G155 hI155) ?_
            rintro r166 F166 G166 ⟨hI166, hB166, hT166, hO166, hp166⟩
            dsimp only
            have q_167 := hI166.r 10 rfl
            have e_168 : (F166 10).toInt = (F155 10).toInt := hO166
            unfold cb_X4_forStatement_192
            refine WP.bind (cs_X2_closesWith hfu (20 : Int32) F166 G166 hI166 (show 1 ≤ (F166 10).toInt by omega)) ?_
            rintro r169 F169 G169 ⟨hI169, hB169, hT169, hp169⟩
            dsimp only
            have q_170 := hI169.r 10 rfl
            have e_171 : (F169 10).toInt = (F166 10).toInt - 1 := hp169
            unfold cb_X4_forStatement_201
            have q_172 := i_rng r155
            have q_173 := hI169.r 6 rfl
            refine WP.bind (cs_X1_aim hfu r155 (F169 6) F169 G169 hI169) ?_
            rintro r174 F174 G174 ⟨hI174, hB174, hT174, hO174, hp174⟩
            dsimp only
            have q_175 := hI174.r 10 rfl
            have e_176 : (F174 10).toInt = (F169 10).toInt := hO174
            unfold cb_X4_forStatement_217
            refine WP.bind (ih.2.2.2.2.2.1 F174 G174 hI174 (by omega)) ?_
            rintro r177 F177 G177 ⟨hI177, hB177, hT177, hO177, hp177⟩
            dsimp only
            have q_178 := hI177.r 10 rfl
            have e_179 : (F177 10).toInt = (F174 10).toInt := hO177
            unfold cb_X4_forStatement_221
            have q_180 := hI155.r 6 rfl
            refine WP.bind (cs_X1_addPair hfu (84 : Int32) (F155 6) F177 G177 hI177) ?_
            rintro r181 F181 G181 ⟨hI181, hB181, hT181, hO181, hp181⟩
            dsimp only
            have q_182 := hI181.r 10 rfl
            have e_183 : (F181 10).toInt = (F177 10).toInt := hO181
            unfold cb_X4_forStatement_232
            have q_184 := i_rng (F181 31)
            refine WP.bind (cs_X1_aim hfu (F181 31) (F155 6) F181 G181 hI181) ?_
            rintro r185 F185 G185 ⟨hI185, hB185, hT185, hO185, hp185⟩
            dsimp only
            have q_186 := hI185.r 10 rfl
            have e_187 : (F185 10).toInt = (F181 10).toInt := hO185
            unfold cb_X4_forStatement_245
            have q_188 := i_rng r145
            have q_189 := hI185.r 6 rfl
            refine WP.bind (cs_X1_aim hfu r145 (F185 6) F185 G185 hI185) ?_
            rintro r190 F190 G190 ⟨hI190, hB190, hT190, hO190, hp190⟩
            dsimp only
            have q_191 := hI190.r 10 rfl
            have e_192 : (F190 10).toInt = (F185 10).toInt := hO190
            unfold cb_X4_forStatement_261
            have q_193 := i_rng (F190 30)
            have q_194 := hI190.r 6 rfl
            refine WP.bind (cs_X1_aim hfu (F190 30) (F190 6) F190 G190 hI190) ?_
            rintro r195 F195 G195 ⟨hI195, hB195, hT195, hO195, hp195⟩
            dsimp only
            have q_196 := hI195.r 10 rfl
            have e_197 : (F195 10).toInt = (F190 10).toInt := hO195
            unfold cb_X4_forStatement_279
            refine WP.bind (cs_X5_leave hfu F195 G195 hI195) ?_
            rintro r198 F198 G198 ⟨hI198, hB198, hT198, hO198, hp198⟩
            dsimp only
            have q_199 := hI198.r 10 rfl
            have e_200 : (F198 10).toInt = (F195 10).toInt := hO198
            unfold cb_X4_forStatement_286
            have q_201 := i_rng (F2 30)
            have j_202 : CI (fup F198 30 (F2 30)) G198 := CI.fr rfl hI198
            unfold cb_X4_forStatement_291
            have q_203 := i_rng (F2 31)
            have j_204 : CI (fup (fup F198 30 (F2 30)) 31 (F2 31)) G198 := CI.fr rfl j_202
            unfold cb_X4_forStatement_296
            refine WP.bind (cs_X2_closes hfu (fup (fup F198 30 (F2 30)) 31 (F2 31)) G198 j_204 (show 1 ≤ (F198 10).toInt by omega)) ?_
            rintro r205 F205 G205 ⟨hI205, hB205, hT205, hp205⟩
            dsimp only
            have q_206 := hI205.r 10 rfl
            have e_207 : (F205 10).toInt = (F198 10).toInt - 1 := hp205
            unfold cb_X4_forStatement_303
            refine WP.ret ?_
            exact ⟨hI205, (KB.tr (KB.f (by decide) (KB.f (by decide) (KB.tr (KB.tr (KB.tr (KB.tr (KB.tr (KB.tr (KB.tr (KB.tr (KB.tr (KB.tr (KB.tr (KB.tr (KB.tr (KB.tr (KB.tr (KB.tr (KB.tr (KB.rf : KB F G F G) hB2) hB13) hB17) hB27) hB140) hB145) hB151) hB155) hB166) hB169) hB174) hB177) hB181) hB185) hB190) hB195) hB198))) hB205), (KT.tr (KT.f (by decide) (KT.f (by decide) (KT.tr (KT.tr (KT.tr (KT.tr (KT.tr (KT.tr (KT.tr (KT.tr (KT.tr (KT.tr (KT.tr (KT.tr (KT.tr (KT.tr (KT.tr (KT.tr (KT.tr (rfl : KT F F) hT2) hT13) hT17) hT27) hT140) hT145) hT151) hT155) hT166) hT169) hT174) hT177) hT181) hT185) hT190) hT195) hT198))) hT205), (show (F205 10).toInt = (F 10).toInt by omega), trivial⟩
          · skip
            have q_208 := i_rng (F155 11)
            have l_209 : (20 : Int32).toInt = 20 := rfl
            have e_210 := mt i_eq.mpr (show ¬ ((F155 11) = (20 : Int32)) from c_161)
            unfold cb_X4_forStatement_177
            refine WP.bind (cs_X4_simple hfu F155 G155 hI155) ?_
            rintro r211 F211 G211 ⟨hI211, hB211, hT211, hO211, hp211⟩
            dsimp only
            have q_212 := hI211.r 10 rfl
            have e_213 : (F211 10).toInt = (F155 10).toInt := hO211
            unfold cb_X4_forStatement_181
            have q_214 := hI27.r 6 rfl
            refine WP.bind (cs_X1_addPair hfu (84 : Int32) (F27 6) F211 G211 hI211) ?_
            rintro r215 F215 G215 ⟨hI215, hB215, hT215, hO215, hp215⟩
            dsimp only
            have q_216 := hI215.r 10 rfl
            have e_217 : (F215 10).toInt = (F211 10).toInt := hO215
            unfold cb_X4_forStatement_192
            refine WP.bind (cs_X2_closesWith hfu (20 : Int32) F215 G215 hI215 (show 1 ≤ (F215 10).toInt by omega)) ?_
            rintro r218 F218 G218 ⟨hI218, hB218, hT218, hp218⟩
            dsimp only
            have q_219 := hI218.r 10 rfl
            have e_220 : (F218 10).toInt = (F215 10).toInt - 1 := hp218
            unfold cb_X4_forStatement_201
            have q_221 := i_rng r155
            have q_222 := hI218.r 6 rfl
            refine WP.bind (cs_X1_aim hfu r155 (F218 6) F218 G218 hI218) ?_
            rintro r223 F223 G223 ⟨hI223, hB223, hT223, hO223, hp223⟩
            dsimp only
            have q_224 := hI223.r 10 rfl
            have e_225 : (F223 10).toInt = (F218 10).toInt := hO223
            unfold cb_X4_forStatement_217
            refine WP.bind (ih.2.2.2.2.2.1 F223 G223 hI223 (by omega)) ?_
            rintro r226 F226 G226 ⟨hI226, hB226, hT226, hO226, hp226⟩
            dsimp only
            have q_227 := hI226.r 10 rfl
            have e_228 : (F226 10).toInt = (F223 10).toInt := hO226
            unfold cb_X4_forStatement_221
            have q_229 := hI155.r 6 rfl
            refine WP.bind (cs_X1_addPair hfu (84 : Int32) (F155 6) F226 G226 hI226) ?_
            rintro r230 F230 G230 ⟨hI230, hB230, hT230, hO230, hp230⟩
            dsimp only
            have q_231 := hI230.r 10 rfl
            have e_232 : (F230 10).toInt = (F226 10).toInt := hO230
            unfold cb_X4_forStatement_232
            have q_233 := i_rng (F230 31)
            refine WP.bind (cs_X1_aim hfu (F230 31) (F155 6) F230 G230 hI230) ?_
            rintro r234 F234 G234 ⟨hI234, hB234, hT234, hO234, hp234⟩
            dsimp only
            have q_235 := hI234.r 10 rfl
            have e_236 : (F234 10).toInt = (F230 10).toInt := hO234
            unfold cb_X4_forStatement_245
            have q_237 := i_rng r145
            have q_238 := hI234.r 6 rfl
            refine WP.bind (cs_X1_aim hfu r145 (F234 6) F234 G234 hI234) ?_
            rintro r239 F239 G239 ⟨hI239, hB239, hT239, hO239, hp239⟩
            dsimp only
            have q_240 := hI239.r 10 rfl
            have e_241 : (F239 10).toInt = (F234 10).toInt := hO239
            unfold cb_X4_forStatement_261
            have q_242 := i_rng (F239 30)
            have q_243 := hI239.r 6 rfl
            refine WP.bind (cs_X1_aim hfu (F239 30) (F239 6) F239 G239 hI239) ?_
            rintro r244 F244 G244 ⟨hI244, hB244, hT244, hO244, hp244⟩
            dsimp only
            have q_245 := hI244.r 10 rfl
            have e_246 : (F244 10).toInt = (F239 10).toInt := hO244
            unfold cb_X4_forStatement_279
            refine WP.bind (cs_X5_leave hfu F244 G244 hI244) ?_
            rintro r247 F247 G247 ⟨hI247, hB247, hT247, hO247, hp247⟩
            dsimp only
            have q_248 := hI247.r 10 rfl
            have e_249 : (F247 10).toInt = (F244 10).toInt := hO247
            unfold cb_X4_forStatement_286
            have q_250 := i_rng (F2 30)
            have j_251 : CI (fup F247 30 (F2 30)) G247 := CI.fr rfl hI247
            unfold cb_X4_forStatement_291
            have q_252 := i_rng (F2 31)
            have j_253 : CI (fup (fup F247 30 (F2 30)) 31 (F2 31)) G247 := CI.fr rfl j_251
            unfold cb_X4_forStatement_296
            refine WP.bind (cs_X2_closes hfu (fup (fup F247 30 (F2 30)) 31 (F2 31)) G247 j_253 (show 1 ≤ (F247 10).toInt by omega)) ?_
            rintro r254 F254 G254 ⟨hI254, hB254, hT254, hp254⟩
            dsimp only
            have q_255 := hI254.r 10 rfl
            have e_256 : (F254 10).toInt = (F247 10).toInt - 1 := hp254
            unfold cb_X4_forStatement_303
            refine WP.ret ?_
            exact ⟨hI254, (KB.tr (KB.f (by decide) (KB.f (by decide) (KB.tr (KB.tr (KB.tr (KB.tr (KB.tr (KB.tr (KB.tr (KB.tr (KB.tr (KB.tr (KB.tr (KB.tr (KB.tr (KB.tr (KB.tr (KB.tr (KB.tr (KB.tr (KB.rf : KB F G F G) hB2) hB13) hB17) hB27) hB140) hB145) hB151) hB155) hB211) hB215) hB218) hB223) hB226) hB230) hB234) hB239) hB244) hB247))) hB254), (KT.tr (KT.f (by decide) (KT.f (by decide) (KT.tr (KT.tr (KT.tr (KT.tr (KT.tr (KT.tr (KT.tr (KT.tr (KT.tr (KT.tr (KT.tr (KT.tr (KT.tr (KT.tr (KT.tr (KT.tr (KT.tr (KT.tr (rfl : KT F F) hT2) hT13) hT17) hT27) hT140) hT145) hT151) hT155) hT211) hT215) hT218) hT223) hT226) hT230) hT234) hT239) hT244) hT247))) hT254), (show (F254 10).toInt = (F 10).toInt by omega), trivial⟩
      · skip
        have e_257 := mt i_eq.mpr (show ¬ (r17 = (0 : Int32)) from c_24)
        unfold cb_X4_forStatement_67
        refine WP.ite (fun c_258 => ?_) (fun c_258 => ?_)
        · skip
          have q_259 := i_rng (F17 11)
          have l_260 : (26 : Int32).toInt = 26 := rfl
          have e_261 := i_eq.mp (show (F17 11) = (26 : Int32) from c_258)
          unfold cb_X4_forStatement_83
          refine WP.bind (cs_X2_expect hfu (26 : Int32) F17 G17 hI17) ?_
          rintro r262 F262 G262 ⟨hI262, hB262, hT262, hO262, hp262⟩
          dsimp only
          have q_263 := hI262.r 10 rfl
          have e_264 : (F262 10).toInt = (F17 10).toInt := hO262
          unfold cb_X4_forStatement_92
          refine WP.ite (fun c_265 => ?_) (fun c_265 => ?_)
          · skip
            have q_266 := i_rng (F262 11)
            have e_267 := i_eq.mp (show (F262 11) = (26 : Int32) from c_265)
            unfold cb_X4_forStatement_135
            refine WP.bind (cs_X2_expect hfu (26 : Int32) F262 G262 hI262) ?_
            rintro r268 F268 G268 ⟨hI268, hB268, hT268, hO268, hp268⟩
            dsimp only
            have q_269 := hI268.r 10 rfl
            have e_270 : (F268 10).toInt = (F262 10).toInt := hO268
            unfold cb_X4_forStatement_144
            have l_271 : (84 : Int32).toInt = 84 := rfl
            have l_272 : (-1 : Int32).toInt = -1 := rfl
            refine WP.bind (cs_X1_addJump hfu (84 : Int32) (-1 : Int32) F268 G268 hI268) ?_
            rintro r273 F273 G273 ⟨hI273, hB273, hT273, hO273, hp273⟩
            dsimp only
            have q_274 := hI273.r 10 rfl
            have e_275 : (F273 10).toInt = (F268 10).toInt := hO273
            have q_276 := hI268.r 21 rfl
            have q_277 := hI273.r 21 rfl
            have e_278 : (F273 21).toInt = (F268 21).toInt := congrArg Int32.toInt hp273
            unfold cb_X4_forStatement_154
            refine WP.ite (fun c_279 => ?_) (fun c_279 => ?_)
            · skip
              have q_280 := i_rng (F273 11)
              have l_281 : (20 : Int32).toInt = 20 := rfl
              have e_282 := i_eq.mp (show (F273 11) = (20 : Int32) from c_279)
              unfold cb_X4_forStatement_181
              have q_283 := hI262.r 6 rfl
              refine WP.bind (cs_X1_addPair hfu (84 : Int32) (F262 6) F273 G273 hI273) ?_
              rintro r284 F284 G284 ⟨hI284, hB284, hT284, hO284, hp284⟩
              dsimp only
              have q_285 := hI284.r 10 rfl
              have e_286 : (F284 10).toInt = (F273 10).toInt := hO284
              unfold cb_X4_forStatement_192
              refine WP.bind (cs_X2_closesWith hfu (20 : Int32) F284 G284 hI284 (show 1 ≤ (F284 10).toInt by omega)) ?_
              rintro r287 F287 G287 ⟨hI287, hB287, hT287, hp287⟩
              dsimp only
              have q_288 := hI287.r 10 rfl
              have e_289 : (F287 10).toInt = (F284 10).toInt - 1 := hp287
              unfold cb_X4_forStatement_201
              have q_290 := i_rng r273
              have q_291 := hI287.r 6 rfl
              refine WP.bind (cs_X1_aim hfu r273 (F287 6) F287 G287 hI287) ?_
              rintro r292 F292 G292 ⟨hI292, hB292, hT292, hO292, hp292⟩
              dsimp only
              have q_293 := hI292.r 10 rfl
              have e_294 : (F292 10).toInt = (F287 10).toInt := hO292
              unfold cb_X4_forStatement_217
              refine WP.bind (ih.2.2.2.2.2.1 F292 G292 hI292 (by omega)) ?_
              rintro r295 F295 G295 ⟨hI295, hB295, hT295, hO295, hp295⟩
              dsimp only
              have q_296 := hI295.r 10 rfl
              have e_297 : (F295 10).toInt = (F292 10).toInt := hO295
              unfold cb_X4_forStatement_221
              have q_298 := hI273.r 6 rfl
              refine WP.bind (cs_X1_addPair hfu (84 : Int32) (F273 6) F295 G295 hI295) ?_
              rintro r299 F299 G299 ⟨hI299, hB299, hT299, hO299, hp299⟩
              dsimp only
              have q_300 := hI299.r 10 rfl
              have e_301 : (F299 10).toInt = (F295 10).toInt := hO299
              unfold cb_X4_forStatement_232
              have q_302 := i_rng (F299 31)
              refine WP.bind (cs_X1_aim hfu (F299 31) (F273 6) F299 G299 hI299) ?_
              rintro r303 F303 G303 ⟨hI303, hB303, hT303, hO303, hp303⟩
              dsimp only
              have q_304 := hI303.r 10 rfl
              have e_305 : (F303 10).toInt = (F299 10).toInt := hO303
              unfold cb_X4_forStatement_245
              have q_306 := hI303.r 6 rfl
              refine WP.bind (cs_X1_aim hfu (-1 : Int32) (F303 6) F303 G303 hI303) ?_
              rintro r307 F307 G307 ⟨hI307, hB307, hT307, hO307, hp307⟩
              dsimp only
              have q_308 := hI307.r 10 rfl
              have e_309 : (F307 10).toInt = (F303 10).toInt := hO307
              unfold cb_X4_forStatement_261
              have q_310 := i_rng (F307 30)
              have q_311 := hI307.r 6 rfl
              refine WP.bind (cs_X1_aim hfu (F307 30) (F307 6) F307 G307 hI307) ?_
              rintro r312 F312 G312 ⟨hI312, hB312, hT312, hO312, hp312⟩
              dsimp only
              have q_313 := hI312.r 10 rfl
              have e_314 : (F312 10).toInt = (F307 10).toInt := hO312
              unfold cb_X4_forStatement_279
              refine WP.bind (cs_X5_leave hfu F312 G312 hI312) ?_
              rintro r315 F315 G315 ⟨hI315, hB315, hT315, hO315, hp315⟩
              dsimp only
              have q_316 := hI315.r 10 rfl
              have e_317 : (F315 10).toInt = (F312 10).toInt := hO315
              unfold cb_X4_forStatement_286
              have q_318 := i_rng (F2 30)
              have j_319 : CI (fup F315 30 (F2 30)) G315 := CI.fr rfl hI315
              unfold cb_X4_forStatement_291
              have q_320 := i_rng (F2 31)
              have j_321 : CI (fup (fup F315 30 (F2 30)) 31 (F2 31)) G315 := CI.fr rfl j_319
              unfold cb_X4_forStatement_296
              refine WP.bind (cs_X2_closes hfu (fup (fup F315 30 (F2 30)) 31 (F2 31)) G315 j_321 (show 1 ≤ (F315 10).toInt by omega)) ?_
              rintro r322 F322 G322 ⟨hI322, hB322, hT322, hp322⟩
              dsimp only
              have q_323 := hI322.r 10 rfl
              have e_324 : (F322 10).toInt = (F315 10).toInt - 1 := hp322
              unfold cb_X4_forStatement_303
              refine WP.ret ?_
              exact ⟨hI322, (KB.tr (KB.f (by decide) (KB.f (by decide) (KB.tr (KB.tr (KB.tr (KB.tr (KB.tr (KB.tr (KB.tr (KB.tr (KB.tr (KB.tr (KB.tr (KB.tr (KB.tr (KB.tr (KB.tr (KB.rf : KB F G F G) hB2) hB13) hB17) hB262) hB268) hB273) hB284) hB287) hB292) hB295) hB299) hB303) hB307) hB312) hB315))) hB322), (KT.tr (KT.f (by decide) (KT.f (by decide) (KT.tr (KT.tr (KT.tr (KT.tr (KT.tr (KT.tr (KT.tr (KT.tr (KT.tr (KT.tr (KT.tr (KT.tr (KT.tr (KT.tr (KT.tr (rfl : KT F F) hT2) hT13) hT17) hT262) hT268) hT273) hT284) hT287) hT292) hT295) hT299) hT303) hT307) hT312) hT315))) hT322), (show (F322 10).toInt = (F 10).toInt by omega), trivial⟩
            · skip
              have q_325 := i_rng (F273 11)
              have l_326 : (20 : Int32).toInt = 20 := rfl
              have e_327 := mt i_eq.mpr (show ¬ ((F273 11) = (20 : Int32)) from c_279)
              unfold cb_X4_forStatement_177
              refine WP.bind (cs_X4_simple hfu F273 G273 hI273) ?_
              rintro r328 F328 G328 ⟨hI328, hB328, hT328, hO328, hp328⟩
              dsimp only
              have q_329 := hI328.r 10 rfl
              have e_330 : (F328 10).toInt = (F273 10).toInt := hO328
              unfold cb_X4_forStatement_181
              have q_331 := hI262.r 6 rfl
              refine WP.bind (cs_X1_addPair hfu (84 : Int32) (F262 6) F328 G328 hI328) ?_
              rintro r332 F332 G332 ⟨hI332, hB332, hT332, hO332, hp332⟩
              dsimp only
              have q_333 := hI332.r 10 rfl
              have e_334 : (F332 10).toInt = (F328 10).toInt := hO332
              unfold cb_X4_forStatement_192
              refine WP.bind (cs_X2_closesWith hfu (20 : Int32) F332 G332 hI332 (show 1 ≤ (F332 10).toInt by omega)) ?_
              rintro r335 F335 G335 ⟨hI335, hB335, hT335, hp335⟩
              dsimp only
              have q_336 := hI335.r 10 rfl
              have e_337 : (F335 10).toInt = (F332 10).toInt - 1 := hp335
              unfold cb_X4_forStatement_201
              have q_338 := i_rng r273
              have q_339 := hI335.r 6 rfl
              refine WP.bind (cs_X1_aim hfu r273 (F335 6) F335 G335 hI335) ?_
              rintro r340 F340 G340 ⟨hI340, hB340, hT340, hO340, hp340⟩
              dsimp only
              have q_341 := hI340.r 10 rfl
              have e_342 : (F340 10).toInt = (F335 10).toInt := hO340
              unfold cb_X4_forStatement_217
              refine WP.bind (ih.2.2.2.2.2.1 F340 G340 hI340 (by omega)) ?_
              rintro r343 F343 G343 ⟨hI343, hB343, hT343, hO343, hp343⟩
              dsimp only
              have q_344 := hI343.r 10 rfl
              have e_345 : (F343 10).toInt = (F340 10).toInt := hO343
              unfold cb_X4_forStatement_221
              have q_346 := hI273.r 6 rfl
              refine WP.bind (cs_X1_addPair hfu (84 : Int32) (F273 6) F343 G343 hI343) ?_
              rintro r347 F347 G347 ⟨hI347, hB347, hT347, hO347, hp347⟩
              dsimp only
              have q_348 := hI347.r 10 rfl
              have e_349 : (F347 10).toInt = (F343 10).toInt := hO347
              unfold cb_X4_forStatement_232
              have q_350 := i_rng (F347 31)
              refine WP.bind (cs_X1_aim hfu (F347 31) (F273 6) F347 G347 hI347) ?_
              rintro r351 F351 G351 ⟨hI351, hB351, hT351, hO351, hp351⟩
              dsimp only
              have q_352 := hI351.r 10 rfl
              have e_353 : (F351 10).toInt = (F347 10).toInt := hO351
              unfold cb_X4_forStatement_245
              have q_354 := hI351.r 6 rfl
              refine WP.bind (cs_X1_aim hfu (-1 : Int32) (F351 6) F351 G351 hI351) ?_
              rintro r355 F355 G355 ⟨hI355, hB355, hT355, hO355, hp355⟩
              dsimp only
              have q_356 := hI355.r 10 rfl
              have e_357 : (F355 10).toInt = (F351 10).toInt := hO355
              unfold cb_X4_forStatement_261
              have q_358 := i_rng (F355 30)
              have q_359 := hI355.r 6 rfl
              refine WP.bind (cs_X1_aim hfu (F355 30) (F355 6) F355 G355 hI355) ?_
              rintro r360 F360 G360 ⟨hI360, hB360, hT360, hO360, hp360⟩
              dsimp only
              have q_361 := hI360.r 10 rfl
              have e_362 : (F360 10).toInt = (F355 10).toInt := hO360
              unfold cb_X4_forStatement_279
              refine WP.bind (cs_X5_leave hfu F360 G360 hI360) ?_
              rintro r363 F363 G363 ⟨hI363, hB363, hT363, hO363, hp363⟩
              dsimp only
              have q_364 := hI363.r 10 rfl
              have e_365 : (F363 10).toInt = (F360 10).toInt := hO363
              unfold cb_X4_forStatement_286
              have q_366 := i_rng (F2 30)
              have j_367 : CI (fup F363 30 (F2 30)) G363 := CI.fr rfl hI363
              unfold cb_X4_forStatement_291
              have q_368 := i_rng (F2 31)
              have j_369 : CI (fup (fup F363 30 (F2 30)) 31 (F2 31)) G363 := CI.fr rfl j_367
              unfold cb_X4_forStatement_296
              refine WP.bind (cs_X2_closes hfu (fup (fup F363 30 (F2 30)) 31 (F2 31)) G363 j_369 (show 1 ≤ (F363 10).toInt by omega)) ?_
              rintro r370 F370 G370 ⟨hI370, hB370, hT370, hp370⟩
              dsimp only
              have q_371 := hI370.r 10 rfl
              have e_372 : (F370 10).toInt = (F363 10).toInt - 1 := hp370
              unfold cb_X4_forStatement_303
              refine WP.ret ?_
              exact ⟨hI370, (KB.tr (KB.f (by decide) (KB.f (by decide) (KB.tr (KB.tr (KB.tr (KB.tr (KB.tr (KB.tr (KB.tr (KB.tr (KB.tr (KB.tr (KB.tr (KB.tr (KB.tr (KB.tr (KB.tr (KB.tr (KB.rf : KB F G F G) hB2) hB13) hB17) hB262) hB268) hB273) hB328) hB332) hB335) hB340) hB343) hB347) hB351) hB355) hB360) hB363))) hB370), (KT.tr (KT.f (by decide) (KT.f (by decide) (KT.tr (KT.tr (KT.tr (KT.tr (KT.tr (KT.tr (KT.tr (KT.tr (KT.tr (KT.tr (KT.tr (KT.tr (KT.tr (KT.tr (KT.tr (KT.tr (rfl : KT F F) hT2) hT13) hT17) hT262) hT268) hT273) hT328) hT332) hT335) hT340) hT343) hT347) hT351) hT355) hT360) hT363))) hT370), (show (F370 10).toInt = (F 10).toInt by omega), trivial⟩
          · skip
            have q_373 := i_rng (F262 11)
            have e_374 := mt i_eq.mpr (show ¬ ((F262 11) = (26 : Int32)) from c_265)
            unfold cb_X4_forStatement_116
            refine WP.bind (cs_X3_expression hfu F262 G262 hI262) ?_
            rintro r375 F375 G375 ⟨hI375, hB375, hT375, hO375, hp375⟩
            dsimp only
            have q_376 := hI375.r 10 rfl
            have e_377 : (F375 10).toInt = (F262 10).toInt := hO375
            unfold cb_X4_forStatement_123
            have l_378 : (86 : Int32).toInt = 86 := rfl
            have l_379 : (-1 : Int32).toInt = -1 := rfl
            refine WP.bind (cs_X1_addJump hfu (86 : Int32) (-1 : Int32) F375 G375 hI375) ?_
            rintro r380 F380 G380 ⟨hI380, hB380, hT380, hO380, hp380⟩
            dsimp only
            have q_381 := hI380.r 10 rfl
            have e_382 : (F380 10).toInt = (F375 10).toInt := hO380
            have q_383 := hI375.r 21 rfl
            have q_384 := hI380.r 21 rfl
            have e_385 : (F380 21).toInt = (F375 21).toInt := congrArg Int32.toInt hp380
            unfold cb_X4_forStatement_133
            unfold cb_X4_forStatement_135
            refine WP.bind (cs_X2_expect hfu (26 : Int32) F380 G380 hI380) ?_
            rintro r386 F386 G386 ⟨hI386, hB386, hT386, hO386, hp386⟩
            dsimp only
            have q_387 := hI386.r 10 rfl
            have e_388 : (F386 10).toInt = (F380 10).toInt := hO386
            unfold cb_X4_forStatement_144
            have l_389 : (84 : Int32).toInt = 84 := rfl
            refine WP.bind (cs_X1_addJump hfu (84 : Int32) (-1 : Int32) F386 G386 hI386) ?_
            rintro r390 F390 G390 ⟨hI390, hB390, hT390, hO390, hp390⟩
            dsimp only
            have q_391 := hI390.r 10 rfl
            have e_392 : (F390 10).toInt = (F386 10).toInt := hO390
            have q_393 := hI386.r 21 rfl
            have q_394 := hI390.r 21 rfl
            have e_395 : (F390 21).toInt = (F386 21).toInt := congrArg Int32.toInt hp390
            unfold cb_X4_forStatement_154
            refine WP.ite (fun c_396 => ?_) (fun c_396 => ?_)
            · skip
              have q_397 := i_rng (F390 11)
              have l_398 : (20 : Int32).toInt = 20 := rfl
              have e_399 := i_eq.mp (show (F390 11) = (20 : Int32) from c_396)
              unfold cb_X4_forStatement_181
              have q_400 := hI262.r 6 rfl
              refine WP.bind (cs_X1_addPair hfu (84 : Int32) (F262 6) F390 G390 hI390) ?_
              rintro r401 F401 G401 ⟨hI401, hB401, hT401, hO401, hp401⟩
              dsimp only
              have q_402 := hI401.r 10 rfl
              have e_403 : (F401 10).toInt = (F390 10).toInt := hO401
              unfold cb_X4_forStatement_192
              refine WP.bind (cs_X2_closesWith hfu (20 : Int32) F401 G401 hI401 (show 1 ≤ (F401 10).toInt by omega)) ?_
              rintro r404 F404 G404 ⟨hI404, hB404, hT404, hp404⟩
              dsimp only
              have q_405 := hI404.r 10 rfl
              have e_406 : (F404 10).toInt = (F401 10).toInt - 1 := hp404
              unfold cb_X4_forStatement_201
              have q_407 := i_rng r390
              have q_408 := hI404.r 6 rfl
              refine WP.bind (cs_X1_aim hfu r390 (F404 6) F404 G404 hI404) ?_
              rintro r409 F409 G409 ⟨hI409, hB409, hT409, hO409, hp409⟩
              dsimp only
              have q_410 := hI409.r 10 rfl
              have e_411 : (F409 10).toInt = (F404 10).toInt := hO409
              unfold cb_X4_forStatement_217
              refine WP.bind (ih.2.2.2.2.2.1 F409 G409 hI409 (by omega)) ?_
              rintro r412 F412 G412 ⟨hI412, hB412, hT412, hO412, hp412⟩
              dsimp only
              have q_413 := hI412.r 10 rfl
              have e_414 : (F412 10).toInt = (F409 10).toInt := hO412
              unfold cb_X4_forStatement_221
              have q_415 := hI390.r 6 rfl
              refine WP.bind (cs_X1_addPair hfu (84 : Int32) (F390 6) F412 G412 hI412) ?_
              rintro r416 F416 G416 ⟨hI416, hB416, hT416, hO416, hp416⟩
              dsimp only
              have q_417 := hI416.r 10 rfl
              have e_418 : (F416 10).toInt = (F412 10).toInt := hO416
              unfold cb_X4_forStatement_232
              have q_419 := i_rng (F416 31)
              refine WP.bind (cs_X1_aim hfu (F416 31) (F390 6) F416 G416 hI416) ?_
              rintro r420 F420 G420 ⟨hI420, hB420, hT420, hO420, hp420⟩
              dsimp only
              have q_421 := hI420.r 10 rfl
              have e_422 : (F420 10).toInt = (F416 10).toInt := hO420
              unfold cb_X4_forStatement_245
              have q_423 := i_rng r380
              have q_424 := hI420.r 6 rfl
              refine WP.bind (cs_X1_aim hfu r380 (F420 6) F420 G420 hI420) ?_
              rintro r425 F425 G425 ⟨hI425, hB425, hT425, hO425, hp425⟩
              dsimp only
              have q_426 := hI425.r 10 rfl
              have e_427 : (F425 10).toInt = (F420 10).toInt := hO425
              unfold cb_X4_forStatement_261
              have q_428 := i_rng (F425 30)
              have q_429 := hI425.r 6 rfl
              refine WP.bind (cs_X1_aim hfu (F425 30) (F425 6) F425 G425 hI425) ?_
              rintro r430 F430 G430 ⟨hI430, hB430, hT430, hO430, hp430⟩
              dsimp only
              have q_431 := hI430.r 10 rfl
              have e_432 : (F430 10).toInt = (F425 10).toInt := hO430
              unfold cb_X4_forStatement_279
              refine WP.bind (cs_X5_leave hfu F430 G430 hI430) ?_
              rintro r433 F433 G433 ⟨hI433, hB433, hT433, hO433, hp433⟩
              dsimp only
              have q_434 := hI433.r 10 rfl
              have e_435 : (F433 10).toInt = (F430 10).toInt := hO433
              unfold cb_X4_forStatement_286
              have q_436 := i_rng (F2 30)
              have j_437 : CI (fup F433 30 (F2 30)) G433 := CI.fr rfl hI433
              unfold cb_X4_forStatement_291
              have q_438 := i_rng (F2 31)
              have j_439 : CI (fup (fup F433 30 (F2 30)) 31 (F2 31)) G433 := CI.fr rfl j_437
              unfold cb_X4_forStatement_296
              refine WP.bind (cs_X2_closes hfu (fup (fup F433 30 (F2 30)) 31 (F2 31)) G433 j_439 (show 1 ≤ (F433 10).toInt by omega)) ?_
              rintro r440 F440 G440 ⟨hI440, hB440, hT440, hp440⟩
              dsimp only
              have q_441 := hI440.r 10 rfl
              have e_442 : (F440 10).toInt = (F433 10).toInt - 1 := hp440
              unfold cb_X4_forStatement_303
              refine WP.ret ?_
              exact ⟨hI440, (KB.tr (KB.f (by decide) (KB.f (by decide) (KB.tr (KB.tr (KB.tr (KB.tr (KB.tr (KB.tr (KB.tr (KB.tr (KB.tr (KB.tr (KB.tr (KB.tr (KB.tr (KB.tr (KB.tr (KB.tr (KB.tr (KB.rf : KB F G F G) hB2) hB13) hB17) hB262) hB375) hB380) hB386) hB390) hB401) hB404) hB409) hB412) hB416) hB420) hB425) hB430) hB433))) hB440), (KT.tr (KT.f (by decide) (KT.f (by decide) (KT.tr (KT.tr (KT.tr (KT.tr (KT.tr (KT.tr (KT.tr (KT.tr (KT.tr (KT.tr (KT.tr (KT.tr (KT.tr (KT.tr (KT.tr (KT.tr (KT.tr (rfl : KT F F) hT2) hT13) hT17) hT262) hT375) hT380) hT386) hT390) hT401) hT404) hT409) hT412) hT416) hT420) hT425) hT430) hT433))) hT440), (show (F440 10).toInt = (F 10).toInt by omega), trivial⟩
            · skip
              have q_443 := i_rng (F390 11)
              have l_444 : (20 : Int32).toInt = 20 := rfl
              have e_445 := mt i_eq.mpr (show ¬ ((F390 11) = (20 : Int32)) from c_396)
              unfold cb_X4_forStatement_177
              refine WP.bind (cs_X4_simple hfu F390 G390 hI390) ?_
              rintro r446 F446 G446 ⟨hI446, hB446, hT446, hO446, hp446⟩
              dsimp only
              have q_447 := hI446.r 10 rfl
              have e_448 : (F446 10).toInt = (F390 10).toInt := hO446
              unfold cb_X4_forStatement_181
              have q_449 := hI262.r 6 rfl
              refine WP.bind (cs_X1_addPair hfu (84 : Int32) (F262 6) F446 G446 hI446) ?_
              rintro r450 F450 G450 ⟨hI450, hB450, hT450, hO450, hp450⟩
              dsimp only
              have q_451 := hI450.r 10 rfl
              have e_452 : (F450 10).toInt = (F446 10).toInt := hO450
              unfold cb_X4_forStatement_192
              refine WP.bind (cs_X2_closesWith hfu (20 : Int32) F450 G450 hI450 (show 1 ≤ (F450 10).toInt by omega)) ?_
              rintro r453 F453 G453 ⟨hI453, hB453, hT453, hp453⟩
              dsimp only
              have q_454 := hI453.r 10 rfl
              have e_455 : (F453 10).toInt = (F450 10).toInt - 1 := hp453
              unfold cb_X4_forStatement_201
              have q_456 := i_rng r390
              have q_457 := hI453.r 6 rfl
              refine WP.bind (cs_X1_aim hfu r390 (F453 6) F453 G453 hI453) ?_
              rintro r458 F458 G458 ⟨hI458, hB458, hT458, hO458, hp458⟩
              dsimp only
              have q_459 := hI458.r 10 rfl
              have e_460 : (F458 10).toInt = (F453 10).toInt := hO458
              unfold cb_X4_forStatement_217
              refine WP.bind (ih.2.2.2.2.2.1 F458 G458 hI458 (by omega)) ?_
              rintro r461 F461 G461 ⟨hI461, hB461, hT461, hO461, hp461⟩
              dsimp only
              have q_462 := hI461.r 10 rfl
              have e_463 : (F461 10).toInt = (F458 10).toInt := hO461
              unfold cb_X4_forStatement_221
              have q_464 := hI390.r 6 rfl
              refine WP.bind (cs_X1_addPair hfu (84 : Int32) (F390 6) F461 G461 hI461) ?_
              rintro r465 F465 G465 ⟨hI465, hB465, hT465, hO465, hp465⟩
              dsimp only
              have q_466 := hI465.r 10 rfl
              have e_467 : (F465 10).toInt = (F461 10).toInt := hO465
              unfold cb_X4_forStatement_232
              have q_468 := i_rng (F465 31)
              refine WP.bind (cs_X1_aim hfu (F465 31) (F390 6) F465 G465 hI465) ?_
              rintro r469 F469 G469 ⟨hI469, hB469, hT469, hO469, hp469⟩
              dsimp only
              have q_470 := hI469.r 10 rfl
              have e_471 : (F469 10).toInt = (F465 10).toInt := hO469
              unfold cb_X4_forStatement_245
              have q_472 := i_rng r380
              have q_473 := hI469.r 6 rfl
              refine WP.bind (cs_X1_aim hfu r380 (F469 6) F469 G469 hI469) ?_
              rintro r474 F474 G474 ⟨hI474, hB474, hT474, hO474, hp474⟩
              dsimp only
              have q_475 := hI474.r 10 rfl
              have e_476 : (F474 10).toInt = (F469 10).toInt := hO474
              unfold cb_X4_forStatement_261
              have q_477 := i_rng (F474 30)
              have q_478 := hI474.r 6 rfl
              refine WP.bind (cs_X1_aim hfu (F474 30) (F474 6) F474 G474 hI474) ?_
              rintro r479 F479 G479 ⟨hI479, hB479, hT479, hO479, hp479⟩
              dsimp only
              have q_480 := hI479.r 10 rfl
              have e_481 : (F479 10).toInt = (F474 10).toInt := hO479
              unfold cb_X4_forStatement_279
              refine WP.bind (cs_X5_leave hfu F479 G479 hI479) ?_
              rintro r482 F482 G482 ⟨hI482, hB482, hT482, hO482, hp482⟩
              dsimp only
              have q_483 := hI482.r 10 rfl
              have e_484 : (F482 10).toInt = (F479 10).toInt := hO482
              unfold cb_X4_forStatement_286
              have q_485 := i_rng (F2 30)
              have j_486 : CI (fup F482 30 (F2 30)) G482 := CI.fr rfl hI482
              unfold cb_X4_forStatement_291
              have q_487 := i_rng (F2 31)
              have j_488 : CI (fup (fup F482 30 (F2 30)) 31 (F2 31)) G482 := CI.fr rfl j_486
              unfold cb_X4_forStatement_296
              refine WP.bind (cs_X2_closes hfu (fup (fup F482 30 (F2 30)) 31 (F2 31)) G482 j_488 (show 1 ≤ (F482 10).toInt by omega)) ?_
              rintro r489 F489 G489 ⟨hI489, hB489, hT489, hp489⟩
              dsimp only
              have q_490 := hI489.r 10 rfl
              have e_491 : (F489 10).toInt = (F482 10).toInt - 1 := hp489
              unfold cb_X4_forStatement_303
              refine WP.ret ?_
              exact ⟨hI489, (KB.tr (KB.f (by decide) (KB.f (by decide) (KB.tr (KB.tr (KB.tr (KB.tr (KB.tr (KB.tr (KB.tr (KB.tr (KB.tr (KB.tr (KB.tr (KB.tr (KB.tr (KB.tr (KB.tr (KB.tr (KB.tr (KB.tr (KB.rf : KB F G F G) hB2) hB13) hB17) hB262) hB375) hB380) hB386) hB390) hB446) hB450) hB453) hB458) hB461) hB465) hB469) hB474) hB479) hB482))) hB489), (KT.tr (KT.f (by decide) (KT.f (by decide) (KT.tr (KT.tr (KT.tr (KT.tr (KT.tr (KT.tr (KT.tr (KT.tr (KT.tr (KT.tr (KT.tr (KT.tr (KT.tr (KT.tr (KT.tr (KT.tr (KT.tr (KT.tr (rfl : KT F F) hT2) hT13) hT17) hT262) hT375) hT380) hT386) hT390) hT446) hT450) hT453) hT458) hT461) hT465) hT469) hT474) hT479) hT482))) hT489), (show (F489 10).toInt = (F 10).toInt by omega), trivial⟩
        · skip
          have q_492 := i_rng (F17 11)
          have l_493 : (26 : Int32).toInt = 26 := rfl
          have e_494 := mt i_eq.mpr (show ¬ ((F17 11) = (26 : Int32)) from c_258)
          unfold cb_X4_forStatement_79
          refine WP.bind (cs_X4_simple hfu F17 G17 hI17) ?_
          rintro r495 F495 G495 ⟨hI495, hB495, hT495, hO495, hp495⟩
          dsimp only
          have q_496 := hI495.r 10 rfl
          have e_497 : (F495 10).toInt = (F17 10).toInt := hO495
          unfold cb_X4_forStatement_83
          refine WP.bind (cs_X2_expect hfu (26 : Int32) F495 G495 hI495) ?_
          rintro r498 F498 G498 ⟨hI498, hB498, hT498, hO498, hp498⟩
          dsimp only
          have q_499 := hI498.r 10 rfl
          have e_500 : (F498 10).toInt = (F495 10).toInt := hO498
          unfold cb_X4_forStatement_92
          refine WP.ite (fun c_501 => ?_) (fun c_501 => ?_)
          · skip
            have q_502 := i_rng (F498 11)
            have e_503 := i_eq.mp (show (F498 11) = (26 : Int32) from c_501)
            unfold cb_X4_forStatement_135
            refine WP.bind (cs_X2_expect hfu (26 : Int32) F498 G498 hI498) ?_
            rintro r504 F504 G504 ⟨hI504, hB504, hT504, hO504, hp504⟩
            dsimp only
            have q_505 := hI504.r 10 rfl
            have e_506 : (F504 10).toInt = (F498 10).toInt := hO504
            unfold cb_X4_forStatement_144
            have l_507 : (84 : Int32).toInt = 84 := rfl
            have l_508 : (-1 : Int32).toInt = -1 := rfl
            refine WP.bind (cs_X1_addJump hfu (84 : Int32) (-1 : Int32) F504 G504 hI504) ?_
            rintro r509 F509 G509 ⟨hI509, hB509, hT509, hO509, hp509⟩
            dsimp only
            have q_510 := hI509.r 10 rfl
            have e_511 : (F509 10).toInt = (F504 10).toInt := hO509
            have q_512 := hI504.r 21 rfl
            have q_513 := hI509.r 21 rfl
            have e_514 : (F509 21).toInt = (F504 21).toInt := congrArg Int32.toInt hp509
            unfold cb_X4_forStatement_154
            refine WP.ite (fun c_515 => ?_) (fun c_515 => ?_)
            · skip
              have q_516 := i_rng (F509 11)
              have l_517 : (20 : Int32).toInt = 20 := rfl
              have e_518 := i_eq.mp (show (F509 11) = (20 : Int32) from c_515)
              unfold cb_X4_forStatement_181
              have q_519 := hI498.r 6 rfl
              refine WP.bind (cs_X1_addPair hfu (84 : Int32) (F498 6) F509 G509 hI509) ?_
              rintro r520 F520 G520 ⟨hI520, hB520, hT520, hO520, hp520⟩
              dsimp only
              have q_521 := hI520.r 10 rfl
              have e_522 : (F520 10).toInt = (F509 10).toInt := hO520
              unfold cb_X4_forStatement_192
              refine WP.bind (cs_X2_closesWith hfu (20 : Int32) F520 G520 hI520 (show 1 ≤ (F520 10).toInt by omega)) ?_
              rintro r523 F523 G523 ⟨hI523, hB523, hT523, hp523⟩
              dsimp only
              have q_524 := hI523.r 10 rfl
              have e_525 : (F523 10).toInt = (F520 10).toInt - 1 := hp523
              unfold cb_X4_forStatement_201
              have q_526 := i_rng r509
              have q_527 := hI523.r 6 rfl
              refine WP.bind (cs_X1_aim hfu r509 (F523 6) F523 G523 hI523) ?_
              rintro r528 F528 G528 ⟨hI528, hB528, hT528, hO528, hp528⟩
              dsimp only
              have q_529 := hI528.r 10 rfl
              have e_530 : (F528 10).toInt = (F523 10).toInt := hO528
              unfold cb_X4_forStatement_217
              refine WP.bind (ih.2.2.2.2.2.1 F528 G528 hI528 (by omega)) ?_
              rintro r531 F531 G531 ⟨hI531, hB531, hT531, hO531, hp531⟩
              dsimp only
              have q_532 := hI531.r 10 rfl
              have e_533 : (F531 10).toInt = (F528 10).toInt := hO531
              unfold cb_X4_forStatement_221
              have q_534 := hI509.r 6 rfl
              refine WP.bind (cs_X1_addPair hfu (84 : Int32) (F509 6) F531 G531 hI531) ?_
              rintro r535 F535 G535 ⟨hI535, hB535, hT535, hO535, hp535⟩
              dsimp only
              have q_536 := hI535.r 10 rfl
              have e_537 : (F535 10).toInt = (F531 10).toInt := hO535
              unfold cb_X4_forStatement_232
              have q_538 := i_rng (F535 31)
              refine WP.bind (cs_X1_aim hfu (F535 31) (F509 6) F535 G535 hI535) ?_
              rintro r539 F539 G539 ⟨hI539, hB539, hT539, hO539, hp539⟩
              dsimp only
              have q_540 := hI539.r 10 rfl
              have e_541 : (F539 10).toInt = (F535 10).toInt := hO539
              unfold cb_X4_forStatement_245
              have q_542 := hI539.r 6 rfl
              refine WP.bind (cs_X1_aim hfu (-1 : Int32) (F539 6) F539 G539 hI539) ?_
              rintro r543 F543 G543 ⟨hI543, hB543, hT543, hO543, hp543⟩
              dsimp only
              have q_544 := hI543.r 10 rfl
              have e_545 : (F543 10).toInt = (F539 10).toInt := hO543
              unfold cb_X4_forStatement_261
              have q_546 := i_rng (F543 30)
              have q_547 := hI543.r 6 rfl
              refine WP.bind (cs_X1_aim hfu (F543 30) (F543 6) F543 G543 hI543) ?_
              rintro r548 F548 G548 ⟨hI548, hB548, hT548, hO548, hp548⟩
              dsimp only
              have q_549 := hI548.r 10 rfl
              have e_550 : (F548 10).toInt = (F543 10).toInt := hO548
              unfold cb_X4_forStatement_279
              refine WP.bind (cs_X5_leave hfu F548 G548 hI548) ?_
              rintro r551 F551 G551 ⟨hI551, hB551, hT551, hO551, hp551⟩
              dsimp only
              have q_552 := hI551.r 10 rfl
              have e_553 : (F551 10).toInt = (F548 10).toInt := hO551
              unfold cb_X4_forStatement_286
              have q_554 := i_rng (F2 30)
              have j_555 : CI (fup F551 30 (F2 30)) G551 := CI.fr rfl hI551
              unfold cb_X4_forStatement_291
              have q_556 := i_rng (F2 31)
              have j_557 : CI (fup (fup F551 30 (F2 30)) 31 (F2 31)) G551 := CI.fr rfl j_555
              unfold cb_X4_forStatement_296
              refine WP.bind (cs_X2_closes hfu (fup (fup F551 30 (F2 30)) 31 (F2 31)) G551 j_557 (show 1 ≤ (F551 10).toInt by omega)) ?_
              rintro r558 F558 G558 ⟨hI558, hB558, hT558, hp558⟩
              dsimp only
              have q_559 := hI558.r 10 rfl
              have e_560 : (F558 10).toInt = (F551 10).toInt - 1 := hp558
              unfold cb_X4_forStatement_303
              refine WP.ret ?_
              exact ⟨hI558, (KB.tr (KB.f (by decide) (KB.f (by decide) (KB.tr (KB.tr (KB.tr (KB.tr (KB.tr (KB.tr (KB.tr (KB.tr (KB.tr (KB.tr (KB.tr (KB.tr (KB.tr (KB.tr (KB.tr (KB.tr (KB.rf : KB F G F G) hB2) hB13) hB17) hB495) hB498) hB504) hB509) hB520) hB523) hB528) hB531) hB535) hB539) hB543) hB548) hB551))) hB558), (KT.tr (KT.f (by decide) (KT.f (by decide) (KT.tr (KT.tr (KT.tr (KT.tr (KT.tr (KT.tr (KT.tr (KT.tr (KT.tr (KT.tr (KT.tr (KT.tr (KT.tr (KT.tr (KT.tr (KT.tr (rfl : KT F F) hT2) hT13) hT17) hT495) hT498) hT504) hT509) hT520) hT523) hT528) hT531) hT535) hT539) hT543) hT548) hT551))) hT558), (show (F558 10).toInt = (F 10).toInt by omega), trivial⟩
            · skip
              have q_561 := i_rng (F509 11)
              have l_562 : (20 : Int32).toInt = 20 := rfl
              have e_563 := mt i_eq.mpr (show ¬ ((F509 11) = (20 : Int32)) from c_515)
              unfold cb_X4_forStatement_177
              refine WP.bind (cs_X4_simple hfu F509 G509 hI509) ?_
              rintro r564 F564 G564 ⟨hI564, hB564, hT564, hO564, hp564⟩
              dsimp only
              have q_565 := hI564.r 10 rfl
              have e_566 : (F564 10).toInt = (F509 10).toInt := hO564
              unfold cb_X4_forStatement_181
              have q_567 := hI498.r 6 rfl
              refine WP.bind (cs_X1_addPair hfu (84 : Int32) (F498 6) F564 G564 hI564) ?_
              rintro r568 F568 G568 ⟨hI568, hB568, hT568, hO568, hp568⟩
              dsimp only
              have q_569 := hI568.r 10 rfl
              have e_570 : (F568 10).toInt = (F564 10).toInt := hO568
              unfold cb_X4_forStatement_192
              refine WP.bind (cs_X2_closesWith hfu (20 : Int32) F568 G568 hI568 (show 1 ≤ (F568 10).toInt by omega)) ?_
              rintro r571 F571 G571 ⟨hI571, hB571, hT571, hp571⟩
              dsimp only
              have q_572 := hI571.r 10 rfl
              have e_573 : (F571 10).toInt = (F568 10).toInt - 1 := hp571
              unfold cb_X4_forStatement_201
              have q_574 := i_rng r509
              have q_575 := hI571.r 6 rfl
              refine WP.bind (cs_X1_aim hfu r509 (F571 6) F571 G571 hI571) ?_
              rintro r576 F576 G576 ⟨hI576, hB576, hT576, hO576, hp576⟩
              dsimp only
              have q_577 := hI576.r 10 rfl
              have e_578 : (F576 10).toInt = (F571 10).toInt := hO576
              unfold cb_X4_forStatement_217
              refine WP.bind (ih.2.2.2.2.2.1 F576 G576 hI576 (by omega)) ?_
              rintro r579 F579 G579 ⟨hI579, hB579, hT579, hO579, hp579⟩
              dsimp only
              have q_580 := hI579.r 10 rfl
              have e_581 : (F579 10).toInt = (F576 10).toInt := hO579
              unfold cb_X4_forStatement_221
              have q_582 := hI509.r 6 rfl
              refine WP.bind (cs_X1_addPair hfu (84 : Int32) (F509 6) F579 G579 hI579) ?_
              rintro r583 F583 G583 ⟨hI583, hB583, hT583, hO583, hp583⟩
              dsimp only
              have q_584 := hI583.r 10 rfl
              have e_585 : (F583 10).toInt = (F579 10).toInt := hO583
              unfold cb_X4_forStatement_232
              have q_586 := i_rng (F583 31)
              refine WP.bind (cs_X1_aim hfu (F583 31) (F509 6) F583 G583 hI583) ?_
              rintro r587 F587 G587 ⟨hI587, hB587, hT587, hO587, hp587⟩
              dsimp only
              have q_588 := hI587.r 10 rfl
              have e_589 : (F587 10).toInt = (F583 10).toInt := hO587
              unfold cb_X4_forStatement_245
              have q_590 := hI587.r 6 rfl
              refine WP.bind (cs_X1_aim hfu (-1 : Int32) (F587 6) F587 G587 hI587) ?_
              rintro r591 F591 G591 ⟨hI591, hB591, hT591, hO591, hp591⟩
              dsimp only
              have q_592 := hI591.r 10 rfl
              have e_593 : (F591 10).toInt = (F587 10).toInt := hO591
              unfold cb_X4_forStatement_261
              have q_594 := i_rng (F591 30)
              have q_595 := hI591.r 6 rfl
              refine WP.bind (cs_X1_aim hfu (F591 30) (F591 6) F591 G591 hI591) ?_
              rintro r596 F596 G596 ⟨hI596, hB596, hT596, hO596, hp596⟩
              dsimp only
              have q_597 := hI596.r 10 rfl
              have e_598 : (F596 10).toInt = (F591 10).toInt := hO596
              unfold cb_X4_forStatement_279
              refine WP.bind (cs_X5_leave hfu F596 G596 hI596) ?_
              rintro r599 F599 G599 ⟨hI599, hB599, hT599, hO599, hp599⟩
              dsimp only
              have q_600 := hI599.r 10 rfl
              have e_601 : (F599 10).toInt = (F596 10).toInt := hO599
              unfold cb_X4_forStatement_286
              have q_602 := i_rng (F2 30)
              have j_603 : CI (fup F599 30 (F2 30)) G599 := CI.fr rfl hI599
              unfold cb_X4_forStatement_291
              have q_604 := i_rng (F2 31)
              have j_605 : CI (fup (fup F599 30 (F2 30)) 31 (F2 31)) G599 := CI.fr rfl j_603
              unfold cb_X4_forStatement_296
              refine WP.bind (cs_X2_closes hfu (fup (fup F599 30 (F2 30)) 31 (F2 31)) G599 j_605 (show 1 ≤ (F599 10).toInt by omega)) ?_
              rintro r606 F606 G606 ⟨hI606, hB606, hT606, hp606⟩
              dsimp only
              have q_607 := hI606.r 10 rfl
              have e_608 : (F606 10).toInt = (F599 10).toInt - 1 := hp606
              unfold cb_X4_forStatement_303
              refine WP.ret ?_
              exact ⟨hI606, (KB.tr (KB.f (by decide) (KB.f (by decide) (KB.tr (KB.tr (KB.tr (KB.tr (KB.tr (KB.tr (KB.tr (KB.tr (KB.tr (KB.tr (KB.tr (KB.tr (KB.tr (KB.tr (KB.tr (KB.tr (KB.tr (KB.rf : KB F G F G) hB2) hB13) hB17) hB495) hB498) hB504) hB509) hB564) hB568) hB571) hB576) hB579) hB583) hB587) hB591) hB596) hB599))) hB606), (KT.tr (KT.f (by decide) (KT.f (by decide) (KT.tr (KT.tr (KT.tr (KT.tr (KT.tr (KT.tr (KT.tr (KT.tr (KT.tr (KT.tr (KT.tr (KT.tr (KT.tr (KT.tr (KT.tr (KT.tr (KT.tr (rfl : KT F F) hT2) hT13) hT17) hT495) hT498) hT504) hT509) hT564) hT568) hT571) hT576) hT579) hT583) hT587) hT591) hT596) hT599))) hT606), (show (F606 10).toInt = (F 10).toInt by omega), trivial⟩
          · skip
            have q_609 := i_rng (F498 11)
            have e_610 := mt i_eq.mpr (show ¬ ((F498 11) = (26 : Int32)) from c_501)
            unfold cb_X4_forStatement_116
            refine WP.bind (cs_X3_expression hfu F498 G498 hI498) ?_
            rintro r611 F611 G611 ⟨hI611, hB611, hT611, hO611, hp611⟩
            dsimp only
            have q_612 := hI611.r 10 rfl
            have e_613 : (F611 10).toInt = (F498 10).toInt := hO611
            unfold cb_X4_forStatement_123
            have l_614 : (86 : Int32).toInt = 86 := rfl
            have l_615 : (-1 : Int32).toInt = -1 := rfl
            refine WP.bind (cs_X1_addJump hfu (86 : Int32) (-1 : Int32) F611 G611 hI611) ?_
            rintro r616 F616 G616 ⟨hI616, hB616, hT616, hO616, hp616⟩
            dsimp only
            have q_617 := hI616.r 10 rfl
            have e_618 : (F616 10).toInt = (F611 10).toInt := hO616
            have q_619 := hI611.r 21 rfl
            have q_620 := hI616.r 21 rfl
            have e_621 : (F616 21).toInt = (F611 21).toInt := congrArg Int32.toInt hp616
            unfold cb_X4_forStatement_133
            unfold cb_X4_forStatement_135
            refine WP.bind (cs_X2_expect hfu (26 : Int32) F616 G616 hI616) ?_
            rintro r622 F622 G622 ⟨hI622, hB622, hT622, hO622, hp622⟩
            dsimp only
            have q_623 := hI622.r 10 rfl
            have e_624 : (F622 10).toInt = (F616 10).toInt := hO622
            unfold cb_X4_forStatement_144
            have l_625 : (84 : Int32).toInt = 84 := rfl
            refine WP.bind (cs_X1_addJump hfu (84 : Int32) (-1 : Int32) F622 G622 hI622) ?_
            rintro r626 F626 G626 ⟨hI626, hB626, hT626, hO626, hp626⟩
            dsimp only
            have q_627 := hI626.r 10 rfl
            have e_628 : (F626 10).toInt = (F622 10).toInt := hO626
            have q_629 := hI622.r 21 rfl
            have q_630 := hI626.r 21 rfl
            have e_631 : (F626 21).toInt = (F622 21).toInt := congrArg Int32.toInt hp626
            unfold cb_X4_forStatement_154
            refine WP.ite (fun c_632 => ?_) (fun c_632 => ?_)
            · skip
              have q_633 := i_rng (F626 11)
              have l_634 : (20 : Int32).toInt = 20 := rfl
              have e_635 := i_eq.mp (show (F626 11) = (20 : Int32) from c_632)
              unfold cb_X4_forStatement_181
              have q_636 := hI498.r 6 rfl
              refine WP.bind (cs_X1_addPair hfu (84 : Int32) (F498 6) F626 G626 hI626) ?_
              rintro r637 F637 G637 ⟨hI637, hB637, hT637, hO637, hp637⟩
              dsimp only
              have q_638 := hI637.r 10 rfl
              have e_639 : (F637 10).toInt = (F626 10).toInt := hO637
              unfold cb_X4_forStatement_192
              refine WP.bind (cs_X2_closesWith hfu (20 : Int32) F637 G637 hI637 (show 1 ≤ (F637 10).toInt by omega)) ?_
              rintro r640 F640 G640 ⟨hI640, hB640, hT640, hp640⟩
              dsimp only
              have q_641 := hI640.r 10 rfl
              have e_642 : (F640 10).toInt = (F637 10).toInt - 1 := hp640
              unfold cb_X4_forStatement_201
              have q_643 := i_rng r626
              have q_644 := hI640.r 6 rfl
              refine WP.bind (cs_X1_aim hfu r626 (F640 6) F640 G640 hI640) ?_
              rintro r645 F645 G645 ⟨hI645, hB645, hT645, hO645, hp645⟩
              dsimp only
              have q_646 := hI645.r 10 rfl
              have e_647 : (F645 10).toInt = (F640 10).toInt := hO645
              unfold cb_X4_forStatement_217
              refine WP.bind (ih.2.2.2.2.2.1 F645 G645 hI645 (by omega)) ?_
              rintro r648 F648 G648 ⟨hI648, hB648, hT648, hO648, hp648⟩
              dsimp only
              have q_649 := hI648.r 10 rfl
              have e_650 : (F648 10).toInt = (F645 10).toInt := hO648
              unfold cb_X4_forStatement_221
              have q_651 := hI626.r 6 rfl
              refine WP.bind (cs_X1_addPair hfu (84 : Int32) (F626 6) F648 G648 hI648) ?_
              rintro r652 F652 G652 ⟨hI652, hB652, hT652, hO652, hp652⟩
              dsimp only
              have q_653 := hI652.r 10 rfl
              have e_654 : (F652 10).toInt = (F648 10).toInt := hO652
              unfold cb_X4_forStatement_232
              have q_655 := i_rng (F652 31)
              refine WP.bind (cs_X1_aim hfu (F652 31) (F626 6) F652 G652 hI652) ?_
              rintro r656 F656 G656 ⟨hI656, hB656, hT656, hO656, hp656⟩
              dsimp only
              have q_657 := hI656.r 10 rfl
              have e_658 : (F656 10).toInt = (F652 10).toInt := hO656
              unfold cb_X4_forStatement_245
              have q_659 := i_rng r616
              have q_660 := hI656.r 6 rfl
              refine WP.bind (cs_X1_aim hfu r616 (F656 6) F656 G656 hI656) ?_
              rintro r661 F661 G661 ⟨hI661, hB661, hT661, hO661, hp661⟩
              dsimp only
              have q_662 := hI661.r 10 rfl
              have e_663 : (F661 10).toInt = (F656 10).toInt := hO661
              unfold cb_X4_forStatement_261
              have q_664 := i_rng (F661 30)
              have q_665 := hI661.r 6 rfl
              refine WP.bind (cs_X1_aim hfu (F661 30) (F661 6) F661 G661 hI661) ?_
              rintro r666 F666 G666 ⟨hI666, hB666, hT666, hO666, hp666⟩
              dsimp only
              have q_667 := hI666.r 10 rfl
              have e_668 : (F666 10).toInt = (F661 10).toInt := hO666
              unfold cb_X4_forStatement_279
              refine WP.bind (cs_X5_leave hfu F666 G666 hI666) ?_
              rintro r669 F669 G669 ⟨hI669, hB669, hT669, hO669, hp669⟩
              dsimp only
              have q_670 := hI669.r 10 rfl
              have e_671 : (F669 10).toInt = (F666 10).toInt := hO669
              unfold cb_X4_forStatement_286
              have q_672 := i_rng (F2 30)
              have j_673 : CI (fup F669 30 (F2 30)) G669 := CI.fr rfl hI669
              unfold cb_X4_forStatement_291
              have q_674 := i_rng (F2 31)
              have j_675 : CI (fup (fup F669 30 (F2 30)) 31 (F2 31)) G669 := CI.fr rfl j_673
              unfold cb_X4_forStatement_296
              refine WP.bind (cs_X2_closes hfu (fup (fup F669 30 (F2 30)) 31 (F2 31)) G669 j_675 (show 1 ≤ (F669 10).toInt by omega)) ?_
              rintro r676 F676 G676 ⟨hI676, hB676, hT676, hp676⟩
              dsimp only
              have q_677 := hI676.r 10 rfl
              have e_678 : (F676 10).toInt = (F669 10).toInt - 1 := hp676
              unfold cb_X4_forStatement_303
              refine WP.ret ?_
              exact ⟨hI676, (KB.tr (KB.f (by decide) (KB.f (by decide) (KB.tr (KB.tr (KB.tr (KB.tr (KB.tr (KB.tr (KB.tr (KB.tr (KB.tr (KB.tr (KB.tr (KB.tr (KB.tr (KB.tr (KB.tr (KB.tr (KB.tr (KB.tr (KB.rf : KB F G F G) hB2) hB13) hB17) hB495) hB498) hB611) hB616) hB622) hB626) hB637) hB640) hB645) hB648) hB652) hB656) hB661) hB666) hB669))) hB676), (KT.tr (KT.f (by decide) (KT.f (by decide) (KT.tr (KT.tr (KT.tr (KT.tr (KT.tr (KT.tr (KT.tr (KT.tr (KT.tr (KT.tr (KT.tr (KT.tr (KT.tr (KT.tr (KT.tr (KT.tr (KT.tr (KT.tr (rfl : KT F F) hT2) hT13) hT17) hT495) hT498) hT611) hT616) hT622) hT626) hT637) hT640) hT645) hT648) hT652) hT656) hT661) hT666) hT669))) hT676), (show (F676 10).toInt = (F 10).toInt by omega), trivial⟩
            · skip
              have q_679 := i_rng (F626 11)
              have l_680 : (20 : Int32).toInt = 20 := rfl
              have e_681 := mt i_eq.mpr (show ¬ ((F626 11) = (20 : Int32)) from c_632)
              unfold cb_X4_forStatement_177
              refine WP.bind (cs_X4_simple hfu F626 G626 hI626) ?_
              rintro r682 F682 G682 ⟨hI682, hB682, hT682, hO682, hp682⟩
              dsimp only
              have q_683 := hI682.r 10 rfl
              have e_684 : (F682 10).toInt = (F626 10).toInt := hO682
              unfold cb_X4_forStatement_181
              have q_685 := hI498.r 6 rfl
              refine WP.bind (cs_X1_addPair hfu (84 : Int32) (F498 6) F682 G682 hI682) ?_
              rintro r686 F686 G686 ⟨hI686, hB686, hT686, hO686, hp686⟩
              dsimp only
              have q_687 := hI686.r 10 rfl
              have e_688 : (F686 10).toInt = (F682 10).toInt := hO686
              unfold cb_X4_forStatement_192
              refine WP.bind (cs_X2_closesWith hfu (20 : Int32) F686 G686 hI686 (show 1 ≤ (F686 10).toInt by omega)) ?_
              rintro r689 F689 G689 ⟨hI689, hB689, hT689, hp689⟩
              dsimp only
              have q_690 := hI689.r 10 rfl
              have e_691 : (F689 10).toInt = (F686 10).toInt - 1 := hp689
              unfold cb_X4_forStatement_201
              have q_692 := i_rng r626
              have q_693 := hI689.r 6 rfl
              refine WP.bind (cs_X1_aim hfu r626 (F689 6) F689 G689 hI689) ?_
              rintro r694 F694 G694 ⟨hI694, hB694, hT694, hO694, hp694⟩
              dsimp only
              have q_695 := hI694.r 10 rfl
              have e_696 : (F694 10).toInt = (F689 10).toInt := hO694
              unfold cb_X4_forStatement_217
              refine WP.bind (ih.2.2.2.2.2.1 F694 G694 hI694 (by omega)) ?_
              rintro r697 F697 G697 ⟨hI697, hB697, hT697, hO697, hp697⟩
              dsimp only
              have q_698 := hI697.r 10 rfl
              have e_699 : (F697 10).toInt = (F694 10).toInt := hO697
              unfold cb_X4_forStatement_221
              have q_700 := hI626.r 6 rfl
              refine WP.bind (cs_X1_addPair hfu (84 : Int32) (F626 6) F697 G697 hI697) ?_
              rintro r701 F701 G701 ⟨hI701, hB701, hT701, hO701, hp701⟩
              dsimp only
              have q_702 := hI701.r 10 rfl
              have e_703 : (F701 10).toInt = (F697 10).toInt := hO701
              unfold cb_X4_forStatement_232
              have q_704 := i_rng (F701 31)
              refine WP.bind (cs_X1_aim hfu (F701 31) (F626 6) F701 G701 hI701) ?_
              rintro r705 F705 G705 ⟨hI705, hB705, hT705, hO705, hp705⟩
              dsimp only
              have q_706 := hI705.r 10 rfl
              have e_707 : (F705 10).toInt = (F701 10).toInt := hO705
              unfold cb_X4_forStatement_245
              have q_708 := i_rng r616
              have q_709 := hI705.r 6 rfl
              refine WP.bind (cs_X1_aim hfu r616 (F705 6) F705 G705 hI705) ?_
              rintro r710 F710 G710 ⟨hI710, hB710, hT710, hO710, hp710⟩
              dsimp only
              have q_711 := hI710.r 10 rfl
              have e_712 : (F710 10).toInt = (F705 10).toInt := hO710
              unfold cb_X4_forStatement_261
              have q_713 := i_rng (F710 30)
              have q_714 := hI710.r 6 rfl
              refine WP.bind (cs_X1_aim hfu (F710 30) (F710 6) F710 G710 hI710) ?_
              rintro r715 F715 G715 ⟨hI715, hB715, hT715, hO715, hp715⟩
              dsimp only
              have q_716 := hI715.r 10 rfl
              have e_717 : (F715 10).toInt = (F710 10).toInt := hO715
              unfold cb_X4_forStatement_279
              refine WP.bind (cs_X5_leave hfu F715 G715 hI715) ?_
              rintro r718 F718 G718 ⟨hI718, hB718, hT718, hO718, hp718⟩
              dsimp only
              have q_719 := hI718.r 10 rfl
              have e_720 : (F718 10).toInt = (F715 10).toInt := hO718
              unfold cb_X4_forStatement_286
              have q_721 := i_rng (F2 30)
              have j_722 : CI (fup F718 30 (F2 30)) G718 := CI.fr rfl hI718
              unfold cb_X4_forStatement_291
              have q_723 := i_rng (F2 31)
              have j_724 : CI (fup (fup F718 30 (F2 30)) 31 (F2 31)) G718 := CI.fr rfl j_722
              unfold cb_X4_forStatement_296
              refine WP.bind (cs_X2_closes hfu (fup (fup F718 30 (F2 30)) 31 (F2 31)) G718 j_724 (show 1 ≤ (F718 10).toInt by omega)) ?_
              rintro r725 F725 G725 ⟨hI725, hB725, hT725, hp725⟩
              dsimp only
              have q_726 := hI725.r 10 rfl
              have e_727 : (F725 10).toInt = (F718 10).toInt - 1 := hp725
              unfold cb_X4_forStatement_303
              refine WP.ret ?_
              exact ⟨hI725, (KB.tr (KB.f (by decide) (KB.f (by decide) (KB.tr (KB.tr (KB.tr (KB.tr (KB.tr (KB.tr (KB.tr (KB.tr (KB.tr (KB.tr (KB.tr (KB.tr (KB.tr (KB.tr (KB.tr (KB.tr (KB.tr (KB.tr (KB.tr (KB.rf : KB F G F G) hB2) hB13) hB17) hB495) hB498) hB611) hB616) hB622) hB626) hB682) hB686) hB689) hB694) hB697) hB701) hB705) hB710) hB715) hB718))) hB725), (KT.tr (KT.f (by decide) (KT.f (by decide) (KT.tr (KT.tr (KT.tr (KT.tr (KT.tr (KT.tr (KT.tr (KT.tr (KT.tr (KT.tr (KT.tr (KT.tr (KT.tr (KT.tr (KT.tr (KT.tr (KT.tr (KT.tr (KT.tr (rfl : KT F F) hT2) hT13) hT17) hT495) hT498) hT611) hT616) hT622) hT626) hT682) hT686) hT689) hT694) hT697) hT701) hT705) hT710) hT715) hT718))) hT725), (show (F725 10).toInt = (F 10).toInt by omega), trivial⟩
    · skip
      have e_728 := mt i_eq.mpr (show ¬ (r17 = (0 : Int32)) from c_22)
      unfold cb_X4_forStatement_44
      refine WP.ite (fun c_729 => ?_) (fun c_729 => ?_)
      · skip
        have q_730 := i_rng (F17 11)
        have l_731 : (4 : Int32).toInt = 4 := rfl
        have e_732 := i_eq.mp (show (F17 11) = (4 : Int32) from c_729)
        unfold cb_X4_forStatement_55
        have l_733 : (1 : Int32).toInt = 1 := rfl
        refine WP.bind (cs_X4_localTold hfu (1 : Int32) F17 G17 hI17 (by decide)) ?_
        rintro r734 F734 G734 ⟨hI734, hB734, hT734, hO734, hp734⟩
        dsimp only
        have q_735 := hI734.r 10 rfl
        have e_736 : (F734 10).toInt = (F17 10).toInt := hO734
        unfold cb_X4_forStatement_60
        unfold cb_X4_forStatement_83
        have l_737 : (26 : Int32).toInt = 26 := rfl
        refine WP.bind (cs_X2_expect hfu (26 : Int32) F734 G734 hI734) ?_
        rintro r738 F738 G738 ⟨hI738, hB738, hT738, hO738, hp738⟩
        dsimp only
        have q_739 := hI738.r 10 rfl
        have e_740 : (F738 10).toInt = (F734 10).toInt := hO738
        unfold cb_X4_forStatement_92
        refine WP.ite (fun c_741 => ?_) (fun c_741 => ?_)
        · skip
          have q_742 := i_rng (F738 11)
          have e_743 := i_eq.mp (show (F738 11) = (26 : Int32) from c_741)
          unfold cb_X4_forStatement_135
          refine WP.bind (cs_X2_expect hfu (26 : Int32) F738 G738 hI738) ?_
          rintro r744 F744 G744 ⟨hI744, hB744, hT744, hO744, hp744⟩
          dsimp only
          have q_745 := hI744.r 10 rfl
          have e_746 : (F744 10).toInt = (F738 10).toInt := hO744
          unfold cb_X4_forStatement_144
          have l_747 : (84 : Int32).toInt = 84 := rfl
          have l_748 : (-1 : Int32).toInt = -1 := rfl
          refine WP.bind (cs_X1_addJump hfu (84 : Int32) (-1 : Int32) F744 G744 hI744) ?_
          rintro r749 F749 G749 ⟨hI749, hB749, hT749, hO749, hp749⟩
          dsimp only
          have q_750 := hI749.r 10 rfl
          have e_751 : (F749 10).toInt = (F744 10).toInt := hO749
          have q_752 := hI744.r 21 rfl
          have q_753 := hI749.r 21 rfl
          have e_754 : (F749 21).toInt = (F744 21).toInt := congrArg Int32.toInt hp749
          unfold cb_X4_forStatement_154
          refine WP.ite (fun c_755 => ?_) (fun c_755 => ?_)
          · skip
            have q_756 := i_rng (F749 11)
            have l_757 : (20 : Int32).toInt = 20 := rfl
            have e_758 := i_eq.mp (show (F749 11) = (20 : Int32) from c_755)
            unfold cb_X4_forStatement_181
            have q_759 := hI738.r 6 rfl
            refine WP.bind (cs_X1_addPair hfu (84 : Int32) (F738 6) F749 G749 hI749) ?_
            rintro r760 F760 G760 ⟨hI760, hB760, hT760, hO760, hp760⟩
            dsimp only
            have q_761 := hI760.r 10 rfl
            have e_762 : (F760 10).toInt = (F749 10).toInt := hO760
            unfold cb_X4_forStatement_192
            refine WP.bind (cs_X2_closesWith hfu (20 : Int32) F760 G760 hI760 (show 1 ≤ (F760 10).toInt by omega)) ?_
            rintro r763 F763 G763 ⟨hI763, hB763, hT763, hp763⟩
            dsimp only
            have q_764 := hI763.r 10 rfl
            have e_765 : (F763 10).toInt = (F760 10).toInt - 1 := hp763
            unfold cb_X4_forStatement_201
            have q_766 := i_rng r749
            have q_767 := hI763.r 6 rfl
            refine WP.bind (cs_X1_aim hfu r749 (F763 6) F763 G763 hI763) ?_
            rintro r768 F768 G768 ⟨hI768, hB768, hT768, hO768, hp768⟩
            dsimp only
            have q_769 := hI768.r 10 rfl
            have e_770 : (F768 10).toInt = (F763 10).toInt := hO768
            unfold cb_X4_forStatement_217
            refine WP.bind (ih.2.2.2.2.2.1 F768 G768 hI768 (by omega)) ?_
            rintro r771 F771 G771 ⟨hI771, hB771, hT771, hO771, hp771⟩
            dsimp only
            have q_772 := hI771.r 10 rfl
            have e_773 : (F771 10).toInt = (F768 10).toInt := hO771
            unfold cb_X4_forStatement_221
            have q_774 := hI749.r 6 rfl
            refine WP.bind (cs_X1_addPair hfu (84 : Int32) (F749 6) F771 G771 hI771) ?_
            rintro r775 F775 G775 ⟨hI775, hB775, hT775, hO775, hp775⟩
            dsimp only
            have q_776 := hI775.r 10 rfl
            have e_777 : (F775 10).toInt = (F771 10).toInt := hO775
            unfold cb_X4_forStatement_232
            have q_778 := i_rng (F775 31)
            refine WP.bind (cs_X1_aim hfu (F775 31) (F749 6) F775 G775 hI775) ?_
            rintro r779 F779 G779 ⟨hI779, hB779, hT779, hO779, hp779⟩
            dsimp only
            have q_780 := hI779.r 10 rfl
            have e_781 : (F779 10).toInt = (F775 10).toInt := hO779
            unfold cb_X4_forStatement_245
            have q_782 := hI779.r 6 rfl
            refine WP.bind (cs_X1_aim hfu (-1 : Int32) (F779 6) F779 G779 hI779) ?_
            rintro r783 F783 G783 ⟨hI783, hB783, hT783, hO783, hp783⟩
            dsimp only
            have q_784 := hI783.r 10 rfl
            have e_785 : (F783 10).toInt = (F779 10).toInt := hO783
            unfold cb_X4_forStatement_261
            have q_786 := i_rng (F783 30)
            have q_787 := hI783.r 6 rfl
            refine WP.bind (cs_X1_aim hfu (F783 30) (F783 6) F783 G783 hI783) ?_
            rintro r788 F788 G788 ⟨hI788, hB788, hT788, hO788, hp788⟩
            dsimp only
            have q_789 := hI788.r 10 rfl
            have e_790 : (F788 10).toInt = (F783 10).toInt := hO788
            unfold cb_X4_forStatement_279
            refine WP.bind (cs_X5_leave hfu F788 G788 hI788) ?_
            rintro r791 F791 G791 ⟨hI791, hB791, hT791, hO791, hp791⟩
            dsimp only
            have q_792 := hI791.r 10 rfl
            have e_793 : (F791 10).toInt = (F788 10).toInt := hO791
            unfold cb_X4_forStatement_286
            have q_794 := i_rng (F2 30)
            have j_795 : CI (fup F791 30 (F2 30)) G791 := CI.fr rfl hI791
            unfold cb_X4_forStatement_291
            have q_796 := i_rng (F2 31)
            have j_797 : CI (fup (fup F791 30 (F2 30)) 31 (F2 31)) G791 := CI.fr rfl j_795
            unfold cb_X4_forStatement_296
            refine WP.bind (cs_X2_closes hfu (fup (fup F791 30 (F2 30)) 31 (F2 31)) G791 j_797 (show 1 ≤ (F791 10).toInt by omega)) ?_
            rintro r798 F798 G798 ⟨hI798, hB798, hT798, hp798⟩
            dsimp only
            have q_799 := hI798.r 10 rfl
            have e_800 : (F798 10).toInt = (F791 10).toInt - 1 := hp798
            unfold cb_X4_forStatement_303
            refine WP.ret ?_
            exact ⟨hI798, (KB.tr (KB.f (by decide) (KB.f (by decide) (KB.tr (KB.tr (KB.tr (KB.tr (KB.tr (KB.tr (KB.tr (KB.tr (KB.tr (KB.tr (KB.tr (KB.tr (KB.tr (KB.tr (KB.tr (KB.tr (KB.rf : KB F G F G) hB2) hB13) hB17) hB734) hB738) hB744) hB749) hB760) hB763) hB768) hB771) hB775) hB779) hB783) hB788) hB791))) hB798), (KT.tr (KT.f (by decide) (KT.f (by decide) (KT.tr (KT.tr (KT.tr (KT.tr (KT.tr (KT.tr (KT.tr (KT.tr (KT.tr (KT.tr (KT.tr (KT.tr (KT.tr (KT.tr (KT.tr (KT.tr (rfl : KT F F) hT2) hT13) hT17) hT734) hT738) hT744) hT749) hT760) hT763) hT768) hT771) hT775) hT779) hT783) hT788) hT791))) hT798), (show (F798 10).toInt = (F 10).toInt by omega), trivial⟩
          · skip
            have q_801 := i_rng (F749 11)
            have l_802 : (20 : Int32).toInt = 20 := rfl
            have e_803 := mt i_eq.mpr (show ¬ ((F749 11) = (20 : Int32)) from c_755)
            unfold cb_X4_forStatement_177
            refine WP.bind (cs_X4_simple hfu F749 G749 hI749) ?_
            rintro r804 F804 G804 ⟨hI804, hB804, hT804, hO804, hp804⟩
            dsimp only
            have q_805 := hI804.r 10 rfl
            have e_806 : (F804 10).toInt = (F749 10).toInt := hO804
            unfold cb_X4_forStatement_181
            have q_807 := hI738.r 6 rfl
            refine WP.bind (cs_X1_addPair hfu (84 : Int32) (F738 6) F804 G804 hI804) ?_
            rintro r808 F808 G808 ⟨hI808, hB808, hT808, hO808, hp808⟩
            dsimp only
            have q_809 := hI808.r 10 rfl
            have e_810 : (F808 10).toInt = (F804 10).toInt := hO808
            unfold cb_X4_forStatement_192
            refine WP.bind (cs_X2_closesWith hfu (20 : Int32) F808 G808 hI808 (show 1 ≤ (F808 10).toInt by omega)) ?_
            rintro r811 F811 G811 ⟨hI811, hB811, hT811, hp811⟩
            dsimp only
            have q_812 := hI811.r 10 rfl
            have e_813 : (F811 10).toInt = (F808 10).toInt - 1 := hp811
            unfold cb_X4_forStatement_201
            have q_814 := i_rng r749
            have q_815 := hI811.r 6 rfl
            refine WP.bind (cs_X1_aim hfu r749 (F811 6) F811 G811 hI811) ?_
            rintro r816 F816 G816 ⟨hI816, hB816, hT816, hO816, hp816⟩
            dsimp only
            have q_817 := hI816.r 10 rfl
            have e_818 : (F816 10).toInt = (F811 10).toInt := hO816
            unfold cb_X4_forStatement_217
            refine WP.bind (ih.2.2.2.2.2.1 F816 G816 hI816 (by omega)) ?_
            rintro r819 F819 G819 ⟨hI819, hB819, hT819, hO819, hp819⟩
            dsimp only
            have q_820 := hI819.r 10 rfl
            have e_821 : (F819 10).toInt = (F816 10).toInt := hO819
            unfold cb_X4_forStatement_221
            have q_822 := hI749.r 6 rfl
            refine WP.bind (cs_X1_addPair hfu (84 : Int32) (F749 6) F819 G819 hI819) ?_
            rintro r823 F823 G823 ⟨hI823, hB823, hT823, hO823, hp823⟩
            dsimp only
            have q_824 := hI823.r 10 rfl
            have e_825 : (F823 10).toInt = (F819 10).toInt := hO823
            unfold cb_X4_forStatement_232
            have q_826 := i_rng (F823 31)
            refine WP.bind (cs_X1_aim hfu (F823 31) (F749 6) F823 G823 hI823) ?_
            rintro r827 F827 G827 ⟨hI827, hB827, hT827, hO827, hp827⟩
            dsimp only
            have q_828 := hI827.r 10 rfl
            have e_829 : (F827 10).toInt = (F823 10).toInt := hO827
            unfold cb_X4_forStatement_245
            have q_830 := hI827.r 6 rfl
            refine WP.bind (cs_X1_aim hfu (-1 : Int32) (F827 6) F827 G827 hI827) ?_
            rintro r831 F831 G831 ⟨hI831, hB831, hT831, hO831, hp831⟩
            dsimp only
            have q_832 := hI831.r 10 rfl
            have e_833 : (F831 10).toInt = (F827 10).toInt := hO831
            unfold cb_X4_forStatement_261
            have q_834 := i_rng (F831 30)
            have q_835 := hI831.r 6 rfl
            refine WP.bind (cs_X1_aim hfu (F831 30) (F831 6) F831 G831 hI831) ?_
            rintro r836 F836 G836 ⟨hI836, hB836, hT836, hO836, hp836⟩
            dsimp only
            have q_837 := hI836.r 10 rfl
            have e_838 : (F836 10).toInt = (F831 10).toInt := hO836
            unfold cb_X4_forStatement_279
            refine WP.bind (cs_X5_leave hfu F836 G836 hI836) ?_
            rintro r839 F839 G839 ⟨hI839, hB839, hT839, hO839, hp839⟩
            dsimp only
            have q_840 := hI839.r 10 rfl
            have e_841 : (F839 10).toInt = (F836 10).toInt := hO839
            unfold cb_X4_forStatement_286
            have q_842 := i_rng (F2 30)
            have j_843 : CI (fup F839 30 (F2 30)) G839 := CI.fr rfl hI839
            unfold cb_X4_forStatement_291
            have q_844 := i_rng (F2 31)
            have j_845 : CI (fup (fup F839 30 (F2 30)) 31 (F2 31)) G839 := CI.fr rfl j_843
            unfold cb_X4_forStatement_296
            refine WP.bind (cs_X2_closes hfu (fup (fup F839 30 (F2 30)) 31 (F2 31)) G839 j_845 (show 1 ≤ (F839 10).toInt by omega)) ?_
            rintro r846 F846 G846 ⟨hI846, hB846, hT846, hp846⟩
            dsimp only
            have q_847 := hI846.r 10 rfl
            have e_848 : (F846 10).toInt = (F839 10).toInt - 1 := hp846
            unfold cb_X4_forStatement_303
            refine WP.ret ?_
            exact ⟨hI846, (KB.tr (KB.f (by decide) (KB.f (by decide) (KB.tr (KB.tr (KB.tr (KB.tr (KB.tr (KB.tr (KB.tr (KB.tr (KB.tr (KB.tr (KB.tr (KB.tr (KB.tr (KB.tr (KB.tr (KB.tr (KB.tr (KB.rf : KB F G F G) hB2) hB13) hB17) hB734) hB738) hB744) hB749) hB804) hB808) hB811) hB816) hB819) hB823) hB827) hB831) hB836) hB839))) hB846), (KT.tr (KT.f (by decide) (KT.f (by decide) (KT.tr (KT.tr (KT.tr (KT.tr (KT.tr (KT.tr (KT.tr (KT.tr (KT.tr (KT.tr (KT.tr (KT.tr (KT.tr (KT.tr (KT.tr (KT.tr (KT.tr (rfl : KT F F) hT2) hT13) hT17) hT734) hT738) hT744) hT749) hT804) hT808) hT811) hT816) hT819) hT823) hT827) hT831) hT836) hT839))) hT846), (show (F846 10).toInt = (F 10).toInt by omega), trivial⟩
        · skip
          have q_849 := i_rng (F738 11)
          have e_850 := mt i_eq.mpr (show ¬ ((F738 11) = (26 : Int32)) from c_741)
          unfold cb_X4_forStatement_116
          refine WP.bind (cs_X3_expression hfu F738 G738 hI738) ?_
          rintro r851 F851 G851 ⟨hI851, hB851, hT851, hO851, hp851⟩
          dsimp only
          have q_852 := hI851.r 10 rfl
          have e_853 : (F851 10).toInt = (F738 10).toInt := hO851
          unfold cb_X4_forStatement_123
          have l_854 : (86 : Int32).toInt = 86 := rfl
          have l_855 : (-1 : Int32).toInt = -1 := rfl
          refine WP.bind (cs_X1_addJump hfu (86 : Int32) (-1 : Int32) F851 G851 hI851) ?_
          rintro r856 F856 G856 ⟨hI856, hB856, hT856, hO856, hp856⟩
          dsimp only
          have q_857 := hI856.r 10 rfl
          have e_858 : (F856 10).toInt = (F851 10).toInt := hO856
          have q_859 := hI851.r 21 rfl
          have q_860 := hI856.r 21 rfl
          have e_861 : (F856 21).toInt = (F851 21).toInt := congrArg Int32.toInt hp856
          unfold cb_X4_forStatement_133
          unfold cb_X4_forStatement_135
          refine WP.bind (cs_X2_expect hfu (26 : Int32) F856 G856 hI856) ?_
          rintro r862 F862 G862 ⟨hI862, hB862, hT862, hO862, hp862⟩
          dsimp only
          have q_863 := hI862.r 10 rfl
          have e_864 : (F862 10).toInt = (F856 10).toInt := hO862
          unfold cb_X4_forStatement_144
          have l_865 : (84 : Int32).toInt = 84 := rfl
          refine WP.bind (cs_X1_addJump hfu (84 : Int32) (-1 : Int32) F862 G862 hI862) ?_
          rintro r866 F866 G866 ⟨hI866, hB866, hT866, hO866, hp866⟩
          dsimp only
          have q_867 := hI866.r 10 rfl
          have e_868 : (F866 10).toInt = (F862 10).toInt := hO866
          have q_869 := hI862.r 21 rfl
          have q_870 := hI866.r 21 rfl
          have e_871 : (F866 21).toInt = (F862 21).toInt := congrArg Int32.toInt hp866
          unfold cb_X4_forStatement_154
          refine WP.ite (fun c_872 => ?_) (fun c_872 => ?_)
          · skip
            have q_873 := i_rng (F866 11)
            have l_874 : (20 : Int32).toInt = 20 := rfl
            have e_875 := i_eq.mp (show (F866 11) = (20 : Int32) from c_872)
            unfold cb_X4_forStatement_181
            have q_876 := hI738.r 6 rfl
            refine WP.bind (cs_X1_addPair hfu (84 : Int32) (F738 6) F866 G866 hI866) ?_
            rintro r877 F877 G877 ⟨hI877, hB877, hT877, hO877, hp877⟩
            dsimp only
            have q_878 := hI877.r 10 rfl
            have e_879 : (F877 10).toInt = (F866 10).toInt := hO877
            unfold cb_X4_forStatement_192
            refine WP.bind (cs_X2_closesWith hfu (20 : Int32) F877 G877 hI877 (show 1 ≤ (F877 10).toInt by omega)) ?_
            rintro r880 F880 G880 ⟨hI880, hB880, hT880, hp880⟩
            dsimp only
            have q_881 := hI880.r 10 rfl
            have e_882 : (F880 10).toInt = (F877 10).toInt - 1 := hp880
            unfold cb_X4_forStatement_201
            have q_883 := i_rng r866
            have q_884 := hI880.r 6 rfl
            refine WP.bind (cs_X1_aim hfu r866 (F880 6) F880 G880 hI880) ?_
            rintro r885 F885 G885 ⟨hI885, hB885, hT885, hO885, hp885⟩
            dsimp only
            have q_886 := hI885.r 10 rfl
            have e_887 : (F885 10).toInt = (F880 10).toInt := hO885
            unfold cb_X4_forStatement_217
            refine WP.bind (ih.2.2.2.2.2.1 F885 G885 hI885 (by omega)) ?_
            rintro r888 F888 G888 ⟨hI888, hB888, hT888, hO888, hp888⟩
            dsimp only
            have q_889 := hI888.r 10 rfl
            have e_890 : (F888 10).toInt = (F885 10).toInt := hO888
            unfold cb_X4_forStatement_221
            have q_891 := hI866.r 6 rfl
            refine WP.bind (cs_X1_addPair hfu (84 : Int32) (F866 6) F888 G888 hI888) ?_
            rintro r892 F892 G892 ⟨hI892, hB892, hT892, hO892, hp892⟩
            dsimp only
            have q_893 := hI892.r 10 rfl
            have e_894 : (F892 10).toInt = (F888 10).toInt := hO892
            unfold cb_X4_forStatement_232
            have q_895 := i_rng (F892 31)
            refine WP.bind (cs_X1_aim hfu (F892 31) (F866 6) F892 G892 hI892) ?_
            rintro r896 F896 G896 ⟨hI896, hB896, hT896, hO896, hp896⟩
            dsimp only
            have q_897 := hI896.r 10 rfl
            have e_898 : (F896 10).toInt = (F892 10).toInt := hO896
            unfold cb_X4_forStatement_245
            have q_899 := i_rng r856
            have q_900 := hI896.r 6 rfl
            refine WP.bind (cs_X1_aim hfu r856 (F896 6) F896 G896 hI896) ?_
            rintro r901 F901 G901 ⟨hI901, hB901, hT901, hO901, hp901⟩
            dsimp only
            have q_902 := hI901.r 10 rfl
            have e_903 : (F901 10).toInt = (F896 10).toInt := hO901
            unfold cb_X4_forStatement_261
            have q_904 := i_rng (F901 30)
            have q_905 := hI901.r 6 rfl
            refine WP.bind (cs_X1_aim hfu (F901 30) (F901 6) F901 G901 hI901) ?_
            rintro r906 F906 G906 ⟨hI906, hB906, hT906, hO906, hp906⟩
            dsimp only
            have q_907 := hI906.r 10 rfl
            have e_908 : (F906 10).toInt = (F901 10).toInt := hO906
            unfold cb_X4_forStatement_279
            refine WP.bind (cs_X5_leave hfu F906 G906 hI906) ?_
            rintro r909 F909 G909 ⟨hI909, hB909, hT909, hO909, hp909⟩
            dsimp only
            have q_910 := hI909.r 10 rfl
            have e_911 : (F909 10).toInt = (F906 10).toInt := hO909
            unfold cb_X4_forStatement_286
            have q_912 := i_rng (F2 30)
            have j_913 : CI (fup F909 30 (F2 30)) G909 := CI.fr rfl hI909
            unfold cb_X4_forStatement_291
            have q_914 := i_rng (F2 31)
            have j_915 : CI (fup (fup F909 30 (F2 30)) 31 (F2 31)) G909 := CI.fr rfl j_913
            unfold cb_X4_forStatement_296
            refine WP.bind (cs_X2_closes hfu (fup (fup F909 30 (F2 30)) 31 (F2 31)) G909 j_915 (show 1 ≤ (F909 10).toInt by omega)) ?_
            rintro r916 F916 G916 ⟨hI916, hB916, hT916, hp916⟩
            dsimp only
            have q_917 := hI916.r 10 rfl
            have e_918 : (F916 10).toInt = (F909 10).toInt - 1 := hp916
            unfold cb_X4_forStatement_303
            refine WP.ret ?_
            exact ⟨hI916, (KB.tr (KB.f (by decide) (KB.f (by decide) (KB.tr (KB.tr (KB.tr (KB.tr (KB.tr (KB.tr (KB.tr (KB.tr (KB.tr (KB.tr (KB.tr (KB.tr (KB.tr (KB.tr (KB.tr (KB.tr (KB.tr (KB.tr (KB.rf : KB F G F G) hB2) hB13) hB17) hB734) hB738) hB851) hB856) hB862) hB866) hB877) hB880) hB885) hB888) hB892) hB896) hB901) hB906) hB909))) hB916), (KT.tr (KT.f (by decide) (KT.f (by decide) (KT.tr (KT.tr (KT.tr (KT.tr (KT.tr (KT.tr (KT.tr (KT.tr (KT.tr (KT.tr (KT.tr (KT.tr (KT.tr (KT.tr (KT.tr (KT.tr (KT.tr (KT.tr (rfl : KT F F) hT2) hT13) hT17) hT734) hT738) hT851) hT856) hT862) hT866) hT877) hT880) hT885) hT888) hT892) hT896) hT901) hT906) hT909))) hT916), (show (F916 10).toInt = (F 10).toInt by omega), trivial⟩
          · skip
            have q_919 := i_rng (F866 11)
            have l_920 : (20 : Int32).toInt = 20 := rfl
            have e_921 := mt i_eq.mpr (show ¬ ((F866 11) = (20 : Int32)) from c_872)
            unfold cb_X4_forStatement_177
            refine WP.bind (cs_X4_simple hfu F866 G866 hI866) ?_
            rintro r922 F922 G922 ⟨hI922, hB922, hT922, hO922, hp922⟩
            dsimp only
            have q_923 := hI922.r 10 rfl
            have e_924 : (F922 10).toInt = (F866 10).toInt := hO922
            unfold cb_X4_forStatement_181
            have q_925 := hI738.r 6 rfl
            refine WP.bind (cs_X1_addPair hfu (84 : Int32) (F738 6) F922 G922 hI922) ?_
            rintro r926 F926 G926 ⟨hI926, hB926, hT926, hO926, hp926⟩
            dsimp only
            have q_927 := hI926.r 10 rfl
            have e_928 : (F926 10).toInt = (F922 10).toInt := hO926
            unfold cb_X4_forStatement_192
            refine WP.bind (cs_X2_closesWith hfu (20 : Int32) F926 G926 hI926 (show 1 ≤ (F926 10).toInt by omega)) ?_
            rintro r929 F929 G929 ⟨hI929, hB929, hT929, hp929⟩
            dsimp only
            have q_930 := hI929.r 10 rfl
            have e_931 : (F929 10).toInt = (F926 10).toInt - 1 := hp929
            unfold cb_X4_forStatement_201
            have q_932 := i_rng r866
            have q_933 := hI929.r 6 rfl
            refine WP.bind (cs_X1_aim hfu r866 (F929 6) F929 G929 hI929) ?_
            rintro r934 F934 G934 ⟨hI934, hB934, hT934, hO934, hp934⟩
            dsimp only
            have q_935 := hI934.r 10 rfl
            have e_936 : (F934 10).toInt = (F929 10).toInt := hO934
            unfold cb_X4_forStatement_217
            refine WP.bind (ih.2.2.2.2.2.1 F934 G934 hI934 (by omega)) ?_
            rintro r937 F937 G937 ⟨hI937, hB937, hT937, hO937, hp937⟩
            dsimp only
            have q_938 := hI937.r 10 rfl
            have e_939 : (F937 10).toInt = (F934 10).toInt := hO937
            unfold cb_X4_forStatement_221
            have q_940 := hI866.r 6 rfl
            refine WP.bind (cs_X1_addPair hfu (84 : Int32) (F866 6) F937 G937 hI937) ?_
            rintro r941 F941 G941 ⟨hI941, hB941, hT941, hO941, hp941⟩
            dsimp only
            have q_942 := hI941.r 10 rfl
            have e_943 : (F941 10).toInt = (F937 10).toInt := hO941
            unfold cb_X4_forStatement_232
            have q_944 := i_rng (F941 31)
            refine WP.bind (cs_X1_aim hfu (F941 31) (F866 6) F941 G941 hI941) ?_
            rintro r945 F945 G945 ⟨hI945, hB945, hT945, hO945, hp945⟩
            dsimp only
            have q_946 := hI945.r 10 rfl
            have e_947 : (F945 10).toInt = (F941 10).toInt := hO945
            unfold cb_X4_forStatement_245
            have q_948 := i_rng r856
            have q_949 := hI945.r 6 rfl
            refine WP.bind (cs_X1_aim hfu r856 (F945 6) F945 G945 hI945) ?_
            rintro r950 F950 G950 ⟨hI950, hB950, hT950, hO950, hp950⟩
            dsimp only
            have q_951 := hI950.r 10 rfl
            have e_952 : (F950 10).toInt = (F945 10).toInt := hO950
            unfold cb_X4_forStatement_261
            have q_953 := i_rng (F950 30)
            have q_954 := hI950.r 6 rfl
            refine WP.bind (cs_X1_aim hfu (F950 30) (F950 6) F950 G950 hI950) ?_
            rintro r955 F955 G955 ⟨hI955, hB955, hT955, hO955, hp955⟩
            dsimp only
            have q_956 := hI955.r 10 rfl
            have e_957 : (F955 10).toInt = (F950 10).toInt := hO955
            unfold cb_X4_forStatement_279
            refine WP.bind (cs_X5_leave hfu F955 G955 hI955) ?_
            rintro r958 F958 G958 ⟨hI958, hB958, hT958, hO958, hp958⟩
            dsimp only
            have q_959 := hI958.r 10 rfl
            have e_960 : (F958 10).toInt = (F955 10).toInt := hO958
            unfold cb_X4_forStatement_286
            have q_961 := i_rng (F2 30)
            have j_962 : CI (fup F958 30 (F2 30)) G958 := CI.fr rfl hI958
            unfold cb_X4_forStatement_291
            have q_963 := i_rng (F2 31)
            have j_964 : CI (fup (fup F958 30 (F2 30)) 31 (F2 31)) G958 := CI.fr rfl j_962
            unfold cb_X4_forStatement_296
            refine WP.bind (cs_X2_closes hfu (fup (fup F958 30 (F2 30)) 31 (F2 31)) G958 j_964 (show 1 ≤ (F958 10).toInt by omega)) ?_
            rintro r965 F965 G965 ⟨hI965, hB965, hT965, hp965⟩
            dsimp only
            have q_966 := hI965.r 10 rfl
            have e_967 : (F965 10).toInt = (F958 10).toInt - 1 := hp965
            unfold cb_X4_forStatement_303
            refine WP.ret ?_
            exact ⟨hI965, (KB.tr (KB.f (by decide) (KB.f (by decide) (KB.tr (KB.tr (KB.tr (KB.tr (KB.tr (KB.tr (KB.tr (KB.tr (KB.tr (KB.tr (KB.tr (KB.tr (KB.tr (KB.tr (KB.tr (KB.tr (KB.tr (KB.tr (KB.tr (KB.rf : KB F G F G) hB2) hB13) hB17) hB734) hB738) hB851) hB856) hB862) hB866) hB922) hB926) hB929) hB934) hB937) hB941) hB945) hB950) hB955) hB958))) hB965), (KT.tr (KT.f (by decide) (KT.f (by decide) (KT.tr (KT.tr (KT.tr (KT.tr (KT.tr (KT.tr (KT.tr (KT.tr (KT.tr (KT.tr (KT.tr (KT.tr (KT.tr (KT.tr (KT.tr (KT.tr (KT.tr (KT.tr (KT.tr (rfl : KT F F) hT2) hT13) hT17) hT734) hT738) hT851) hT856) hT862) hT866) hT922) hT926) hT929) hT934) hT937) hT941) hT945) hT950) hT955) hT958))) hT965), (show (F965 10).toInt = (F 10).toInt by omega), trivial⟩
      · skip
        have q_968 := i_rng (F17 11)
        have l_969 : (4 : Int32).toInt = 4 := rfl
        have e_970 := mt i_eq.mpr (show ¬ ((F17 11) = (4 : Int32)) from c_729)
        unfold cb_X4_forStatement_63
        refine WP.ite (fun c_971 => ?_) (fun c_971 => ?_)
        · skip
          have e_972 := i_eq.mp (show r17 = (0 : Int32) from c_971)
          unfold cb_X4_forStatement_83
          have l_973 : (26 : Int32).toInt = 26 := rfl
          refine WP.bind (cs_X2_expect hfu (26 : Int32) F17 G17 hI17) ?_
          rintro r974 F974 G974 ⟨hI974, hB974, hT974, hO974, hp974⟩
          dsimp only
          have q_975 := hI974.r 10 rfl
          have e_976 : (F974 10).toInt = (F17 10).toInt := hO974
          unfold cb_X4_forStatement_92
          refine WP.ite (fun c_977 => ?_) (fun c_977 => ?_)
          · skip
            have q_978 := i_rng (F974 11)
            have e_979 := i_eq.mp (show (F974 11) = (26 : Int32) from c_977)
            unfold cb_X4_forStatement_135
            refine WP.bind (cs_X2_expect hfu (26 : Int32) F974 G974 hI974) ?_
            rintro r980 F980 G980 ⟨hI980, hB980, hT980, hO980, hp980⟩
            dsimp only
            have q_981 := hI980.r 10 rfl
            have e_982 : (F980 10).toInt = (F974 10).toInt := hO980
            unfold cb_X4_forStatement_144
            have l_983 : (84 : Int32).toInt = 84 := rfl
            have l_984 : (-1 : Int32).toInt = -1 := rfl
            refine WP.bind (cs_X1_addJump hfu (84 : Int32) (-1 : Int32) F980 G980 hI980) ?_
            rintro r985 F985 G985 ⟨hI985, hB985, hT985, hO985, hp985⟩
            dsimp only
            have q_986 := hI985.r 10 rfl
            have e_987 : (F985 10).toInt = (F980 10).toInt := hO985
            have q_988 := hI980.r 21 rfl
            have q_989 := hI985.r 21 rfl
            have e_990 : (F985 21).toInt = (F980 21).toInt := congrArg Int32.toInt hp985
            unfold cb_X4_forStatement_154
            refine WP.ite (fun c_991 => ?_) (fun c_991 => ?_)
            · skip
              have q_992 := i_rng (F985 11)
              have l_993 : (20 : Int32).toInt = 20 := rfl
              have e_994 := i_eq.mp (show (F985 11) = (20 : Int32) from c_991)
              unfold cb_X4_forStatement_181
              have q_995 := hI974.r 6 rfl
              refine WP.bind (cs_X1_addPair hfu (84 : Int32) (F974 6) F985 G985 hI985) ?_
              rintro r996 F996 G996 ⟨hI996, hB996, hT996, hO996, hp996⟩
              dsimp only
              have q_997 := hI996.r 10 rfl
              have e_998 : (F996 10).toInt = (F985 10).toInt := hO996
              unfold cb_X4_forStatement_192
              refine WP.bind (cs_X2_closesWith hfu (20 : Int32) F996 G996 hI996 (show 1 ≤ (F996 10).toInt by omega)) ?_
              rintro r999 F999 G999 ⟨hI999, hB999, hT999, hp999⟩
              dsimp only
              have q_1000 := hI999.r 10 rfl
              have e_1001 : (F999 10).toInt = (F996 10).toInt - 1 := hp999
              unfold cb_X4_forStatement_201
              have q_1002 := i_rng r985
              have q_1003 := hI999.r 6 rfl
              refine WP.bind (cs_X1_aim hfu r985 (F999 6) F999 G999 hI999) ?_
              rintro r1004 F1004 G1004 ⟨hI1004, hB1004, hT1004, hO1004, hp1004⟩
              dsimp only
              have q_1005 := hI1004.r 10 rfl
              have e_1006 : (F1004 10).toInt = (F999 10).toInt := hO1004
              unfold cb_X4_forStatement_217
              refine WP.bind (ih.2.2.2.2.2.1 F1004 G1004 hI1004 (by omega)) ?_
              rintro r1007 F1007 G1007 ⟨hI1007, hB1007, hT1007, hO1007, hp1007⟩
              dsimp only
              have q_1008 := hI1007.r 10 rfl
              have e_1009 : (F1007 10).toInt = (F1004 10).toInt := hO1007
              unfold cb_X4_forStatement_221
              have q_1010 := hI985.r 6 rfl
              refine WP.bind (cs_X1_addPair hfu (84 : Int32) (F985 6) F1007 G1007 hI1007) ?_
              rintro r1011 F1011 G1011 ⟨hI1011, hB1011, hT1011, hO1011, hp1011⟩
              dsimp only
              have q_1012 := hI1011.r 10 rfl
              have e_1013 : (F1011 10).toInt = (F1007 10).toInt := hO1011
              unfold cb_X4_forStatement_232
              have q_1014 := i_rng (F1011 31)
              refine WP.bind (cs_X1_aim hfu (F1011 31) (F985 6) F1011 G1011 hI1011) ?_
              rintro r1015 F1015 G1015 ⟨hI1015, hB1015, hT1015, hO1015, hp1015⟩
              dsimp only
              have q_1016 := hI1015.r 10 rfl
              have e_1017 : (F1015 10).toInt = (F1011 10).toInt := hO1015
              unfold cb_X4_forStatement_245
              have q_1018 := hI1015.r 6 rfl
              refine WP.bind (cs_X1_aim hfu (-1 : Int32) (F1015 6) F1015 G1015 hI1015) ?_
              rintro r1019 F1019 G1019 ⟨hI1019, hB1019, hT1019, hO1019, hp1019⟩
              dsimp only
              have q_1020 := hI1019.r 10 rfl
              have e_1021 : (F1019 10).toInt = (F1015 10).toInt := hO1019
              unfold cb_X4_forStatement_261
              have q_1022 := i_rng (F1019 30)
              have q_1023 := hI1019.r 6 rfl
              refine WP.bind (cs_X1_aim hfu (F1019 30) (F1019 6) F1019 G1019 hI1019) ?_
              rintro r1024 F1024 G1024 ⟨hI1024, hB1024, hT1024, hO1024, hp1024⟩
              dsimp only
              have q_1025 := hI1024.r 10 rfl
              have e_1026 : (F1024 10).toInt = (F1019 10).toInt := hO1024
              unfold cb_X4_forStatement_279
              refine WP.bind (cs_X5_leave hfu F1024 G1024 hI1024) ?_
              rintro r1027 F1027 G1027 ⟨hI1027, hB1027, hT1027, hO1027, hp1027⟩
              dsimp only
              have q_1028 := hI1027.r 10 rfl
              have e_1029 : (F1027 10).toInt = (F1024 10).toInt := hO1027
              unfold cb_X4_forStatement_286
              have q_1030 := i_rng (F2 30)
              have j_1031 : CI (fup F1027 30 (F2 30)) G1027 := CI.fr rfl hI1027
              unfold cb_X4_forStatement_291
              have q_1032 := i_rng (F2 31)
              have j_1033 : CI (fup (fup F1027 30 (F2 30)) 31 (F2 31)) G1027 := CI.fr rfl j_1031
              unfold cb_X4_forStatement_296
              refine WP.bind (cs_X2_closes hfu (fup (fup F1027 30 (F2 30)) 31 (F2 31)) G1027 j_1033 (show 1 ≤ (F1027 10).toInt by omega)) ?_
              rintro r1034 F1034 G1034 ⟨hI1034, hB1034, hT1034, hp1034⟩
              dsimp only
              have q_1035 := hI1034.r 10 rfl
              have e_1036 : (F1034 10).toInt = (F1027 10).toInt - 1 := hp1034
              unfold cb_X4_forStatement_303
              refine WP.ret ?_
              exact ⟨hI1034, (KB.tr (KB.f (by decide) (KB.f (by decide) (KB.tr (KB.tr (KB.tr (KB.tr (KB.tr (KB.tr (KB.tr (KB.tr (KB.tr (KB.tr (KB.tr (KB.tr (KB.tr (KB.tr (KB.tr (KB.rf : KB F G F G) hB2) hB13) hB17) hB974) hB980) hB985) hB996) hB999) hB1004) hB1007) hB1011) hB1015) hB1019) hB1024) hB1027))) hB1034), (KT.tr (KT.f (by decide) (KT.f (by decide) (KT.tr (KT.tr (KT.tr (KT.tr (KT.tr (KT.tr (KT.tr (KT.tr (KT.tr (KT.tr (KT.tr (KT.tr (KT.tr (KT.tr (KT.tr (rfl : KT F F) hT2) hT13) hT17) hT974) hT980) hT985) hT996) hT999) hT1004) hT1007) hT1011) hT1015) hT1019) hT1024) hT1027))) hT1034), (show (F1034 10).toInt = (F 10).toInt by omega), trivial⟩
            · skip
              have q_1037 := i_rng (F985 11)
              have l_1038 : (20 : Int32).toInt = 20 := rfl
              have e_1039 := mt i_eq.mpr (show ¬ ((F985 11) = (20 : Int32)) from c_991)
              unfold cb_X4_forStatement_177
              refine WP.bind (cs_X4_simple hfu F985 G985 hI985) ?_
              rintro r1040 F1040 G1040 ⟨hI1040, hB1040, hT1040, hO1040, hp1040⟩
              dsimp only
              have q_1041 := hI1040.r 10 rfl
              have e_1042 : (F1040 10).toInt = (F985 10).toInt := hO1040
              unfold cb_X4_forStatement_181
              have q_1043 := hI974.r 6 rfl
              refine WP.bind (cs_X1_addPair hfu (84 : Int32) (F974 6) F1040 G1040 hI1040) ?_
              rintro r1044 F1044 G1044 ⟨hI1044, hB1044, hT1044, hO1044, hp1044⟩
              dsimp only
              have q_1045 := hI1044.r 10 rfl
              have e_1046 : (F1044 10).toInt = (F1040 10).toInt := hO1044
              unfold cb_X4_forStatement_192
              refine WP.bind (cs_X2_closesWith hfu (20 : Int32) F1044 G1044 hI1044 (show 1 ≤ (F1044 10).toInt by omega)) ?_
              rintro r1047 F1047 G1047 ⟨hI1047, hB1047, hT1047, hp1047⟩
              dsimp only
              have q_1048 := hI1047.r 10 rfl
              have e_1049 : (F1047 10).toInt = (F1044 10).toInt - 1 := hp1047
              unfold cb_X4_forStatement_201
              have q_1050 := i_rng r985
              have q_1051 := hI1047.r 6 rfl
              refine WP.bind (cs_X1_aim hfu r985 (F1047 6) F1047 G1047 hI1047) ?_
              rintro r1052 F1052 G1052 ⟨hI1052, hB1052, hT1052, hO1052, hp1052⟩
              dsimp only
              have q_1053 := hI1052.r 10 rfl
              have e_1054 : (F1052 10).toInt = (F1047 10).toInt := hO1052
              unfold cb_X4_forStatement_217
              refine WP.bind (ih.2.2.2.2.2.1 F1052 G1052 hI1052 (by omega)) ?_
              rintro r1055 F1055 G1055 ⟨hI1055, hB1055, hT1055, hO1055, hp1055⟩
              dsimp only
              have q_1056 := hI1055.r 10 rfl
              have e_1057 : (F1055 10).toInt = (F1052 10).toInt := hO1055
              unfold cb_X4_forStatement_221
              have q_1058 := hI985.r 6 rfl
              refine WP.bind (cs_X1_addPair hfu (84 : Int32) (F985 6) F1055 G1055 hI1055) ?_
              rintro r1059 F1059 G1059 ⟨hI1059, hB1059, hT1059, hO1059, hp1059⟩
              dsimp only
              have q_1060 := hI1059.r 10 rfl
              have e_1061 : (F1059 10).toInt = (F1055 10).toInt := hO1059
              unfold cb_X4_forStatement_232
              have q_1062 := i_rng (F1059 31)
              refine WP.bind (cs_X1_aim hfu (F1059 31) (F985 6) F1059 G1059 hI1059) ?_
              rintro r1063 F1063 G1063 ⟨hI1063, hB1063, hT1063, hO1063, hp1063⟩
              dsimp only
              have q_1064 := hI1063.r 10 rfl
              have e_1065 : (F1063 10).toInt = (F1059 10).toInt := hO1063
              unfold cb_X4_forStatement_245
              have q_1066 := hI1063.r 6 rfl
              refine WP.bind (cs_X1_aim hfu (-1 : Int32) (F1063 6) F1063 G1063 hI1063) ?_
              rintro r1067 F1067 G1067 ⟨hI1067, hB1067, hT1067, hO1067, hp1067⟩
              dsimp only
              have q_1068 := hI1067.r 10 rfl
              have e_1069 : (F1067 10).toInt = (F1063 10).toInt := hO1067
              unfold cb_X4_forStatement_261
              have q_1070 := i_rng (F1067 30)
              have q_1071 := hI1067.r 6 rfl
              refine WP.bind (cs_X1_aim hfu (F1067 30) (F1067 6) F1067 G1067 hI1067) ?_
              rintro r1072 F1072 G1072 ⟨hI1072, hB1072, hT1072, hO1072, hp1072⟩
              dsimp only
              have q_1073 := hI1072.r 10 rfl
              have e_1074 : (F1072 10).toInt = (F1067 10).toInt := hO1072
              unfold cb_X4_forStatement_279
              refine WP.bind (cs_X5_leave hfu F1072 G1072 hI1072) ?_
              rintro r1075 F1075 G1075 ⟨hI1075, hB1075, hT1075, hO1075, hp1075⟩
              dsimp only
              have q_1076 := hI1075.r 10 rfl
              have e_1077 : (F1075 10).toInt = (F1072 10).toInt := hO1075
              unfold cb_X4_forStatement_286
              have q_1078 := i_rng (F2 30)
              have j_1079 : CI (fup F1075 30 (F2 30)) G1075 := CI.fr rfl hI1075
              unfold cb_X4_forStatement_291
              have q_1080 := i_rng (F2 31)
              have j_1081 : CI (fup (fup F1075 30 (F2 30)) 31 (F2 31)) G1075 := CI.fr rfl j_1079
              unfold cb_X4_forStatement_296
              refine WP.bind (cs_X2_closes hfu (fup (fup F1075 30 (F2 30)) 31 (F2 31)) G1075 j_1081 (show 1 ≤ (F1075 10).toInt by omega)) ?_
              rintro r1082 F1082 G1082 ⟨hI1082, hB1082, hT1082, hp1082⟩
              dsimp only
              have q_1083 := hI1082.r 10 rfl
              have e_1084 : (F1082 10).toInt = (F1075 10).toInt - 1 := hp1082
              unfold cb_X4_forStatement_303
              refine WP.ret ?_
              exact ⟨hI1082, (KB.tr (KB.f (by decide) (KB.f (by decide) (KB.tr (KB.tr (KB.tr (KB.tr (KB.tr (KB.tr (KB.tr (KB.tr (KB.tr (KB.tr (KB.tr (KB.tr (KB.tr (KB.tr (KB.tr (KB.tr (KB.rf : KB F G F G) hB2) hB13) hB17) hB974) hB980) hB985) hB1040) hB1044) hB1047) hB1052) hB1055) hB1059) hB1063) hB1067) hB1072) hB1075))) hB1082), (KT.tr (KT.f (by decide) (KT.f (by decide) (KT.tr (KT.tr (KT.tr (KT.tr (KT.tr (KT.tr (KT.tr (KT.tr (KT.tr (KT.tr (KT.tr (KT.tr (KT.tr (KT.tr (KT.tr (KT.tr (rfl : KT F F) hT2) hT13) hT17) hT974) hT980) hT985) hT1040) hT1044) hT1047) hT1052) hT1055) hT1059) hT1063) hT1067) hT1072) hT1075))) hT1082), (show (F1082 10).toInt = (F 10).toInt by omega), trivial⟩
          · skip
            have q_1085 := i_rng (F974 11)
            have e_1086 := mt i_eq.mpr (show ¬ ((F974 11) = (26 : Int32)) from c_977)
            unfold cb_X4_forStatement_116
            refine WP.bind (cs_X3_expression hfu F974 G974 hI974) ?_
            rintro r1087 F1087 G1087 ⟨hI1087, hB1087, hT1087, hO1087, hp1087⟩
            dsimp only
            have q_1088 := hI1087.r 10 rfl
            have e_1089 : (F1087 10).toInt = (F974 10).toInt := hO1087
            unfold cb_X4_forStatement_123
            have l_1090 : (86 : Int32).toInt = 86 := rfl
            have l_1091 : (-1 : Int32).toInt = -1 := rfl
            refine WP.bind (cs_X1_addJump hfu (86 : Int32) (-1 : Int32) F1087 G1087 hI1087) ?_
            rintro r1092 F1092 G1092 ⟨hI1092, hB1092, hT1092, hO1092, hp1092⟩
            dsimp only
            have q_1093 := hI1092.r 10 rfl
            have e_1094 : (F1092 10).toInt = (F1087 10).toInt := hO1092
            have q_1095 := hI1087.r 21 rfl
            have q_1096 := hI1092.r 21 rfl
            have e_1097 : (F1092 21).toInt = (F1087 21).toInt := congrArg Int32.toInt hp1092
            unfold cb_X4_forStatement_133
            unfold cb_X4_forStatement_135
            refine WP.bind (cs_X2_expect hfu (26 : Int32) F1092 G1092 hI1092) ?_
            rintro r1098 F1098 G1098 ⟨hI1098, hB1098, hT1098, hO1098, hp1098⟩
            dsimp only
            have q_1099 := hI1098.r 10 rfl
            have e_1100 : (F1098 10).toInt = (F1092 10).toInt := hO1098
            unfold cb_X4_forStatement_144
            have l_1101 : (84 : Int32).toInt = 84 := rfl
            refine WP.bind (cs_X1_addJump hfu (84 : Int32) (-1 : Int32) F1098 G1098 hI1098) ?_
            rintro r1102 F1102 G1102 ⟨hI1102, hB1102, hT1102, hO1102, hp1102⟩
            dsimp only
            have q_1103 := hI1102.r 10 rfl
            have e_1104 : (F1102 10).toInt = (F1098 10).toInt := hO1102
            have q_1105 := hI1098.r 21 rfl
            have q_1106 := hI1102.r 21 rfl
            have e_1107 : (F1102 21).toInt = (F1098 21).toInt := congrArg Int32.toInt hp1102
            unfold cb_X4_forStatement_154
            refine WP.ite (fun c_1108 => ?_) (fun c_1108 => ?_)
            · skip
              have q_1109 := i_rng (F1102 11)
              have l_1110 : (20 : Int32).toInt = 20 := rfl
              have e_1111 := i_eq.mp (show (F1102 11) = (20 : Int32) from c_1108)
              unfold cb_X4_forStatement_181
              have q_1112 := hI974.r 6 rfl
              refine WP.bind (cs_X1_addPair hfu (84 : Int32) (F974 6) F1102 G1102 hI1102) ?_
              rintro r1113 F1113 G1113 ⟨hI1113, hB1113, hT1113, hO1113, hp1113⟩
              dsimp only
              have q_1114 := hI1113.r 10 rfl
              have e_1115 : (F1113 10).toInt = (F1102 10).toInt := hO1113
              unfold cb_X4_forStatement_192
              refine WP.bind (cs_X2_closesWith hfu (20 : Int32) F1113 G1113 hI1113 (show 1 ≤ (F1113 10).toInt by omega)) ?_
              rintro r1116 F1116 G1116 ⟨hI1116, hB1116, hT1116, hp1116⟩
              dsimp only
              have q_1117 := hI1116.r 10 rfl
              have e_1118 : (F1116 10).toInt = (F1113 10).toInt - 1 := hp1116
              unfold cb_X4_forStatement_201
              have q_1119 := i_rng r1102
              have q_1120 := hI1116.r 6 rfl
              refine WP.bind (cs_X1_aim hfu r1102 (F1116 6) F1116 G1116 hI1116) ?_
              rintro r1121 F1121 G1121 ⟨hI1121, hB1121, hT1121, hO1121, hp1121⟩
              dsimp only
              have q_1122 := hI1121.r 10 rfl
              have e_1123 : (F1121 10).toInt = (F1116 10).toInt := hO1121
              unfold cb_X4_forStatement_217
              refine WP.bind (ih.2.2.2.2.2.1 F1121 G1121 hI1121 (by omega)) ?_
              rintro r1124 F1124 G1124 ⟨hI1124, hB1124, hT1124, hO1124, hp1124⟩
              dsimp only
              have q_1125 := hI1124.r 10 rfl
              have e_1126 : (F1124 10).toInt = (F1121 10).toInt := hO1124
              unfold cb_X4_forStatement_221
              have q_1127 := hI1102.r 6 rfl
              refine WP.bind (cs_X1_addPair hfu (84 : Int32) (F1102 6) F1124 G1124 hI1124) ?_
              rintro r1128 F1128 G1128 ⟨hI1128, hB1128, hT1128, hO1128, hp1128⟩
              dsimp only
              have q_1129 := hI1128.r 10 rfl
              have e_1130 : (F1128 10).toInt = (F1124 10).toInt := hO1128
              unfold cb_X4_forStatement_232
              have q_1131 := i_rng (F1128 31)
              refine WP.bind (cs_X1_aim hfu (F1128 31) (F1102 6) F1128 G1128 hI1128) ?_
              rintro r1132 F1132 G1132 ⟨hI1132, hB1132, hT1132, hO1132, hp1132⟩
              dsimp only
              have q_1133 := hI1132.r 10 rfl
              have e_1134 : (F1132 10).toInt = (F1128 10).toInt := hO1132
              unfold cb_X4_forStatement_245
              have q_1135 := i_rng r1092
              have q_1136 := hI1132.r 6 rfl
              refine WP.bind (cs_X1_aim hfu r1092 (F1132 6) F1132 G1132 hI1132) ?_
              rintro r1137 F1137 G1137 ⟨hI1137, hB1137, hT1137, hO1137, hp1137⟩
              dsimp only
              have q_1138 := hI1137.r 10 rfl
              have e_1139 : (F1137 10).toInt = (F1132 10).toInt := hO1137
              unfold cb_X4_forStatement_261
              have q_1140 := i_rng (F1137 30)
              have q_1141 := hI1137.r 6 rfl
              refine WP.bind (cs_X1_aim hfu (F1137 30) (F1137 6) F1137 G1137 hI1137) ?_
              rintro r1142 F1142 G1142 ⟨hI1142, hB1142, hT1142, hO1142, hp1142⟩
              dsimp only
              have q_1143 := hI1142.r 10 rfl
              have e_1144 : (F1142 10).toInt = (F1137 10).toInt := hO1142
              unfold cb_X4_forStatement_279
              refine WP.bind (cs_X5_leave hfu F1142 G1142 hI1142) ?_
              rintro r1145 F1145 G1145 ⟨hI1145, hB1145, hT1145, hO1145, hp1145⟩
              dsimp only
              have q_1146 := hI1145.r 10 rfl
              have e_1147 : (F1145 10).toInt = (F1142 10).toInt := hO1145
              unfold cb_X4_forStatement_286
              have q_1148 := i_rng (F2 30)
              have j_1149 : CI (fup F1145 30 (F2 30)) G1145 := CI.fr rfl hI1145
              unfold cb_X4_forStatement_291
              have q_1150 := i_rng (F2 31)
              have j_1151 : CI (fup (fup F1145 30 (F2 30)) 31 (F2 31)) G1145 := CI.fr rfl j_1149
              unfold cb_X4_forStatement_296
              refine WP.bind (cs_X2_closes hfu (fup (fup F1145 30 (F2 30)) 31 (F2 31)) G1145 j_1151 (show 1 ≤ (F1145 10).toInt by omega)) ?_
              rintro r1152 F1152 G1152 ⟨hI1152, hB1152, hT1152, hp1152⟩
              dsimp only
              have q_1153 := hI1152.r 10 rfl
              have e_1154 : (F1152 10).toInt = (F1145 10).toInt - 1 := hp1152
              unfold cb_X4_forStatement_303
              refine WP.ret ?_
              exact ⟨hI1152, (KB.tr (KB.f (by decide) (KB.f (by decide) (KB.tr (KB.tr (KB.tr (KB.tr (KB.tr (KB.tr (KB.tr (KB.tr (KB.tr (KB.tr (KB.tr (KB.tr (KB.tr (KB.tr (KB.tr (KB.tr (KB.tr (KB.rf : KB F G F G) hB2) hB13) hB17) hB974) hB1087) hB1092) hB1098) hB1102) hB1113) hB1116) hB1121) hB1124) hB1128) hB1132) hB1137) hB1142) hB1145))) hB1152), (KT.tr (KT.f (by decide) (KT.f (by decide) (KT.tr (KT.tr (KT.tr (KT.tr (KT.tr (KT.tr (KT.tr (KT.tr (KT.tr (KT.tr (KT.tr (KT.tr (KT.tr (KT.tr (KT.tr (KT.tr (KT.tr (rfl : KT F F) hT2) hT13) hT17) hT974) hT1087) hT1092) hT1098) hT1102) hT1113) hT1116) hT1121) hT1124) hT1128) hT1132) hT1137) hT1142) hT1145))) hT1152), (show (F1152 10).toInt = (F 10).toInt by omega), trivial⟩
            · skip
              have q_1155 := i_rng (F1102 11)
              have l_1156 : (20 : Int32).toInt = 20 := rfl
              have e_1157 := mt i_eq.mpr (show ¬ ((F1102 11) = (20 : Int32)) from c_1108)
              unfold cb_X4_forStatement_177
              refine WP.bind (cs_X4_simple hfu F1102 G1102 hI1102) ?_
              rintro r1158 F1158 G1158 ⟨hI1158, hB1158, hT1158, hO1158, hp1158⟩
              dsimp only
              have q_1159 := hI1158.r 10 rfl
              have e_1160 : (F1158 10).toInt = (F1102 10).toInt := hO1158
              unfold cb_X4_forStatement_181
              have q_1161 := hI974.r 6 rfl
              refine WP.bind (cs_X1_addPair hfu (84 : Int32) (F974 6) F1158 G1158 hI1158) ?_
              rintro r1162 F1162 G1162 ⟨hI1162, hB1162, hT1162, hO1162, hp1162⟩
              dsimp only
              have q_1163 := hI1162.r 10 rfl
              have e_1164 : (F1162 10).toInt = (F1158 10).toInt := hO1162
              unfold cb_X4_forStatement_192
              refine WP.bind (cs_X2_closesWith hfu (20 : Int32) F1162 G1162 hI1162 (show 1 ≤ (F1162 10).toInt by omega)) ?_
              rintro r1165 F1165 G1165 ⟨hI1165, hB1165, hT1165, hp1165⟩
              dsimp only
              have q_1166 := hI1165.r 10 rfl
              have e_1167 : (F1165 10).toInt = (F1162 10).toInt - 1 := hp1165
              unfold cb_X4_forStatement_201
              have q_1168 := i_rng r1102
              have q_1169 := hI1165.r 6 rfl
              refine WP.bind (cs_X1_aim hfu r1102 (F1165 6) F1165 G1165 hI1165) ?_
              rintro r1170 F1170 G1170 ⟨hI1170, hB1170, hT1170, hO1170, hp1170⟩
              dsimp only
              have q_1171 := hI1170.r 10 rfl
              have e_1172 : (F1170 10).toInt = (F1165 10).toInt := hO1170
              unfold cb_X4_forStatement_217
              refine WP.bind (ih.2.2.2.2.2.1 F1170 G1170 hI1170 (by omega)) ?_
              rintro r1173 F1173 G1173 ⟨hI1173, hB1173, hT1173, hO1173, hp1173⟩
              dsimp only
              have q_1174 := hI1173.r 10 rfl
              have e_1175 : (F1173 10).toInt = (F1170 10).toInt := hO1173
              unfold cb_X4_forStatement_221
              have q_1176 := hI1102.r 6 rfl
              refine WP.bind (cs_X1_addPair hfu (84 : Int32) (F1102 6) F1173 G1173 hI1173) ?_
              rintro r1177 F1177 G1177 ⟨hI1177, hB1177, hT1177, hO1177, hp1177⟩
              dsimp only
              have q_1178 := hI1177.r 10 rfl
              have e_1179 : (F1177 10).toInt = (F1173 10).toInt := hO1177
              unfold cb_X4_forStatement_232
              have q_1180 := i_rng (F1177 31)
              refine WP.bind (cs_X1_aim hfu (F1177 31) (F1102 6) F1177 G1177 hI1177) ?_
              rintro r1181 F1181 G1181 ⟨hI1181, hB1181, hT1181, hO1181, hp1181⟩
              dsimp only
              have q_1182 := hI1181.r 10 rfl
              have e_1183 : (F1181 10).toInt = (F1177 10).toInt := hO1181
              unfold cb_X4_forStatement_245
              have q_1184 := i_rng r1092
              have q_1185 := hI1181.r 6 rfl
              refine WP.bind (cs_X1_aim hfu r1092 (F1181 6) F1181 G1181 hI1181) ?_
              rintro r1186 F1186 G1186 ⟨hI1186, hB1186, hT1186, hO1186, hp1186⟩
              dsimp only
              have q_1187 := hI1186.r 10 rfl
              have e_1188 : (F1186 10).toInt = (F1181 10).toInt := hO1186
              unfold cb_X4_forStatement_261
              have q_1189 := i_rng (F1186 30)
              have q_1190 := hI1186.r 6 rfl
              refine WP.bind (cs_X1_aim hfu (F1186 30) (F1186 6) F1186 G1186 hI1186) ?_
              rintro r1191 F1191 G1191 ⟨hI1191, hB1191, hT1191, hO1191, hp1191⟩
              dsimp only
              have q_1192 := hI1191.r 10 rfl
              have e_1193 : (F1191 10).toInt = (F1186 10).toInt := hO1191
              unfold cb_X4_forStatement_279
              refine WP.bind (cs_X5_leave hfu F1191 G1191 hI1191) ?_
              rintro r1194 F1194 G1194 ⟨hI1194, hB1194, hT1194, hO1194, hp1194⟩
              dsimp only
              have q_1195 := hI1194.r 10 rfl
              have e_1196 : (F1194 10).toInt = (F1191 10).toInt := hO1194
              unfold cb_X4_forStatement_286
              have q_1197 := i_rng (F2 30)
              have j_1198 : CI (fup F1194 30 (F2 30)) G1194 := CI.fr rfl hI1194
              unfold cb_X4_forStatement_291
              have q_1199 := i_rng (F2 31)
              have j_1200 : CI (fup (fup F1194 30 (F2 30)) 31 (F2 31)) G1194 := CI.fr rfl j_1198
              unfold cb_X4_forStatement_296
              refine WP.bind (cs_X2_closes hfu (fup (fup F1194 30 (F2 30)) 31 (F2 31)) G1194 j_1200 (show 1 ≤ (F1194 10).toInt by omega)) ?_
              rintro r1201 F1201 G1201 ⟨hI1201, hB1201, hT1201, hp1201⟩
              dsimp only
              have q_1202 := hI1201.r 10 rfl
              have e_1203 : (F1201 10).toInt = (F1194 10).toInt - 1 := hp1201
              unfold cb_X4_forStatement_303
              refine WP.ret ?_
              exact ⟨hI1201, (KB.tr (KB.f (by decide) (KB.f (by decide) (KB.tr (KB.tr (KB.tr (KB.tr (KB.tr (KB.tr (KB.tr (KB.tr (KB.tr (KB.tr (KB.tr (KB.tr (KB.tr (KB.tr (KB.tr (KB.tr (KB.tr (KB.tr (KB.rf : KB F G F G) hB2) hB13) hB17) hB974) hB1087) hB1092) hB1098) hB1102) hB1158) hB1162) hB1165) hB1170) hB1173) hB1177) hB1181) hB1186) hB1191) hB1194))) hB1201), (KT.tr (KT.f (by decide) (KT.f (by decide) (KT.tr (KT.tr (KT.tr (KT.tr (KT.tr (KT.tr (KT.tr (KT.tr (KT.tr (KT.tr (KT.tr (KT.tr (KT.tr (KT.tr (KT.tr (KT.tr (KT.tr (KT.tr (rfl : KT F F) hT2) hT13) hT17) hT974) hT1087) hT1092) hT1098) hT1102) hT1158) hT1162) hT1165) hT1170) hT1173) hT1177) hT1181) hT1186) hT1191) hT1194))) hT1201), (show (F1201 10).toInt = (F 10).toInt by omega), trivial⟩
        · skip
          have e_1204 := mt i_eq.mpr (show ¬ (r17 = (0 : Int32)) from c_971)
          unfold cb_X4_forStatement_67
          refine WP.ite (fun c_1205 => ?_) (fun c_1205 => ?_)
          · skip
            have l_1206 : (26 : Int32).toInt = 26 := rfl
            have e_1207 := i_eq.mp (show (F17 11) = (26 : Int32) from c_1205)
            unfold cb_X4_forStatement_83
            refine WP.bind (cs_X2_expect hfu (26 : Int32) F17 G17 hI17) ?_
            rintro r1208 F1208 G1208 ⟨hI1208, hB1208, hT1208, hO1208, hp1208⟩
            dsimp only
            have q_1209 := hI1208.r 10 rfl
            have e_1210 : (F1208 10).toInt = (F17 10).toInt := hO1208
            unfold cb_X4_forStatement_92
            refine WP.ite (fun c_1211 => ?_) (fun c_1211 => ?_)
            · skip
              have q_1212 := i_rng (F1208 11)
              have e_1213 := i_eq.mp (show (F1208 11) = (26 : Int32) from c_1211)
              unfold cb_X4_forStatement_135
              refine WP.bind (cs_X2_expect hfu (26 : Int32) F1208 G1208 hI1208) ?_
              rintro r1214 F1214 G1214 ⟨hI1214, hB1214, hT1214, hO1214, hp1214⟩
              dsimp only
              have q_1215 := hI1214.r 10 rfl
              have e_1216 : (F1214 10).toInt = (F1208 10).toInt := hO1214
              unfold cb_X4_forStatement_144
              have l_1217 : (84 : Int32).toInt = 84 := rfl
              have l_1218 : (-1 : Int32).toInt = -1 := rfl
              refine WP.bind (cs_X1_addJump hfu (84 : Int32) (-1 : Int32) F1214 G1214 hI1214) ?_
              rintro r1219 F1219 G1219 ⟨hI1219, hB1219, hT1219, hO1219, hp1219⟩
              dsimp only
              have q_1220 := hI1219.r 10 rfl
              have e_1221 : (F1219 10).toInt = (F1214 10).toInt := hO1219
              have q_1222 := hI1214.r 21 rfl
              have q_1223 := hI1219.r 21 rfl
              have e_1224 : (F1219 21).toInt = (F1214 21).toInt := congrArg Int32.toInt hp1219
              unfold cb_X4_forStatement_154
              refine WP.ite (fun c_1225 => ?_) (fun c_1225 => ?_)
              · skip
                have q_1226 := i_rng (F1219 11)
                have l_1227 : (20 : Int32).toInt = 20 := rfl
                have e_1228 := i_eq.mp (show (F1219 11) = (20 : Int32) from c_1225)
                unfold cb_X4_forStatement_181
                have q_1229 := hI1208.r 6 rfl
                refine WP.bind (cs_X1_addPair hfu (84 : Int32) (F1208 6) F1219 G1219 hI1219) ?_
                rintro r1230 F1230 G1230 ⟨hI1230, hB1230, hT1230, hO1230, hp1230⟩
                dsimp only
                have q_1231 := hI1230.r 10 rfl
                have e_1232 : (F1230 10).toInt = (F1219 10).toInt := hO1230
                unfold cb_X4_forStatement_192
                refine WP.bind (cs_X2_closesWith hfu (20 : Int32) F1230 G1230 hI1230 (show 1 ≤ (F1230 10).toInt by omega)) ?_
                rintro r1233 F1233 G1233 ⟨hI1233, hB1233, hT1233, hp1233⟩
                dsimp only
                have q_1234 := hI1233.r 10 rfl
                have e_1235 : (F1233 10).toInt = (F1230 10).toInt - 1 := hp1233
                unfold cb_X4_forStatement_201
                have q_1236 := i_rng r1219
                have q_1237 := hI1233.r 6 rfl
                refine WP.bind (cs_X1_aim hfu r1219 (F1233 6) F1233 G1233 hI1233) ?_
                rintro r1238 F1238 G1238 ⟨hI1238, hB1238, hT1238, hO1238, hp1238⟩
                dsimp only
                have q_1239 := hI1238.r 10 rfl
                have e_1240 : (F1238 10).toInt = (F1233 10).toInt := hO1238
                unfold cb_X4_forStatement_217
                refine WP.bind (ih.2.2.2.2.2.1 F1238 G1238 hI1238 (by omega)) ?_
                rintro r1241 F1241 G1241 ⟨hI1241, hB1241, hT1241, hO1241, hp1241⟩
                dsimp only
                have q_1242 := hI1241.r 10 rfl
                have e_1243 : (F1241 10).toInt = (F1238 10).toInt := hO1241
                unfold cb_X4_forStatement_221
                have q_1244 := hI1219.r 6 rfl
                refine WP.bind (cs_X1_addPair hfu (84 : Int32) (F1219 6) F1241 G1241 hI1241) ?_
                rintro r1245 F1245 G1245 ⟨hI1245, hB1245, hT1245, hO1245, hp1245⟩
                dsimp only
                have q_1246 := hI1245.r 10 rfl
                have e_1247 : (F1245 10).toInt = (F1241 10).toInt := hO1245
                unfold cb_X4_forStatement_232
                have q_1248 := i_rng (F1245 31)
                refine WP.bind (cs_X1_aim hfu (F1245 31) (F1219 6) F1245 G1245 hI1245) ?_
                rintro r1249 F1249 G1249 ⟨hI1249, hB1249, hT1249, hO1249, hp1249⟩
                dsimp only
                have q_1250 := hI1249.r 10 rfl
                have e_1251 : (F1249 10).toInt = (F1245 10).toInt := hO1249
                unfold cb_X4_forStatement_245
                have q_1252 := hI1249.r 6 rfl
                refine WP.bind (cs_X1_aim hfu (-1 : Int32) (F1249 6) F1249 G1249 hI1249) ?_
                rintro r1253 F1253 G1253 ⟨hI1253, hB1253, hT1253, hO1253, hp1253⟩
                dsimp only
                have q_1254 := hI1253.r 10 rfl
                have e_1255 : (F1253 10).toInt = (F1249 10).toInt := hO1253
                unfold cb_X4_forStatement_261
                have q_1256 := i_rng (F1253 30)
                have q_1257 := hI1253.r 6 rfl
                refine WP.bind (cs_X1_aim hfu (F1253 30) (F1253 6) F1253 G1253 hI1253) ?_
                rintro r1258 F1258 G1258 ⟨hI1258, hB1258, hT1258, hO1258, hp1258⟩
                dsimp only
                have q_1259 := hI1258.r 10 rfl
                have e_1260 : (F1258 10).toInt = (F1253 10).toInt := hO1258
                unfold cb_X4_forStatement_279
                refine WP.bind (cs_X5_leave hfu F1258 G1258 hI1258) ?_
                rintro r1261 F1261 G1261 ⟨hI1261, hB1261, hT1261, hO1261, hp1261⟩
                dsimp only
                have q_1262 := hI1261.r 10 rfl
                have e_1263 : (F1261 10).toInt = (F1258 10).toInt := hO1261
                unfold cb_X4_forStatement_286
                have q_1264 := i_rng (F2 30)
                have j_1265 : CI (fup F1261 30 (F2 30)) G1261 := CI.fr rfl hI1261
                unfold cb_X4_forStatement_291
                have q_1266 := i_rng (F2 31)
                have j_1267 : CI (fup (fup F1261 30 (F2 30)) 31 (F2 31)) G1261 := CI.fr rfl j_1265
                unfold cb_X4_forStatement_296
                refine WP.bind (cs_X2_closes hfu (fup (fup F1261 30 (F2 30)) 31 (F2 31)) G1261 j_1267 (show 1 ≤ (F1261 10).toInt by omega)) ?_
                rintro r1268 F1268 G1268 ⟨hI1268, hB1268, hT1268, hp1268⟩
                dsimp only
                have q_1269 := hI1268.r 10 rfl
                have e_1270 : (F1268 10).toInt = (F1261 10).toInt - 1 := hp1268
                unfold cb_X4_forStatement_303
                refine WP.ret ?_
                exact ⟨hI1268, (KB.tr (KB.f (by decide) (KB.f (by decide) (KB.tr (KB.tr (KB.tr (KB.tr (KB.tr (KB.tr (KB.tr (KB.tr (KB.tr (KB.tr (KB.tr (KB.tr (KB.tr (KB.tr (KB.tr (KB.rf : KB F G F G) hB2) hB13) hB17) hB1208) hB1214) hB1219) hB1230) hB1233) hB1238) hB1241) hB1245) hB1249) hB1253) hB1258) hB1261))) hB1268), (KT.tr (KT.f (by decide) (KT.f (by decide) (KT.tr (KT.tr (KT.tr (KT.tr (KT.tr (KT.tr (KT.tr (KT.tr (KT.tr (KT.tr (KT.tr (KT.tr (KT.tr (KT.tr (KT.tr (rfl : KT F F) hT2) hT13) hT17) hT1208) hT1214) hT1219) hT1230) hT1233) hT1238) hT1241) hT1245) hT1249) hT1253) hT1258) hT1261))) hT1268), (show (F1268 10).toInt = (F 10).toInt by omega), trivial⟩
              · skip
                have q_1271 := i_rng (F1219 11)
                have l_1272 : (20 : Int32).toInt = 20 := rfl
                have e_1273 := mt i_eq.mpr (show ¬ ((F1219 11) = (20 : Int32)) from c_1225)
                unfold cb_X4_forStatement_177
                refine WP.bind (cs_X4_simple hfu F1219 G1219 hI1219) ?_
                rintro r1274 F1274 G1274 ⟨hI1274, hB1274, hT1274, hO1274, hp1274⟩
                dsimp only
                have q_1275 := hI1274.r 10 rfl
                have e_1276 : (F1274 10).toInt = (F1219 10).toInt := hO1274
                unfold cb_X4_forStatement_181
                have q_1277 := hI1208.r 6 rfl
                refine WP.bind (cs_X1_addPair hfu (84 : Int32) (F1208 6) F1274 G1274 hI1274) ?_
                rintro r1278 F1278 G1278 ⟨hI1278, hB1278, hT1278, hO1278, hp1278⟩
                dsimp only
                have q_1279 := hI1278.r 10 rfl
                have e_1280 : (F1278 10).toInt = (F1274 10).toInt := hO1278
                unfold cb_X4_forStatement_192
                refine WP.bind (cs_X2_closesWith hfu (20 : Int32) F1278 G1278 hI1278 (show 1 ≤ (F1278 10).toInt by omega)) ?_
                rintro r1281 F1281 G1281 ⟨hI1281, hB1281, hT1281, hp1281⟩
                dsimp only
                have q_1282 := hI1281.r 10 rfl
                have e_1283 : (F1281 10).toInt = (F1278 10).toInt - 1 := hp1281
                unfold cb_X4_forStatement_201
                have q_1284 := i_rng r1219
                have q_1285 := hI1281.r 6 rfl
                refine WP.bind (cs_X1_aim hfu r1219 (F1281 6) F1281 G1281 hI1281) ?_
                rintro r1286 F1286 G1286 ⟨hI1286, hB1286, hT1286, hO1286, hp1286⟩
                dsimp only
                have q_1287 := hI1286.r 10 rfl
                have e_1288 : (F1286 10).toInt = (F1281 10).toInt := hO1286
                unfold cb_X4_forStatement_217
                refine WP.bind (ih.2.2.2.2.2.1 F1286 G1286 hI1286 (by omega)) ?_
                rintro r1289 F1289 G1289 ⟨hI1289, hB1289, hT1289, hO1289, hp1289⟩
                dsimp only
                have q_1290 := hI1289.r 10 rfl
                have e_1291 : (F1289 10).toInt = (F1286 10).toInt := hO1289
                unfold cb_X4_forStatement_221
                have q_1292 := hI1219.r 6 rfl
                refine WP.bind (cs_X1_addPair hfu (84 : Int32) (F1219 6) F1289 G1289 hI1289) ?_
                rintro r1293 F1293 G1293 ⟨hI1293, hB1293, hT1293, hO1293, hp1293⟩
                dsimp only
                have q_1294 := hI1293.r 10 rfl
                have e_1295 : (F1293 10).toInt = (F1289 10).toInt := hO1293
                unfold cb_X4_forStatement_232
                have q_1296 := i_rng (F1293 31)
                refine WP.bind (cs_X1_aim hfu (F1293 31) (F1219 6) F1293 G1293 hI1293) ?_
                rintro r1297 F1297 G1297 ⟨hI1297, hB1297, hT1297, hO1297, hp1297⟩
                dsimp only
                have q_1298 := hI1297.r 10 rfl
                have e_1299 : (F1297 10).toInt = (F1293 10).toInt := hO1297
                unfold cb_X4_forStatement_245
                have q_1300 := hI1297.r 6 rfl
                refine WP.bind (cs_X1_aim hfu (-1 : Int32) (F1297 6) F1297 G1297 hI1297) ?_
                rintro r1301 F1301 G1301 ⟨hI1301, hB1301, hT1301, hO1301, hp1301⟩
                dsimp only
                have q_1302 := hI1301.r 10 rfl
                have e_1303 : (F1301 10).toInt = (F1297 10).toInt := hO1301
                unfold cb_X4_forStatement_261
                have q_1304 := i_rng (F1301 30)
                have q_1305 := hI1301.r 6 rfl
                refine WP.bind (cs_X1_aim hfu (F1301 30) (F1301 6) F1301 G1301 hI1301) ?_
                rintro r1306 F1306 G1306 ⟨hI1306, hB1306, hT1306, hO1306, hp1306⟩
                dsimp only
                have q_1307 := hI1306.r 10 rfl
                have e_1308 : (F1306 10).toInt = (F1301 10).toInt := hO1306
                unfold cb_X4_forStatement_279
                refine WP.bind (cs_X5_leave hfu F1306 G1306 hI1306) ?_
                rintro r1309 F1309 G1309 ⟨hI1309, hB1309, hT1309, hO1309, hp1309⟩
                dsimp only
                have q_1310 := hI1309.r 10 rfl
                have e_1311 : (F1309 10).toInt = (F1306 10).toInt := hO1309
                unfold cb_X4_forStatement_286
                have q_1312 := i_rng (F2 30)
                have j_1313 : CI (fup F1309 30 (F2 30)) G1309 := CI.fr rfl hI1309
                unfold cb_X4_forStatement_291
                have q_1314 := i_rng (F2 31)
                have j_1315 : CI (fup (fup F1309 30 (F2 30)) 31 (F2 31)) G1309 := CI.fr rfl j_1313
                unfold cb_X4_forStatement_296
                refine WP.bind (cs_X2_closes hfu (fup (fup F1309 30 (F2 30)) 31 (F2 31)) G1309 j_1315 (show 1 ≤ (F1309 10).toInt by omega)) ?_
                rintro r1316 F1316 G1316 ⟨hI1316, hB1316, hT1316, hp1316⟩
                dsimp only
                have q_1317 := hI1316.r 10 rfl
                have e_1318 : (F1316 10).toInt = (F1309 10).toInt - 1 := hp1316
                unfold cb_X4_forStatement_303
                refine WP.ret ?_
                exact ⟨hI1316, (KB.tr (KB.f (by decide) (KB.f (by decide) (KB.tr (KB.tr (KB.tr (KB.tr (KB.tr (KB.tr (KB.tr (KB.tr (KB.tr (KB.tr (KB.tr (KB.tr (KB.tr (KB.tr (KB.tr (KB.tr (KB.rf : KB F G F G) hB2) hB13) hB17) hB1208) hB1214) hB1219) hB1274) hB1278) hB1281) hB1286) hB1289) hB1293) hB1297) hB1301) hB1306) hB1309))) hB1316), (KT.tr (KT.f (by decide) (KT.f (by decide) (KT.tr (KT.tr (KT.tr (KT.tr (KT.tr (KT.tr (KT.tr (KT.tr (KT.tr (KT.tr (KT.tr (KT.tr (KT.tr (KT.tr (KT.tr (KT.tr (rfl : KT F F) hT2) hT13) hT17) hT1208) hT1214) hT1219) hT1274) hT1278) hT1281) hT1286) hT1289) hT1293) hT1297) hT1301) hT1306) hT1309))) hT1316), (show (F1316 10).toInt = (F 10).toInt by omega), trivial⟩
            · skip
              have q_1319 := i_rng (F1208 11)
              have e_1320 := mt i_eq.mpr (show ¬ ((F1208 11) = (26 : Int32)) from c_1211)
              unfold cb_X4_forStatement_116
              refine WP.bind (cs_X3_expression hfu F1208 G1208 hI1208) ?_
              rintro r1321 F1321 G1321 ⟨hI1321, hB1321, hT1321, hO1321, hp1321⟩
              dsimp only
              have q_1322 := hI1321.r 10 rfl
              have e_1323 : (F1321 10).toInt = (F1208 10).toInt := hO1321
              unfold cb_X4_forStatement_123
              have l_1324 : (86 : Int32).toInt = 86 := rfl
              have l_1325 : (-1 : Int32).toInt = -1 := rfl
              refine WP.bind (cs_X1_addJump hfu (86 : Int32) (-1 : Int32) F1321 G1321 hI1321) ?_
              rintro r1326 F1326 G1326 ⟨hI1326, hB1326, hT1326, hO1326, hp1326⟩
              dsimp only
              have q_1327 := hI1326.r 10 rfl
              have e_1328 : (F1326 10).toInt = (F1321 10).toInt := hO1326
              have q_1329 := hI1321.r 21 rfl
              have q_1330 := hI1326.r 21 rfl
              have e_1331 : (F1326 21).toInt = (F1321 21).toInt := congrArg Int32.toInt hp1326
              unfold cb_X4_forStatement_133
              unfold cb_X4_forStatement_135
              refine WP.bind (cs_X2_expect hfu (26 : Int32) F1326 G1326 hI1326) ?_
              rintro r1332 F1332 G1332 ⟨hI1332, hB1332, hT1332, hO1332, hp1332⟩
              dsimp only
              have q_1333 := hI1332.r 10 rfl
              have e_1334 : (F1332 10).toInt = (F1326 10).toInt := hO1332
              unfold cb_X4_forStatement_144
              have l_1335 : (84 : Int32).toInt = 84 := rfl
              refine WP.bind (cs_X1_addJump hfu (84 : Int32) (-1 : Int32) F1332 G1332 hI1332) ?_
              rintro r1336 F1336 G1336 ⟨hI1336, hB1336, hT1336, hO1336, hp1336⟩
              dsimp only
              have q_1337 := hI1336.r 10 rfl
              have e_1338 : (F1336 10).toInt = (F1332 10).toInt := hO1336
              have q_1339 := hI1332.r 21 rfl
              have q_1340 := hI1336.r 21 rfl
              have e_1341 : (F1336 21).toInt = (F1332 21).toInt := congrArg Int32.toInt hp1336
              unfold cb_X4_forStatement_154
              refine WP.ite (fun c_1342 => ?_) (fun c_1342 => ?_)
              · skip
                have q_1343 := i_rng (F1336 11)
                have l_1344 : (20 : Int32).toInt = 20 := rfl
                have e_1345 := i_eq.mp (show (F1336 11) = (20 : Int32) from c_1342)
                unfold cb_X4_forStatement_181
                have q_1346 := hI1208.r 6 rfl
                refine WP.bind (cs_X1_addPair hfu (84 : Int32) (F1208 6) F1336 G1336 hI1336) ?_
                rintro r1347 F1347 G1347 ⟨hI1347, hB1347, hT1347, hO1347, hp1347⟩
                dsimp only
                have q_1348 := hI1347.r 10 rfl
                have e_1349 : (F1347 10).toInt = (F1336 10).toInt := hO1347
                unfold cb_X4_forStatement_192
                refine WP.bind (cs_X2_closesWith hfu (20 : Int32) F1347 G1347 hI1347 (show 1 ≤ (F1347 10).toInt by omega)) ?_
                rintro r1350 F1350 G1350 ⟨hI1350, hB1350, hT1350, hp1350⟩
                dsimp only
                have q_1351 := hI1350.r 10 rfl
                have e_1352 : (F1350 10).toInt = (F1347 10).toInt - 1 := hp1350
                unfold cb_X4_forStatement_201
                have q_1353 := i_rng r1336
                have q_1354 := hI1350.r 6 rfl
                refine WP.bind (cs_X1_aim hfu r1336 (F1350 6) F1350 G1350 hI1350) ?_
                rintro r1355 F1355 G1355 ⟨hI1355, hB1355, hT1355, hO1355, hp1355⟩
                dsimp only
                have q_1356 := hI1355.r 10 rfl
                have e_1357 : (F1355 10).toInt = (F1350 10).toInt := hO1355
                unfold cb_X4_forStatement_217
                refine WP.bind (ih.2.2.2.2.2.1 F1355 G1355 hI1355 (by omega)) ?_
                rintro r1358 F1358 G1358 ⟨hI1358, hB1358, hT1358, hO1358, hp1358⟩
                dsimp only
                have q_1359 := hI1358.r 10 rfl
                have e_1360 : (F1358 10).toInt = (F1355 10).toInt := hO1358
                unfold cb_X4_forStatement_221
                have q_1361 := hI1336.r 6 rfl
                refine WP.bind (cs_X1_addPair hfu (84 : Int32) (F1336 6) F1358 G1358 hI1358) ?_
                rintro r1362 F1362 G1362 ⟨hI1362, hB1362, hT1362, hO1362, hp1362⟩
                dsimp only
                have q_1363 := hI1362.r 10 rfl
                have e_1364 : (F1362 10).toInt = (F1358 10).toInt := hO1362
                unfold cb_X4_forStatement_232
                have q_1365 := i_rng (F1362 31)
                refine WP.bind (cs_X1_aim hfu (F1362 31) (F1336 6) F1362 G1362 hI1362) ?_
                rintro r1366 F1366 G1366 ⟨hI1366, hB1366, hT1366, hO1366, hp1366⟩
                dsimp only
                have q_1367 := hI1366.r 10 rfl
                have e_1368 : (F1366 10).toInt = (F1362 10).toInt := hO1366
                unfold cb_X4_forStatement_245
                have q_1369 := i_rng r1326
                have q_1370 := hI1366.r 6 rfl
                refine WP.bind (cs_X1_aim hfu r1326 (F1366 6) F1366 G1366 hI1366) ?_
                rintro r1371 F1371 G1371 ⟨hI1371, hB1371, hT1371, hO1371, hp1371⟩
                dsimp only
                have q_1372 := hI1371.r 10 rfl
                have e_1373 : (F1371 10).toInt = (F1366 10).toInt := hO1371
                unfold cb_X4_forStatement_261
                have q_1374 := i_rng (F1371 30)
                have q_1375 := hI1371.r 6 rfl
                refine WP.bind (cs_X1_aim hfu (F1371 30) (F1371 6) F1371 G1371 hI1371) ?_
                rintro r1376 F1376 G1376 ⟨hI1376, hB1376, hT1376, hO1376, hp1376⟩
                dsimp only
                have q_1377 := hI1376.r 10 rfl
                have e_1378 : (F1376 10).toInt = (F1371 10).toInt := hO1376
                unfold cb_X4_forStatement_279
                refine WP.bind (cs_X5_leave hfu F1376 G1376 hI1376) ?_
                rintro r1379 F1379 G1379 ⟨hI1379, hB1379, hT1379, hO1379, hp1379⟩
                dsimp only
                have q_1380 := hI1379.r 10 rfl
                have e_1381 : (F1379 10).toInt = (F1376 10).toInt := hO1379
                unfold cb_X4_forStatement_286
                have q_1382 := i_rng (F2 30)
                have j_1383 : CI (fup F1379 30 (F2 30)) G1379 := CI.fr rfl hI1379
                unfold cb_X4_forStatement_291
                have q_1384 := i_rng (F2 31)
                have j_1385 : CI (fup (fup F1379 30 (F2 30)) 31 (F2 31)) G1379 := CI.fr rfl j_1383
                unfold cb_X4_forStatement_296
                refine WP.bind (cs_X2_closes hfu (fup (fup F1379 30 (F2 30)) 31 (F2 31)) G1379 j_1385 (show 1 ≤ (F1379 10).toInt by omega)) ?_
                rintro r1386 F1386 G1386 ⟨hI1386, hB1386, hT1386, hp1386⟩
                dsimp only
                have q_1387 := hI1386.r 10 rfl
                have e_1388 : (F1386 10).toInt = (F1379 10).toInt - 1 := hp1386
                unfold cb_X4_forStatement_303
                refine WP.ret ?_
                exact ⟨hI1386, (KB.tr (KB.f (by decide) (KB.f (by decide) (KB.tr (KB.tr (KB.tr (KB.tr (KB.tr (KB.tr (KB.tr (KB.tr (KB.tr (KB.tr (KB.tr (KB.tr (KB.tr (KB.tr (KB.tr (KB.tr (KB.tr (KB.rf : KB F G F G) hB2) hB13) hB17) hB1208) hB1321) hB1326) hB1332) hB1336) hB1347) hB1350) hB1355) hB1358) hB1362) hB1366) hB1371) hB1376) hB1379))) hB1386), (KT.tr (KT.f (by decide) (KT.f (by decide) (KT.tr (KT.tr (KT.tr (KT.tr (KT.tr (KT.tr (KT.tr (KT.tr (KT.tr (KT.tr (KT.tr (KT.tr (KT.tr (KT.tr (KT.tr (KT.tr (KT.tr (rfl : KT F F) hT2) hT13) hT17) hT1208) hT1321) hT1326) hT1332) hT1336) hT1347) hT1350) hT1355) hT1358) hT1362) hT1366) hT1371) hT1376) hT1379))) hT1386), (show (F1386 10).toInt = (F 10).toInt by omega), trivial⟩
              · skip
                have q_1389 := i_rng (F1336 11)
                have l_1390 : (20 : Int32).toInt = 20 := rfl
                have e_1391 := mt i_eq.mpr (show ¬ ((F1336 11) = (20 : Int32)) from c_1342)
                unfold cb_X4_forStatement_177
                refine WP.bind (cs_X4_simple hfu F1336 G1336 hI1336) ?_
                rintro r1392 F1392 G1392 ⟨hI1392, hB1392, hT1392, hO1392, hp1392⟩
                dsimp only
                have q_1393 := hI1392.r 10 rfl
                have e_1394 : (F1392 10).toInt = (F1336 10).toInt := hO1392
                unfold cb_X4_forStatement_181
                have q_1395 := hI1208.r 6 rfl
                refine WP.bind (cs_X1_addPair hfu (84 : Int32) (F1208 6) F1392 G1392 hI1392) ?_
                rintro r1396 F1396 G1396 ⟨hI1396, hB1396, hT1396, hO1396, hp1396⟩
                dsimp only
                have q_1397 := hI1396.r 10 rfl
                have e_1398 : (F1396 10).toInt = (F1392 10).toInt := hO1396
                unfold cb_X4_forStatement_192
                refine WP.bind (cs_X2_closesWith hfu (20 : Int32) F1396 G1396 hI1396 (show 1 ≤ (F1396 10).toInt by omega)) ?_
                rintro r1399 F1399 G1399 ⟨hI1399, hB1399, hT1399, hp1399⟩
                dsimp only
                have q_1400 := hI1399.r 10 rfl
                have e_1401 : (F1399 10).toInt = (F1396 10).toInt - 1 := hp1399
                unfold cb_X4_forStatement_201
                have q_1402 := i_rng r1336
                have q_1403 := hI1399.r 6 rfl
                refine WP.bind (cs_X1_aim hfu r1336 (F1399 6) F1399 G1399 hI1399) ?_
                rintro r1404 F1404 G1404 ⟨hI1404, hB1404, hT1404, hO1404, hp1404⟩
                dsimp only
                have q_1405 := hI1404.r 10 rfl
                have e_1406 : (F1404 10).toInt = (F1399 10).toInt := hO1404
                unfold cb_X4_forStatement_217
                refine WP.bind (ih.2.2.2.2.2.1 F1404 G1404 hI1404 (by omega)) ?_
                rintro r1407 F1407 G1407 ⟨hI1407, hB1407, hT1407, hO1407, hp1407⟩
                dsimp only
                have q_1408 := hI1407.r 10 rfl
                have e_1409 : (F1407 10).toInt = (F1404 10).toInt := hO1407
                unfold cb_X4_forStatement_221
                have q_1410 := hI1336.r 6 rfl
                refine WP.bind (cs_X1_addPair hfu (84 : Int32) (F1336 6) F1407 G1407 hI1407) ?_
                rintro r1411 F1411 G1411 ⟨hI1411, hB1411, hT1411, hO1411, hp1411⟩
                dsimp only
                have q_1412 := hI1411.r 10 rfl
                have e_1413 : (F1411 10).toInt = (F1407 10).toInt := hO1411
                unfold cb_X4_forStatement_232
                have q_1414 := i_rng (F1411 31)
                refine WP.bind (cs_X1_aim hfu (F1411 31) (F1336 6) F1411 G1411 hI1411) ?_
                rintro r1415 F1415 G1415 ⟨hI1415, hB1415, hT1415, hO1415, hp1415⟩
                dsimp only
                have q_1416 := hI1415.r 10 rfl
                have e_1417 : (F1415 10).toInt = (F1411 10).toInt := hO1415
                unfold cb_X4_forStatement_245
                have q_1418 := i_rng r1326
                have q_1419 := hI1415.r 6 rfl
                refine WP.bind (cs_X1_aim hfu r1326 (F1415 6) F1415 G1415 hI1415) ?_
                rintro r1420 F1420 G1420 ⟨hI1420, hB1420, hT1420, hO1420, hp1420⟩
                dsimp only
                have q_1421 := hI1420.r 10 rfl
                have e_1422 : (F1420 10).toInt = (F1415 10).toInt := hO1420
                unfold cb_X4_forStatement_261
                have q_1423 := i_rng (F1420 30)
                have q_1424 := hI1420.r 6 rfl
                refine WP.bind (cs_X1_aim hfu (F1420 30) (F1420 6) F1420 G1420 hI1420) ?_
                rintro r1425 F1425 G1425 ⟨hI1425, hB1425, hT1425, hO1425, hp1425⟩
                dsimp only
                have q_1426 := hI1425.r 10 rfl
                have e_1427 : (F1425 10).toInt = (F1420 10).toInt := hO1425
                unfold cb_X4_forStatement_279
                refine WP.bind (cs_X5_leave hfu F1425 G1425 hI1425) ?_
                rintro r1428 F1428 G1428 ⟨hI1428, hB1428, hT1428, hO1428, hp1428⟩
                dsimp only
                have q_1429 := hI1428.r 10 rfl
                have e_1430 : (F1428 10).toInt = (F1425 10).toInt := hO1428
                unfold cb_X4_forStatement_286
                have q_1431 := i_rng (F2 30)
                have j_1432 : CI (fup F1428 30 (F2 30)) G1428 := CI.fr rfl hI1428
                unfold cb_X4_forStatement_291
                have q_1433 := i_rng (F2 31)
                have j_1434 : CI (fup (fup F1428 30 (F2 30)) 31 (F2 31)) G1428 := CI.fr rfl j_1432
                unfold cb_X4_forStatement_296
                refine WP.bind (cs_X2_closes hfu (fup (fup F1428 30 (F2 30)) 31 (F2 31)) G1428 j_1434 (show 1 ≤ (F1428 10).toInt by omega)) ?_
                rintro r1435 F1435 G1435 ⟨hI1435, hB1435, hT1435, hp1435⟩
                dsimp only
                have q_1436 := hI1435.r 10 rfl
                have e_1437 : (F1435 10).toInt = (F1428 10).toInt - 1 := hp1435
                unfold cb_X4_forStatement_303
                refine WP.ret ?_
                exact ⟨hI1435, (KB.tr (KB.f (by decide) (KB.f (by decide) (KB.tr (KB.tr (KB.tr (KB.tr (KB.tr (KB.tr (KB.tr (KB.tr (KB.tr (KB.tr (KB.tr (KB.tr (KB.tr (KB.tr (KB.tr (KB.tr (KB.tr (KB.tr (KB.rf : KB F G F G) hB2) hB13) hB17) hB1208) hB1321) hB1326) hB1332) hB1336) hB1392) hB1396) hB1399) hB1404) hB1407) hB1411) hB1415) hB1420) hB1425) hB1428))) hB1435), (KT.tr (KT.f (by decide) (KT.f (by decide) (KT.tr (KT.tr (KT.tr (KT.tr (KT.tr (KT.tr (KT.tr (KT.tr (KT.tr (KT.tr (KT.tr (KT.tr (KT.tr (KT.tr (KT.tr (KT.tr (KT.tr (KT.tr (rfl : KT F F) hT2) hT13) hT17) hT1208) hT1321) hT1326) hT1332) hT1336) hT1392) hT1396) hT1399) hT1404) hT1407) hT1411) hT1415) hT1420) hT1425) hT1428))) hT1435), (show (F1435 10).toInt = (F 10).toInt by omega), trivial⟩
          · skip
            have l_1438 : (26 : Int32).toInt = 26 := rfl
            have e_1439 := mt i_eq.mpr (show ¬ ((F17 11) = (26 : Int32)) from c_1205)
            unfold cb_X4_forStatement_79
            refine WP.bind (cs_X4_simple hfu F17 G17 hI17) ?_
            rintro r1440 F1440 G1440 ⟨hI1440, hB1440, hT1440, hO1440, hp1440⟩
            dsimp only
            have q_1441 := hI1440.r 10 rfl
            have e_1442 : (F1440 10).toInt = (F17 10).toInt := hO1440
            unfold cb_X4_forStatement_83
            refine WP.bind (cs_X2_expect hfu (26 : Int32) F1440 G1440 hI1440) ?_
            rintro r1443 F1443 G1443 ⟨hI1443, hB1443, hT1443, hO1443, hp1443⟩
            dsimp only
            have q_1444 := hI1443.r 10 rfl
            have e_1445 : (F1443 10).toInt = (F1440 10).toInt := hO1443
            unfold cb_X4_forStatement_92
            refine WP.ite (fun c_1446 => ?_) (fun c_1446 => ?_)
            · skip
              have q_1447 := i_rng (F1443 11)
              have e_1448 := i_eq.mp (show (F1443 11) = (26 : Int32) from c_1446)
              unfold cb_X4_forStatement_135
              refine WP.bind (cs_X2_expect hfu (26 : Int32) F1443 G1443 hI1443) ?_
              rintro r1449 F1449 G1449 ⟨hI1449, hB1449, hT1449, hO1449, hp1449⟩
              dsimp only
              have q_1450 := hI1449.r 10 rfl
              have e_1451 : (F1449 10).toInt = (F1443 10).toInt := hO1449
              unfold cb_X4_forStatement_144
              have l_1452 : (84 : Int32).toInt = 84 := rfl
              have l_1453 : (-1 : Int32).toInt = -1 := rfl
              refine WP.bind (cs_X1_addJump hfu (84 : Int32) (-1 : Int32) F1449 G1449 hI1449) ?_
              rintro r1454 F1454 G1454 ⟨hI1454, hB1454, hT1454, hO1454, hp1454⟩
              dsimp only
              have q_1455 := hI1454.r 10 rfl
              have e_1456 : (F1454 10).toInt = (F1449 10).toInt := hO1454
              have q_1457 := hI1449.r 21 rfl
              have q_1458 := hI1454.r 21 rfl
              have e_1459 : (F1454 21).toInt = (F1449 21).toInt := congrArg Int32.toInt hp1454
              unfold cb_X4_forStatement_154
              refine WP.ite (fun c_1460 => ?_) (fun c_1460 => ?_)
              · skip
                have q_1461 := i_rng (F1454 11)
                have l_1462 : (20 : Int32).toInt = 20 := rfl
                have e_1463 := i_eq.mp (show (F1454 11) = (20 : Int32) from c_1460)
                unfold cb_X4_forStatement_181
                have q_1464 := hI1443.r 6 rfl
                refine WP.bind (cs_X1_addPair hfu (84 : Int32) (F1443 6) F1454 G1454 hI1454) ?_
                rintro r1465 F1465 G1465 ⟨hI1465, hB1465, hT1465, hO1465, hp1465⟩
                dsimp only
                have q_1466 := hI1465.r 10 rfl
                have e_1467 : (F1465 10).toInt = (F1454 10).toInt := hO1465
                unfold cb_X4_forStatement_192
                refine WP.bind (cs_X2_closesWith hfu (20 : Int32) F1465 G1465 hI1465 (show 1 ≤ (F1465 10).toInt by omega)) ?_
                rintro r1468 F1468 G1468 ⟨hI1468, hB1468, hT1468, hp1468⟩
                dsimp only
                have q_1469 := hI1468.r 10 rfl
                have e_1470 : (F1468 10).toInt = (F1465 10).toInt - 1 := hp1468
                unfold cb_X4_forStatement_201
                have q_1471 := i_rng r1454
                have q_1472 := hI1468.r 6 rfl
                refine WP.bind (cs_X1_aim hfu r1454 (F1468 6) F1468 G1468 hI1468) ?_
                rintro r1473 F1473 G1473 ⟨hI1473, hB1473, hT1473, hO1473, hp1473⟩
                dsimp only
                have q_1474 := hI1473.r 10 rfl
                have e_1475 : (F1473 10).toInt = (F1468 10).toInt := hO1473
                unfold cb_X4_forStatement_217
                refine WP.bind (ih.2.2.2.2.2.1 F1473 G1473 hI1473 (by omega)) ?_
                rintro r1476 F1476 G1476 ⟨hI1476, hB1476, hT1476, hO1476, hp1476⟩
                dsimp only
                have q_1477 := hI1476.r 10 rfl
                have e_1478 : (F1476 10).toInt = (F1473 10).toInt := hO1476
                unfold cb_X4_forStatement_221
                have q_1479 := hI1454.r 6 rfl
                refine WP.bind (cs_X1_addPair hfu (84 : Int32) (F1454 6) F1476 G1476 hI1476) ?_
                rintro r1480 F1480 G1480 ⟨hI1480, hB1480, hT1480, hO1480, hp1480⟩
                dsimp only
                have q_1481 := hI1480.r 10 rfl
                have e_1482 : (F1480 10).toInt = (F1476 10).toInt := hO1480
                unfold cb_X4_forStatement_232
                have q_1483 := i_rng (F1480 31)
                refine WP.bind (cs_X1_aim hfu (F1480 31) (F1454 6) F1480 G1480 hI1480) ?_
                rintro r1484 F1484 G1484 ⟨hI1484, hB1484, hT1484, hO1484, hp1484⟩
                dsimp only
                have q_1485 := hI1484.r 10 rfl
                have e_1486 : (F1484 10).toInt = (F1480 10).toInt := hO1484
                unfold cb_X4_forStatement_245
                have q_1487 := hI1484.r 6 rfl
                refine WP.bind (cs_X1_aim hfu (-1 : Int32) (F1484 6) F1484 G1484 hI1484) ?_
                rintro r1488 F1488 G1488 ⟨hI1488, hB1488, hT1488, hO1488, hp1488⟩
                dsimp only
                have q_1489 := hI1488.r 10 rfl
                have e_1490 : (F1488 10).toInt = (F1484 10).toInt := hO1488
                unfold cb_X4_forStatement_261
                have q_1491 := i_rng (F1488 30)
                have q_1492 := hI1488.r 6 rfl
                refine WP.bind (cs_X1_aim hfu (F1488 30) (F1488 6) F1488 G1488 hI1488) ?_
                rintro r1493 F1493 G1493 ⟨hI1493, hB1493, hT1493, hO1493, hp1493⟩
                dsimp only
                have q_1494 := hI1493.r 10 rfl
                have e_1495 : (F1493 10).toInt = (F1488 10).toInt := hO1493
                unfold cb_X4_forStatement_279
                refine WP.bind (cs_X5_leave hfu F1493 G1493 hI1493) ?_
                rintro r1496 F1496 G1496 ⟨hI1496, hB1496, hT1496, hO1496, hp1496⟩
                dsimp only
                have q_1497 := hI1496.r 10 rfl
                have e_1498 : (F1496 10).toInt = (F1493 10).toInt := hO1496
                unfold cb_X4_forStatement_286
                have q_1499 := i_rng (F2 30)
                have j_1500 : CI (fup F1496 30 (F2 30)) G1496 := CI.fr rfl hI1496
                unfold cb_X4_forStatement_291
                have q_1501 := i_rng (F2 31)
                have j_1502 : CI (fup (fup F1496 30 (F2 30)) 31 (F2 31)) G1496 := CI.fr rfl j_1500
                unfold cb_X4_forStatement_296
                refine WP.bind (cs_X2_closes hfu (fup (fup F1496 30 (F2 30)) 31 (F2 31)) G1496 j_1502 (show 1 ≤ (F1496 10).toInt by omega)) ?_
                rintro r1503 F1503 G1503 ⟨hI1503, hB1503, hT1503, hp1503⟩
                dsimp only
                have q_1504 := hI1503.r 10 rfl
                have e_1505 : (F1503 10).toInt = (F1496 10).toInt - 1 := hp1503
                unfold cb_X4_forStatement_303
                refine WP.ret ?_
                exact ⟨hI1503, (KB.tr (KB.f (by decide) (KB.f (by decide) (KB.tr (KB.tr (KB.tr (KB.tr (KB.tr (KB.tr (KB.tr (KB.tr (KB.tr (KB.tr (KB.tr (KB.tr (KB.tr (KB.tr (KB.tr (KB.tr (KB.rf : KB F G F G) hB2) hB13) hB17) hB1440) hB1443) hB1449) hB1454) hB1465) hB1468) hB1473) hB1476) hB1480) hB1484) hB1488) hB1493) hB1496))) hB1503), (KT.tr (KT.f (by decide) (KT.f (by decide) (KT.tr (KT.tr (KT.tr (KT.tr (KT.tr (KT.tr (KT.tr (KT.tr (KT.tr (KT.tr (KT.tr (KT.tr (KT.tr (KT.tr (KT.tr (KT.tr (rfl : KT F F) hT2) hT13) hT17) hT1440) hT1443) hT1449) hT1454) hT1465) hT1468) hT1473) hT1476) hT1480) hT1484) hT1488) hT1493) hT1496))) hT1503), (show (F1503 10).toInt = (F 10).toInt by omega), trivial⟩
              · skip
                have q_1506 := i_rng (F1454 11)
                have l_1507 : (20 : Int32).toInt = 20 := rfl
                have e_1508 := mt i_eq.mpr (show ¬ ((F1454 11) = (20 : Int32)) from c_1460)
                unfold cb_X4_forStatement_177
                refine WP.bind (cs_X4_simple hfu F1454 G1454 hI1454) ?_
                rintro r1509 F1509 G1509 ⟨hI1509, hB1509, hT1509, hO1509, hp1509⟩
                dsimp only
                have q_1510 := hI1509.r 10 rfl
                have e_1511 : (F1509 10).toInt = (F1454 10).toInt := hO1509
                unfold cb_X4_forStatement_181
                have q_1512 := hI1443.r 6 rfl
                refine WP.bind (cs_X1_addPair hfu (84 : Int32) (F1443 6) F1509 G1509 hI1509) ?_
                rintro r1513 F1513 G1513 ⟨hI1513, hB1513, hT1513, hO1513, hp1513⟩
                dsimp only
                have q_1514 := hI1513.r 10 rfl
                have e_1515 : (F1513 10).toInt = (F1509 10).toInt := hO1513
                unfold cb_X4_forStatement_192
                refine WP.bind (cs_X2_closesWith hfu (20 : Int32) F1513 G1513 hI1513 (show 1 ≤ (F1513 10).toInt by omega)) ?_
                rintro r1516 F1516 G1516 ⟨hI1516, hB1516, hT1516, hp1516⟩
                dsimp only
                have q_1517 := hI1516.r 10 rfl
                have e_1518 : (F1516 10).toInt = (F1513 10).toInt - 1 := hp1516
                unfold cb_X4_forStatement_201
                have q_1519 := i_rng r1454
                have q_1520 := hI1516.r 6 rfl
                refine WP.bind (cs_X1_aim hfu r1454 (F1516 6) F1516 G1516 hI1516) ?_
                rintro r1521 F1521 G1521 ⟨hI1521, hB1521, hT1521, hO1521, hp1521⟩
                dsimp only
                have q_1522 := hI1521.r 10 rfl
                have e_1523 : (F1521 10).toInt = (F1516 10).toInt := hO1521
                unfold cb_X4_forStatement_217
                refine WP.bind (ih.2.2.2.2.2.1 F1521 G1521 hI1521 (by omega)) ?_
                rintro r1524 F1524 G1524 ⟨hI1524, hB1524, hT1524, hO1524, hp1524⟩
                dsimp only
                have q_1525 := hI1524.r 10 rfl
                have e_1526 : (F1524 10).toInt = (F1521 10).toInt := hO1524
                unfold cb_X4_forStatement_221
                have q_1527 := hI1454.r 6 rfl
                refine WP.bind (cs_X1_addPair hfu (84 : Int32) (F1454 6) F1524 G1524 hI1524) ?_
                rintro r1528 F1528 G1528 ⟨hI1528, hB1528, hT1528, hO1528, hp1528⟩
                dsimp only
                have q_1529 := hI1528.r 10 rfl
                have e_1530 : (F1528 10).toInt = (F1524 10).toInt := hO1528
                unfold cb_X4_forStatement_232
                have q_1531 := i_rng (F1528 31)
                refine WP.bind (cs_X1_aim hfu (F1528 31) (F1454 6) F1528 G1528 hI1528) ?_
                rintro r1532 F1532 G1532 ⟨hI1532, hB1532, hT1532, hO1532, hp1532⟩
                dsimp only
                have q_1533 := hI1532.r 10 rfl
                have e_1534 : (F1532 10).toInt = (F1528 10).toInt := hO1532
                unfold cb_X4_forStatement_245
                have q_1535 := hI1532.r 6 rfl
                refine WP.bind (cs_X1_aim hfu (-1 : Int32) (F1532 6) F1532 G1532 hI1532) ?_
                rintro r1536 F1536 G1536 ⟨hI1536, hB1536, hT1536, hO1536, hp1536⟩
                dsimp only
                have q_1537 := hI1536.r 10 rfl
                have e_1538 : (F1536 10).toInt = (F1532 10).toInt := hO1536
                unfold cb_X4_forStatement_261
                have q_1539 := i_rng (F1536 30)
                have q_1540 := hI1536.r 6 rfl
                refine WP.bind (cs_X1_aim hfu (F1536 30) (F1536 6) F1536 G1536 hI1536) ?_
                rintro r1541 F1541 G1541 ⟨hI1541, hB1541, hT1541, hO1541, hp1541⟩
                dsimp only
                have q_1542 := hI1541.r 10 rfl
                have e_1543 : (F1541 10).toInt = (F1536 10).toInt := hO1541
                unfold cb_X4_forStatement_279
                refine WP.bind (cs_X5_leave hfu F1541 G1541 hI1541) ?_
                rintro r1544 F1544 G1544 ⟨hI1544, hB1544, hT1544, hO1544, hp1544⟩
                dsimp only
                have q_1545 := hI1544.r 10 rfl
                have e_1546 : (F1544 10).toInt = (F1541 10).toInt := hO1544
                unfold cb_X4_forStatement_286
                have q_1547 := i_rng (F2 30)
                have j_1548 : CI (fup F1544 30 (F2 30)) G1544 := CI.fr rfl hI1544
                unfold cb_X4_forStatement_291
                have q_1549 := i_rng (F2 31)
                have j_1550 : CI (fup (fup F1544 30 (F2 30)) 31 (F2 31)) G1544 := CI.fr rfl j_1548
                unfold cb_X4_forStatement_296
                refine WP.bind (cs_X2_closes hfu (fup (fup F1544 30 (F2 30)) 31 (F2 31)) G1544 j_1550 (show 1 ≤ (F1544 10).toInt by omega)) ?_
                rintro r1551 F1551 G1551 ⟨hI1551, hB1551, hT1551, hp1551⟩
                dsimp only
                have q_1552 := hI1551.r 10 rfl
                have e_1553 : (F1551 10).toInt = (F1544 10).toInt - 1 := hp1551
                unfold cb_X4_forStatement_303
                refine WP.ret ?_
                exact ⟨hI1551, (KB.tr (KB.f (by decide) (KB.f (by decide) (KB.tr (KB.tr (KB.tr (KB.tr (KB.tr (KB.tr (KB.tr (KB.tr (KB.tr (KB.tr (KB.tr (KB.tr (KB.tr (KB.tr (KB.tr (KB.tr (KB.tr (KB.rf : KB F G F G) hB2) hB13) hB17) hB1440) hB1443) hB1449) hB1454) hB1509) hB1513) hB1516) hB1521) hB1524) hB1528) hB1532) hB1536) hB1541) hB1544))) hB1551), (KT.tr (KT.f (by decide) (KT.f (by decide) (KT.tr (KT.tr (KT.tr (KT.tr (KT.tr (KT.tr (KT.tr (KT.tr (KT.tr (KT.tr (KT.tr (KT.tr (KT.tr (KT.tr (KT.tr (KT.tr (KT.tr (rfl : KT F F) hT2) hT13) hT17) hT1440) hT1443) hT1449) hT1454) hT1509) hT1513) hT1516) hT1521) hT1524) hT1528) hT1532) hT1536) hT1541) hT1544))) hT1551), (show (F1551 10).toInt = (F 10).toInt by omega), trivial⟩
            · skip
              have q_1554 := i_rng (F1443 11)
              have e_1555 := mt i_eq.mpr (show ¬ ((F1443 11) = (26 : Int32)) from c_1446)
              unfold cb_X4_forStatement_116
              refine WP.bind (cs_X3_expression hfu F1443 G1443 hI1443) ?_
              rintro r1556 F1556 G1556 ⟨hI1556, hB1556, hT1556, hO1556, hp1556⟩
              dsimp only
              have q_1557 := hI1556.r 10 rfl
              have e_1558 : (F1556 10).toInt = (F1443 10).toInt := hO1556
              unfold cb_X4_forStatement_123
              have l_1559 : (86 : Int32).toInt = 86 := rfl
              have l_1560 : (-1 : Int32).toInt = -1 := rfl
              refine WP.bind (cs_X1_addJump hfu (86 : Int32) (-1 : Int32) F1556 G1556 hI1556) ?_
              rintro r1561 F1561 G1561 ⟨hI1561, hB1561, hT1561, hO1561, hp1561⟩
              dsimp only
              have q_1562 := hI1561.r 10 rfl
              have e_1563 : (F1561 10).toInt = (F1556 10).toInt := hO1561
              have q_1564 := hI1556.r 21 rfl
              have q_1565 := hI1561.r 21 rfl
              have e_1566 : (F1561 21).toInt = (F1556 21).toInt := congrArg Int32.toInt hp1561
              unfold cb_X4_forStatement_133
              unfold cb_X4_forStatement_135
              refine WP.bind (cs_X2_expect hfu (26 : Int32) F1561 G1561 hI1561) ?_
              rintro r1567 F1567 G1567 ⟨hI1567, hB1567, hT1567, hO1567, hp1567⟩
              dsimp only
              have q_1568 := hI1567.r 10 rfl
              have e_1569 : (F1567 10).toInt = (F1561 10).toInt := hO1567
              unfold cb_X4_forStatement_144
              have l_1570 : (84 : Int32).toInt = 84 := rfl
              refine WP.bind (cs_X1_addJump hfu (84 : Int32) (-1 : Int32) F1567 G1567 hI1567) ?_
              rintro r1571 F1571 G1571 ⟨hI1571, hB1571, hT1571, hO1571, hp1571⟩
              dsimp only
              have q_1572 := hI1571.r 10 rfl
              have e_1573 : (F1571 10).toInt = (F1567 10).toInt := hO1571
              have q_1574 := hI1567.r 21 rfl
              have q_1575 := hI1571.r 21 rfl
              have e_1576 : (F1571 21).toInt = (F1567 21).toInt := congrArg Int32.toInt hp1571
              unfold cb_X4_forStatement_154
              refine WP.ite (fun c_1577 => ?_) (fun c_1577 => ?_)
              · skip
                have q_1578 := i_rng (F1571 11)
                have l_1579 : (20 : Int32).toInt = 20 := rfl
                have e_1580 := i_eq.mp (show (F1571 11) = (20 : Int32) from c_1577)
                unfold cb_X4_forStatement_181
                have q_1581 := hI1443.r 6 rfl
                refine WP.bind (cs_X1_addPair hfu (84 : Int32) (F1443 6) F1571 G1571 hI1571) ?_
                rintro r1582 F1582 G1582 ⟨hI1582, hB1582, hT1582, hO1582, hp1582⟩
                dsimp only
                have q_1583 := hI1582.r 10 rfl
                have e_1584 : (F1582 10).toInt = (F1571 10).toInt := hO1582
                unfold cb_X4_forStatement_192
                refine WP.bind (cs_X2_closesWith hfu (20 : Int32) F1582 G1582 hI1582 (show 1 ≤ (F1582 10).toInt by omega)) ?_
                rintro r1585 F1585 G1585 ⟨hI1585, hB1585, hT1585, hp1585⟩
                dsimp only
                have q_1586 := hI1585.r 10 rfl
                have e_1587 : (F1585 10).toInt = (F1582 10).toInt - 1 := hp1585
                unfold cb_X4_forStatement_201
                have q_1588 := i_rng r1571
                have q_1589 := hI1585.r 6 rfl
                refine WP.bind (cs_X1_aim hfu r1571 (F1585 6) F1585 G1585 hI1585) ?_
                rintro r1590 F1590 G1590 ⟨hI1590, hB1590, hT1590, hO1590, hp1590⟩
                dsimp only
                have q_1591 := hI1590.r 10 rfl
                have e_1592 : (F1590 10).toInt = (F1585 10).toInt := hO1590
                unfold cb_X4_forStatement_217
                refine WP.bind (ih.2.2.2.2.2.1 F1590 G1590 hI1590 (by omega)) ?_
                rintro r1593 F1593 G1593 ⟨hI1593, hB1593, hT1593, hO1593, hp1593⟩
                dsimp only
                have q_1594 := hI1593.r 10 rfl
                have e_1595 : (F1593 10).toInt = (F1590 10).toInt := hO1593
                unfold cb_X4_forStatement_221
                have q_1596 := hI1571.r 6 rfl
                refine WP.bind (cs_X1_addPair hfu (84 : Int32) (F1571 6) F1593 G1593 hI1593) ?_
                rintro r1597 F1597 G1597 ⟨hI1597, hB1597, hT1597, hO1597, hp1597⟩
                dsimp only
                have q_1598 := hI1597.r 10 rfl
                have e_1599 : (F1597 10).toInt = (F1593 10).toInt := hO1597
                unfold cb_X4_forStatement_232
                have q_1600 := i_rng (F1597 31)
                refine WP.bind (cs_X1_aim hfu (F1597 31) (F1571 6) F1597 G1597 hI1597) ?_
                rintro r1601 F1601 G1601 ⟨hI1601, hB1601, hT1601, hO1601, hp1601⟩
                dsimp only
                have q_1602 := hI1601.r 10 rfl
                have e_1603 : (F1601 10).toInt = (F1597 10).toInt := hO1601
                unfold cb_X4_forStatement_245
                have q_1604 := i_rng r1561
                have q_1605 := hI1601.r 6 rfl
                refine WP.bind (cs_X1_aim hfu r1561 (F1601 6) F1601 G1601 hI1601) ?_
                rintro r1606 F1606 G1606 ⟨hI1606, hB1606, hT1606, hO1606, hp1606⟩
                dsimp only
                have q_1607 := hI1606.r 10 rfl
                have e_1608 : (F1606 10).toInt = (F1601 10).toInt := hO1606
                unfold cb_X4_forStatement_261
                have q_1609 := i_rng (F1606 30)
                have q_1610 := hI1606.r 6 rfl
                refine WP.bind (cs_X1_aim hfu (F1606 30) (F1606 6) F1606 G1606 hI1606) ?_
                rintro r1611 F1611 G1611 ⟨hI1611, hB1611, hT1611, hO1611, hp1611⟩
                dsimp only
                have q_1612 := hI1611.r 10 rfl
                have e_1613 : (F1611 10).toInt = (F1606 10).toInt := hO1611
                unfold cb_X4_forStatement_279
                refine WP.bind (cs_X5_leave hfu F1611 G1611 hI1611) ?_
                rintro r1614 F1614 G1614 ⟨hI1614, hB1614, hT1614, hO1614, hp1614⟩
                dsimp only
                have q_1615 := hI1614.r 10 rfl
                have e_1616 : (F1614 10).toInt = (F1611 10).toInt := hO1614
                unfold cb_X4_forStatement_286
                have q_1617 := i_rng (F2 30)
                have j_1618 : CI (fup F1614 30 (F2 30)) G1614 := CI.fr rfl hI1614
                unfold cb_X4_forStatement_291
                have q_1619 := i_rng (F2 31)
                have j_1620 : CI (fup (fup F1614 30 (F2 30)) 31 (F2 31)) G1614 := CI.fr rfl j_1618
                unfold cb_X4_forStatement_296
                refine WP.bind (cs_X2_closes hfu (fup (fup F1614 30 (F2 30)) 31 (F2 31)) G1614 j_1620 (show 1 ≤ (F1614 10).toInt by omega)) ?_
                rintro r1621 F1621 G1621 ⟨hI1621, hB1621, hT1621, hp1621⟩
                dsimp only
                have q_1622 := hI1621.r 10 rfl
                have e_1623 : (F1621 10).toInt = (F1614 10).toInt - 1 := hp1621
                unfold cb_X4_forStatement_303
                refine WP.ret ?_
                exact ⟨hI1621, (KB.tr (KB.f (by decide) (KB.f (by decide) (KB.tr (KB.tr (KB.tr (KB.tr (KB.tr (KB.tr (KB.tr (KB.tr (KB.tr (KB.tr (KB.tr (KB.tr (KB.tr (KB.tr (KB.tr (KB.tr (KB.tr (KB.tr (KB.rf : KB F G F G) hB2) hB13) hB17) hB1440) hB1443) hB1556) hB1561) hB1567) hB1571) hB1582) hB1585) hB1590) hB1593) hB1597) hB1601) hB1606) hB1611) hB1614))) hB1621), (KT.tr (KT.f (by decide) (KT.f (by decide) (KT.tr (KT.tr (KT.tr (KT.tr (KT.tr (KT.tr (KT.tr (KT.tr (KT.tr (KT.tr (KT.tr (KT.tr (KT.tr (KT.tr (KT.tr (KT.tr (KT.tr (KT.tr (rfl : KT F F) hT2) hT13) hT17) hT1440) hT1443) hT1556) hT1561) hT1567) hT1571) hT1582) hT1585) hT1590) hT1593) hT1597) hT1601) hT1606) hT1611) hT1614))) hT1621), (show (F1621 10).toInt = (F 10).toInt by omega), trivial⟩
              · skip
                have q_1624 := i_rng (F1571 11)
                have l_1625 : (20 : Int32).toInt = 20 := rfl
                have e_1626 := mt i_eq.mpr (show ¬ ((F1571 11) = (20 : Int32)) from c_1577)
                unfold cb_X4_forStatement_177
                refine WP.bind (cs_X4_simple hfu F1571 G1571 hI1571) ?_
                rintro r1627 F1627 G1627 ⟨hI1627, hB1627, hT1627, hO1627, hp1627⟩
                dsimp only
                have q_1628 := hI1627.r 10 rfl
                have e_1629 : (F1627 10).toInt = (F1571 10).toInt := hO1627
                unfold cb_X4_forStatement_181
                have q_1630 := hI1443.r 6 rfl
                refine WP.bind (cs_X1_addPair hfu (84 : Int32) (F1443 6) F1627 G1627 hI1627) ?_
                rintro r1631 F1631 G1631 ⟨hI1631, hB1631, hT1631, hO1631, hp1631⟩
                dsimp only
                have q_1632 := hI1631.r 10 rfl
                have e_1633 : (F1631 10).toInt = (F1627 10).toInt := hO1631
                unfold cb_X4_forStatement_192
                refine WP.bind (cs_X2_closesWith hfu (20 : Int32) F1631 G1631 hI1631 (show 1 ≤ (F1631 10).toInt by omega)) ?_
                rintro r1634 F1634 G1634 ⟨hI1634, hB1634, hT1634, hp1634⟩
                dsimp only
                have q_1635 := hI1634.r 10 rfl
                have e_1636 : (F1634 10).toInt = (F1631 10).toInt - 1 := hp1634
                unfold cb_X4_forStatement_201
                have q_1637 := i_rng r1571
                have q_1638 := hI1634.r 6 rfl
                refine WP.bind (cs_X1_aim hfu r1571 (F1634 6) F1634 G1634 hI1634) ?_
                rintro r1639 F1639 G1639 ⟨hI1639, hB1639, hT1639, hO1639, hp1639⟩
                dsimp only
                have q_1640 := hI1639.r 10 rfl
                have e_1641 : (F1639 10).toInt = (F1634 10).toInt := hO1639
                unfold cb_X4_forStatement_217
                refine WP.bind (ih.2.2.2.2.2.1 F1639 G1639 hI1639 (by omega)) ?_
                rintro r1642 F1642 G1642 ⟨hI1642, hB1642, hT1642, hO1642, hp1642⟩
                dsimp only
                have q_1643 := hI1642.r 10 rfl
                have e_1644 : (F1642 10).toInt = (F1639 10).toInt := hO1642
                unfold cb_X4_forStatement_221
                have q_1645 := hI1571.r 6 rfl
                refine WP.bind (cs_X1_addPair hfu (84 : Int32) (F1571 6) F1642 G1642 hI1642) ?_
                rintro r1646 F1646 G1646 ⟨hI1646, hB1646, hT1646, hO1646, hp1646⟩
                dsimp only
                have q_1647 := hI1646.r 10 rfl
                have e_1648 : (F1646 10).toInt = (F1642 10).toInt := hO1646
                unfold cb_X4_forStatement_232
                have q_1649 := i_rng (F1646 31)
                refine WP.bind (cs_X1_aim hfu (F1646 31) (F1571 6) F1646 G1646 hI1646) ?_
                rintro r1650 F1650 G1650 ⟨hI1650, hB1650, hT1650, hO1650, hp1650⟩
                dsimp only
                have q_1651 := hI1650.r 10 rfl
                have e_1652 : (F1650 10).toInt = (F1646 10).toInt := hO1650
                unfold cb_X4_forStatement_245
                have q_1653 := i_rng r1561
                have q_1654 := hI1650.r 6 rfl
                refine WP.bind (cs_X1_aim hfu r1561 (F1650 6) F1650 G1650 hI1650) ?_
                rintro r1655 F1655 G1655 ⟨hI1655, hB1655, hT1655, hO1655, hp1655⟩
                dsimp only
                have q_1656 := hI1655.r 10 rfl
                have e_1657 : (F1655 10).toInt = (F1650 10).toInt := hO1655
                unfold cb_X4_forStatement_261
                have q_1658 := i_rng (F1655 30)
                have q_1659 := hI1655.r 6 rfl
                refine WP.bind (cs_X1_aim hfu (F1655 30) (F1655 6) F1655 G1655 hI1655) ?_
                rintro r1660 F1660 G1660 ⟨hI1660, hB1660, hT1660, hO1660, hp1660⟩
                dsimp only
                have q_1661 := hI1660.r 10 rfl
                have e_1662 : (F1660 10).toInt = (F1655 10).toInt := hO1660
                unfold cb_X4_forStatement_279
                refine WP.bind (cs_X5_leave hfu F1660 G1660 hI1660) ?_
                rintro r1663 F1663 G1663 ⟨hI1663, hB1663, hT1663, hO1663, hp1663⟩
                dsimp only
                have q_1664 := hI1663.r 10 rfl
                have e_1665 : (F1663 10).toInt = (F1660 10).toInt := hO1663
                unfold cb_X4_forStatement_286
                have q_1666 := i_rng (F2 30)
                have j_1667 : CI (fup F1663 30 (F2 30)) G1663 := CI.fr rfl hI1663
                unfold cb_X4_forStatement_291
                have q_1668 := i_rng (F2 31)
                have j_1669 : CI (fup (fup F1663 30 (F2 30)) 31 (F2 31)) G1663 := CI.fr rfl j_1667
                unfold cb_X4_forStatement_296
                refine WP.bind (cs_X2_closes hfu (fup (fup F1663 30 (F2 30)) 31 (F2 31)) G1663 j_1669 (show 1 ≤ (F1663 10).toInt by omega)) ?_
                rintro r1670 F1670 G1670 ⟨hI1670, hB1670, hT1670, hp1670⟩
                dsimp only
                have q_1671 := hI1670.r 10 rfl
                have e_1672 : (F1670 10).toInt = (F1663 10).toInt - 1 := hp1670
                unfold cb_X4_forStatement_303
                refine WP.ret ?_
                exact ⟨hI1670, (KB.tr (KB.f (by decide) (KB.f (by decide) (KB.tr (KB.tr (KB.tr (KB.tr (KB.tr (KB.tr (KB.tr (KB.tr (KB.tr (KB.tr (KB.tr (KB.tr (KB.tr (KB.tr (KB.tr (KB.tr (KB.tr (KB.tr (KB.tr (KB.rf : KB F G F G) hB2) hB13) hB17) hB1440) hB1443) hB1556) hB1561) hB1567) hB1571) hB1627) hB1631) hB1634) hB1639) hB1642) hB1646) hB1650) hB1655) hB1660) hB1663))) hB1670), (KT.tr (KT.f (by decide) (KT.f (by decide) (KT.tr (KT.tr (KT.tr (KT.tr (KT.tr (KT.tr (KT.tr (KT.tr (KT.tr (KT.tr (KT.tr (KT.tr (KT.tr (KT.tr (KT.tr (KT.tr (KT.tr (KT.tr (KT.tr (rfl : KT F F) hT2) hT13) hT17) hT1440) hT1443) hT1556) hT1561) hT1567) hT1571) hT1627) hT1631) hT1634) hT1639) hT1642) hT1646) hT1650) hT1655) hT1660) hT1663))) hT1670), (show (F1670 10).toInt = (F 10).toInt by omega), trivial⟩
