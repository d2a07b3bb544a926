theorem ms_over {fu : Nat} (x0 : Int32) (x1 : Int32) (F : PF) (G : PG) : WP (mf_over fu x0 x1 F G) (fun _ F' G' => F = F' ∧ G = G') := by
  unfold mf_over
  unfold mb_over_0
  refine WP.ite (fun c_1 => ?_) (fun c_1 => ?_)
  · skip
    have h_2 : x1 = (0 : Int32) := c_1
    unfold mb_over_4
    unfold mb_over_27
    refine WP.ret ?_
    exact ⟨rfl, rfl⟩
  · skip
    have h_3 : ¬ x1 = (0 : Int32) := c_1
    unfold mb_over_8
    refine WP.ite (fun c_4 => ?_) (fun c_4 => ?_)
    · skip
      have h_5 : x0 = (-2147483648 : Int32) := c_4
      unfold mb_over_15
      refine WP.ite (fun c_6 => ?_) (fun c_6 => ?_)
      · skip
        have h_7 : x1 = (-1 : Int32) := c_6
        unfold mb_over_20
        unfold mb_over_27
        refine WP.ret ?_
        exact ⟨rfl, rfl⟩
      · skip
        have h_8 : ¬ x1 = (-1 : Int32) := c_6
        unfold mb_over_24
        refine WP.nz (by assumption) ?_
        unfold mb_over_27
        refine WP.ret ?_
        exact ⟨rfl, rfl⟩
    · skip
      have h_9 : ¬ x0 = (-2147483648 : Int32) := c_4
      unfold mb_over_24
      refine WP.nz (by assumption) ?_
      unfold mb_over_27
      refine WP.ret ?_
      exact ⟨rfl, rfl⟩
theorem ms_rest {fu : Nat} (x0 : Int32) (x1 : Int32) (F : PF) (G : PG) : WP (mf_rest fu x0 x1 F G) (fun _ F' G' => F = F' ∧ G = G') := by
  unfold mf_rest
  unfold mb_rest_0
  refine WP.ite (fun c_1 => ?_) (fun c_1 => ?_)
  · skip
    have h_2 : x1 = (0 : Int32) := c_1
    unfold mb_rest_4
    unfold mb_rest_27
    refine WP.ret ?_
    exact ⟨rfl, rfl⟩
  · skip
    have h_3 : ¬ x1 = (0 : Int32) := c_1
    unfold mb_rest_8
    refine WP.ite (fun c_4 => ?_) (fun c_4 => ?_)
    · skip
      have h_5 : x0 = (-2147483648 : Int32) := c_4
      unfold mb_rest_15
      refine WP.ite (fun c_6 => ?_) (fun c_6 => ?_)
      · skip
        have h_7 : x1 = (-1 : Int32) := c_6
        unfold mb_rest_20
        unfold mb_rest_27
        refine WP.ret ?_
        exact ⟨rfl, rfl⟩
      · skip
        have h_8 : ¬ x1 = (-1 : Int32) := c_6
        unfold mb_rest_24
        refine WP.nz (by assumption) ?_
        unfold mb_rest_27
        refine WP.ret ?_
        exact ⟨rfl, rfl⟩
    · skip
      have h_9 : ¬ x0 = (-2147483648 : Int32) := c_4
      unfold mb_rest_24
      refine WP.nz (by assumption) ?_
      unfold mb_rest_27
      refine WP.ret ?_
      exact ⟨rfl, rfl⟩
theorem ms_doing {fu : Nat} (x0 : Int32) (x1 : Int32) (x2 : Int32) (F : PF) (G : PG) : WP (mf_doing fu x0 x1 x2 F G) (fun _ F' G' => F = F' ∧ G = G') := by
  unfold mf_doing
  unfold mb_doing_0
  refine WP.ite (fun c_1 => ?_) (fun c_1 => ?_)
  · have e_2 : x0.toInt < 1 ∨ 41 < x0.toInt := c_1
    unfold mb_doing_297
    refine WP.bind (ms_rest x1 x2 F G) ?_
    rintro r3 _ _ ⟨rfl, rfl⟩
    dsimp only
    unfold mb_doing_302
    refine WP.ret ?_
    exact ⟨rfl, rfl⟩
  have e_4 : ¬ (x0.toInt < 1 ∨ 41 < x0.toInt) := c_1
  refine WP.ite (fun c_5 => ?_) (fun c_5 => ?_)
  · skip
    have h_6 : x0 = (1 : Int32) := c_5
    unfold mb_doing_272
    refine WP.ret ?_
    exact ⟨rfl, rfl⟩
  have h_7 : ¬ x0 = (1 : Int32) := c_5
  refine WP.ite (fun c_8 => ?_) (fun c_8 => ?_)
  · skip
    have h_9 : x0 = (2 : Int32) := c_8
    unfold mb_doing_297
    refine WP.bind (ms_rest x1 x2 F G) ?_
    rintro r10 _ _ ⟨rfl, rfl⟩
    dsimp only
    unfold mb_doing_302
    refine WP.ret ?_
    exact ⟨rfl, rfl⟩
  have h_11 : ¬ x0 = (2 : Int32) := c_8
  refine WP.ite (fun c_12 => ?_) (fun c_12 => ?_)
  · skip
    have h_13 : x0 = (3 : Int32) := c_12
    unfold mb_doing_297
    refine WP.bind (ms_rest x1 x2 F G) ?_
    rintro r14 _ _ ⟨rfl, rfl⟩
    dsimp only
    unfold mb_doing_302
    refine WP.ret ?_
    exact ⟨rfl, rfl⟩
  have h_15 : ¬ x0 = (3 : Int32) := c_12
  refine WP.ite (fun c_16 => ?_) (fun c_16 => ?_)
  · skip
    have h_17 : x0 = (4 : Int32) := c_16
    unfold mb_doing_297
    refine WP.bind (ms_rest x1 x2 F G) ?_
    rintro r18 _ _ ⟨rfl, rfl⟩
    dsimp only
    unfold mb_doing_302
    refine WP.ret ?_
    exact ⟨rfl, rfl⟩
  have h_19 : ¬ x0 = (4 : Int32) := c_16
  refine WP.ite (fun c_20 => ?_) (fun c_20 => ?_)
  · skip
    have h_21 : x0 = (5 : Int32) := c_20
    unfold mb_doing_297
    refine WP.bind (ms_rest x1 x2 F G) ?_
    rintro r22 _ _ ⟨rfl, rfl⟩
    dsimp only
    unfold mb_doing_302
    refine WP.ret ?_
    exact ⟨rfl, rfl⟩
  have h_23 : ¬ x0 = (5 : Int32) := c_20
  refine WP.ite (fun c_24 => ?_) (fun c_24 => ?_)
  · skip
    have h_25 : x0 = (6 : Int32) := c_24
    unfold mb_doing_297
    refine WP.bind (ms_rest x1 x2 F G) ?_
    rintro r26 _ _ ⟨rfl, rfl⟩
    dsimp only
    unfold mb_doing_302
    refine WP.ret ?_
    exact ⟨rfl, rfl⟩
  have h_27 : ¬ x0 = (6 : Int32) := c_24
  refine WP.ite (fun c_28 => ?_) (fun c_28 => ?_)
  · skip
    have h_29 : x0 = (7 : Int32) := c_28
    unfold mb_doing_297
    refine WP.bind (ms_rest x1 x2 F G) ?_
    rintro r30 _ _ ⟨rfl, rfl⟩
    dsimp only
    unfold mb_doing_302
    refine WP.ret ?_
    exact ⟨rfl, rfl⟩
  have h_31 : ¬ x0 = (7 : Int32) := c_28
  refine WP.ite (fun c_32 => ?_) (fun c_32 => ?_)
  · skip
    have h_33 : x0 = (8 : Int32) := c_32
    unfold mb_doing_297
    refine WP.bind (ms_rest x1 x2 F G) ?_
    rintro r34 _ _ ⟨rfl, rfl⟩
    dsimp only
    unfold mb_doing_302
    refine WP.ret ?_
    exact ⟨rfl, rfl⟩
  have h_35 : ¬ x0 = (8 : Int32) := c_32
  refine WP.ite (fun c_36 => ?_) (fun c_36 => ?_)
  · skip
    have h_37 : x0 = (9 : Int32) := c_36
    unfold mb_doing_297
    refine WP.bind (ms_rest x1 x2 F G) ?_
    rintro r38 _ _ ⟨rfl, rfl⟩
    dsimp only
    unfold mb_doing_302
    refine WP.ret ?_
    exact ⟨rfl, rfl⟩
  have h_39 : ¬ x0 = (9 : Int32) := c_36
  refine WP.ite (fun c_40 => ?_) (fun c_40 => ?_)
  · skip
    have h_41 : x0 = (10 : Int32) := c_40
    unfold mb_doing_297
    refine WP.bind (ms_rest x1 x2 F G) ?_
    rintro r42 _ _ ⟨rfl, rfl⟩
    dsimp only
    unfold mb_doing_302
    refine WP.ret ?_
    exact ⟨rfl, rfl⟩
  have h_43 : ¬ x0 = (10 : Int32) := c_40
  refine WP.ite (fun c_44 => ?_) (fun c_44 => ?_)
  · skip
    have h_45 : x0 = (11 : Int32) := c_44
    unfold mb_doing_297
    refine WP.bind (ms_rest x1 x2 F G) ?_
    rintro r46 _ _ ⟨rfl, rfl⟩
    dsimp only
    unfold mb_doing_302
    refine WP.ret ?_
    exact ⟨rfl, rfl⟩
  have h_47 : ¬ x0 = (11 : Int32) := c_44
  refine WP.ite (fun c_48 => ?_) (fun c_48 => ?_)
  · skip
    have h_49 : x0 = (12 : Int32) := c_48
    unfold mb_doing_297
    refine WP.bind (ms_rest x1 x2 F G) ?_
    rintro r50 _ _ ⟨rfl, rfl⟩
    dsimp only
    unfold mb_doing_302
    refine WP.ret ?_
    exact ⟨rfl, rfl⟩
  have h_51 : ¬ x0 = (12 : Int32) := c_48
  refine WP.ite (fun c_52 => ?_) (fun c_52 => ?_)
  · skip
    have h_53 : x0 = (13 : Int32) := c_52
    unfold mb_doing_297
    refine WP.bind (ms_rest x1 x2 F G) ?_
    rintro r54 _ _ ⟨rfl, rfl⟩
    dsimp only
    unfold mb_doing_302
    refine WP.ret ?_
    exact ⟨rfl, rfl⟩
  have h_55 : ¬ x0 = (13 : Int32) := c_52
  refine WP.ite (fun c_56 => ?_) (fun c_56 => ?_)
  · skip
    have h_57 : x0 = (14 : Int32) := c_56
    unfold mb_doing_297
    refine WP.bind (ms_rest x1 x2 F G) ?_
    rintro r58 _ _ ⟨rfl, rfl⟩
    dsimp only
    unfold mb_doing_302
    refine WP.ret ?_
    exact ⟨rfl, rfl⟩
  have h_59 : ¬ x0 = (14 : Int32) := c_56
  refine WP.ite (fun c_60 => ?_) (fun c_60 => ?_)
  · skip
    have h_61 : x0 = (15 : Int32) := c_60
    unfold mb_doing_297
    refine WP.bind (ms_rest x1 x2 F G) ?_
    rintro r62 _ _ ⟨rfl, rfl⟩
    dsimp only
    unfold mb_doing_302
    refine WP.ret ?_
    exact ⟨rfl, rfl⟩
  have h_63 : ¬ x0 = (15 : Int32) := c_60
  refine WP.ite (fun c_64 => ?_) (fun c_64 => ?_)
  · skip
    have h_65 : x0 = (16 : Int32) := c_64
    unfold mb_doing_192
    refine WP.ite (fun c_66 => ?_) (fun c_66 => ?_)
    · skip
      have h_67 : x1 = x2 := c_66
      unfold mb_doing_197
      unfold mb_doing_202
      refine WP.ret ?_
      exact ⟨rfl, rfl⟩
    · skip
      have h_68 : ¬ x1 = x2 := c_66
      unfold mb_doing_201
      unfold mb_doing_202
      refine WP.ret ?_
      exact ⟨rfl, rfl⟩
  have h_69 : ¬ x0 = (16 : Int32) := c_64
  refine WP.ite (fun c_70 => ?_) (fun c_70 => ?_)
  · skip
    have h_71 : x0 = (17 : Int32) := c_70
    unfold mb_doing_203
    refine WP.ite (fun c_72 => ?_) (fun c_72 => ?_)
    · skip
      have h_73 : x1 = x2 := c_72
      unfold mb_doing_212
      unfold mb_doing_213
      refine WP.ret ?_
      exact ⟨rfl, rfl⟩
    · skip
      have h_74 : ¬ x1 = x2 := c_72
      unfold mb_doing_208
      unfold mb_doing_213
      refine WP.ret ?_
      exact ⟨rfl, rfl⟩
  have h_75 : ¬ x0 = (17 : Int32) := c_70
  refine WP.ite (fun c_76 => ?_) (fun c_76 => ?_)
  · skip
    have h_77 : x0 = (18 : Int32) := c_76
    unfold mb_doing_225
    refine WP.ite (fun c_78 => ?_) (fun c_78 => ?_)
    · skip
      unfold mb_doing_234
      unfold mb_doing_235
      refine WP.ret ?_
      exact ⟨rfl, rfl⟩
    · skip
      unfold mb_doing_230
      unfold mb_doing_235
      refine WP.ret ?_
      exact ⟨rfl, rfl⟩
  have h_79 : ¬ x0 = (18 : Int32) := c_76
  refine WP.ite (fun c_80 => ?_) (fun c_80 => ?_)
  · skip
    have h_81 : x0 = (19 : Int32) := c_80
    unfold mb_doing_247
    refine WP.ite (fun c_82 => ?_) (fun c_82 => ?_)
    · skip
      unfold mb_doing_256
      unfold mb_doing_257
      refine WP.ret ?_
      exact ⟨rfl, rfl⟩
    · skip
      unfold mb_doing_252
      unfold mb_doing_257
      refine WP.ret ?_
      exact ⟨rfl, rfl⟩
  have h_83 : ¬ x0 = (19 : Int32) := c_80
  refine WP.ite (fun c_84 => ?_) (fun c_84 => ?_)
  · skip
    have h_85 : x0 = (20 : Int32) := c_84
    unfold mb_doing_258
    refine WP.ret ?_
    exact ⟨rfl, rfl⟩
  have h_86 : ¬ x0 = (20 : Int32) := c_84
  refine WP.ite (fun c_87 => ?_) (fun c_87 => ?_)
  · skip
    have h_88 : x0 = (21 : Int32) := c_87
    unfold mb_doing_265
    refine WP.ret ?_
    exact ⟨rfl, rfl⟩
  have h_89 : ¬ x0 = (21 : Int32) := c_87
  refine WP.ite (fun c_90 => ?_) (fun c_90 => ?_)
  · skip
    have h_91 : x0 = (22 : Int32) := c_90
    unfold mb_doing_297
    refine WP.bind (ms_rest x1 x2 F G) ?_
    rintro r92 _ _ ⟨rfl, rfl⟩
    dsimp only
    unfold mb_doing_302
    refine WP.ret ?_
    exact ⟨rfl, rfl⟩
  have h_93 : ¬ x0 = (22 : Int32) := c_90
  refine WP.ite (fun c_94 => ?_) (fun c_94 => ?_)
  · skip
    have h_95 : x0 = (23 : Int32) := c_94
    unfold mb_doing_297
    refine WP.bind (ms_rest x1 x2 F G) ?_
    rintro r96 _ _ ⟨rfl, rfl⟩
    dsimp only
    unfold mb_doing_302
    refine WP.ret ?_
    exact ⟨rfl, rfl⟩
  have h_97 : ¬ x0 = (23 : Int32) := c_94
  refine WP.ite (fun c_98 => ?_) (fun c_98 => ?_)
  · skip
    have h_99 : x0 = (24 : Int32) := c_98
    unfold mb_doing_297
    refine WP.bind (ms_rest x1 x2 F G) ?_
    rintro r100 _ _ ⟨rfl, rfl⟩
    dsimp only
    unfold mb_doing_302
    refine WP.ret ?_
    exact ⟨rfl, rfl⟩
  have h_101 : ¬ x0 = (24 : Int32) := c_98
  refine WP.ite (fun c_102 => ?_) (fun c_102 => ?_)
  · skip
    have h_103 : x0 = (25 : Int32) := c_102
    unfold mb_doing_297
    refine WP.bind (ms_rest x1 x2 F G) ?_
    rintro r104 _ _ ⟨rfl, rfl⟩
    dsimp only
    unfold mb_doing_302
    refine WP.ret ?_
    exact ⟨rfl, rfl⟩
  have h_105 : ¬ x0 = (25 : Int32) := c_102
  refine WP.ite (fun c_106 => ?_) (fun c_106 => ?_)
  · skip
    have h_107 : x0 = (26 : Int32) := c_106
    unfold mb_doing_297
    refine WP.bind (ms_rest x1 x2 F G) ?_
    rintro r108 _ _ ⟨rfl, rfl⟩
    dsimp only
    unfold mb_doing_302
    refine WP.ret ?_
    exact ⟨rfl, rfl⟩
  have h_109 : ¬ x0 = (26 : Int32) := c_106
  refine WP.ite (fun c_110 => ?_) (fun c_110 => ?_)
  · skip
    have h_111 : x0 = (27 : Int32) := c_110
    unfold mb_doing_297
    refine WP.bind (ms_rest x1 x2 F G) ?_
    rintro r112 _ _ ⟨rfl, rfl⟩
    dsimp only
    unfold mb_doing_302
    refine WP.ret ?_
    exact ⟨rfl, rfl⟩
  have h_113 : ¬ x0 = (27 : Int32) := c_110
  refine WP.ite (fun c_114 => ?_) (fun c_114 => ?_)
  · skip
    have h_115 : x0 = (28 : Int32) := c_114
    unfold mb_doing_297
    refine WP.bind (ms_rest x1 x2 F G) ?_
    rintro r116 _ _ ⟨rfl, rfl⟩
    dsimp only
    unfold mb_doing_302
    refine WP.ret ?_
    exact ⟨rfl, rfl⟩
  have h_117 : ¬ x0 = (28 : Int32) := c_114
  refine WP.ite (fun c_118 => ?_) (fun c_118 => ?_)
  · skip
    have h_119 : x0 = (29 : Int32) := c_118
    unfold mb_doing_297
    refine WP.bind (ms_rest x1 x2 F G) ?_
    rintro r120 _ _ ⟨rfl, rfl⟩
    dsimp only
    unfold mb_doing_302
    refine WP.ret ?_
    exact ⟨rfl, rfl⟩
  have h_121 : ¬ x0 = (29 : Int32) := c_118
  refine WP.ite (fun c_122 => ?_) (fun c_122 => ?_)
  · skip
    have h_123 : x0 = (30 : Int32) := c_122
    unfold mb_doing_297
    refine WP.bind (ms_rest x1 x2 F G) ?_
    rintro r124 _ _ ⟨rfl, rfl⟩
    dsimp only
    unfold mb_doing_302
    refine WP.ret ?_
    exact ⟨rfl, rfl⟩
  have h_125 : ¬ x0 = (30 : Int32) := c_122
  refine WP.ite (fun c_126 => ?_) (fun c_126 => ?_)
  · skip
    have h_127 : x0 = (31 : Int32) := c_126
    unfold mb_doing_297
    refine WP.bind (ms_rest x1 x2 F G) ?_
    rintro r128 _ _ ⟨rfl, rfl⟩
    dsimp only
    unfold mb_doing_302
    refine WP.ret ?_
    exact ⟨rfl, rfl⟩
  have h_129 : ¬ x0 = (31 : Int32) := c_126
  refine WP.ite (fun c_130 => ?_) (fun c_130 => ?_)
  · skip
    have h_131 : x0 = (32 : Int32) := c_130
    unfold mb_doing_297
    refine WP.bind (ms_rest x1 x2 F G) ?_
    rintro r132 _ _ ⟨rfl, rfl⟩
    dsimp only
    unfold mb_doing_302
    refine WP.ret ?_
    exact ⟨rfl, rfl⟩
  have h_133 : ¬ x0 = (32 : Int32) := c_130
  refine WP.ite (fun c_134 => ?_) (fun c_134 => ?_)
  · skip
    have h_135 : x0 = (33 : Int32) := c_134
    unfold mb_doing_180
    refine WP.ret ?_
    exact ⟨rfl, rfl⟩
  have h_136 : ¬ x0 = (33 : Int32) := c_134
  refine WP.ite (fun c_137 => ?_) (fun c_137 => ?_)
  · skip
    have h_138 : x0 = (34 : Int32) := c_137
    unfold mb_doing_184
    refine WP.ret ?_
    exact ⟨rfl, rfl⟩
  have h_139 : ¬ x0 = (34 : Int32) := c_137
  refine WP.ite (fun c_140 => ?_) (fun c_140 => ?_)
  · skip
    have h_141 : x0 = (35 : Int32) := c_140
    unfold mb_doing_188
    refine WP.ret ?_
    exact ⟨rfl, rfl⟩
  have h_142 : ¬ x0 = (35 : Int32) := c_140
  refine WP.ite (fun c_143 => ?_) (fun c_143 => ?_)
  · skip
    have h_144 : x0 = (36 : Int32) := c_143
    unfold mb_doing_214
    refine WP.ite (fun c_145 => ?_) (fun c_145 => ?_)
    · skip
      unfold mb_doing_223
      unfold mb_doing_224
      refine WP.ret ?_
      exact ⟨rfl, rfl⟩
    · skip
      unfold mb_doing_219
      unfold mb_doing_224
      refine WP.ret ?_
      exact ⟨rfl, rfl⟩
  have h_146 : ¬ x0 = (36 : Int32) := c_143
  refine WP.ite (fun c_147 => ?_) (fun c_147 => ?_)
  · skip
    have h_148 : x0 = (37 : Int32) := c_147
    unfold mb_doing_236
    refine WP.ite (fun c_149 => ?_) (fun c_149 => ?_)
    · skip
      unfold mb_doing_245
      unfold mb_doing_246
      refine WP.ret ?_
      exact ⟨rfl, rfl⟩
    · skip
      unfold mb_doing_241
      unfold mb_doing_246
      refine WP.ret ?_
      exact ⟨rfl, rfl⟩
  have h_150 : ¬ x0 = (37 : Int32) := c_147
  refine WP.ite (fun c_151 => ?_) (fun c_151 => ?_)
  · skip
    have h_152 : x0 = (38 : Int32) := c_151
    unfold mb_doing_279
    refine WP.ret ?_
    exact ⟨rfl, rfl⟩
  have h_153 : ¬ x0 = (38 : Int32) := c_151
  refine WP.ite (fun c_154 => ?_) (fun c_154 => ?_)
  · skip
    have h_155 : x0 = (39 : Int32) := c_154
    unfold mb_doing_283
    refine WP.ret ?_
    exact ⟨rfl, rfl⟩
  have h_156 : ¬ x0 = (39 : Int32) := c_154
  refine WP.ite (fun c_157 => ?_) (fun c_157 => ?_)
  · skip
    have h_158 : x0 = (40 : Int32) := c_157
    unfold mb_doing_287
    refine WP.ret ?_
    exact ⟨rfl, rfl⟩
  have h_159 : ¬ x0 = (40 : Int32) := c_157
  unfold mb_doing_291
  refine WP.bind (ms_over x1 x2 F G) ?_
  rintro r160 _ _ ⟨rfl, rfl⟩
  dsimp only
  unfold mb_doing_296
  refine WP.ret ?_
  exact ⟨rfl, rfl⟩
theorem ms_alone {fu : Nat} (x0 : Int32) (x1 : Int32) (F : PF) (G : PG) : WP (mf_alone fu x0 x1 F G) (fun _ F' G' => F = F' ∧ G = G') := by
  unfold mf_alone
  unfold mb_alone_0
  refine WP.ite (fun c_1 => ?_) (fun c_1 => ?_)
  · skip
    have h_2 : x0 = (39 : Int32) := c_1
    unfold mb_alone_6
    unfold mb_alone_32
    refine WP.ret ?_
    exact ⟨rfl, rfl⟩
  · skip
    have h_3 : ¬ x0 = (39 : Int32) := c_1
    unfold mb_alone_11
    refine WP.ite (fun c_4 => ?_) (fun c_4 => ?_)
    · skip
      have h_5 : x0 = (43 : Int32) := c_4
      unfold mb_alone_17
      unfold mb_alone_32
      refine WP.ret ?_
      exact ⟨rfl, rfl⟩
    · skip
      have h_6 : ¬ x0 = (43 : Int32) := c_4
      unfold mb_alone_23
      refine WP.ite (fun c_7 => ?_) (fun c_7 => ?_)
      · skip
        have h_8 : x1 = (0 : Int32) := c_7
        unfold mb_alone_27
        unfold mb_alone_32
        refine WP.ret ?_
        exact ⟨rfl, rfl⟩
      · skip
        have h_9 : ¬ x1 = (0 : Int32) := c_7
        unfold mb_alone_31
        unfold mb_alone_32
        refine WP.ret ?_
        exact ⟨rfl, rfl⟩
theorem ms_product {fu : Nat} (x0 : Int32) (x1 : Int32) (x2 : Int32) (F : PF) (G : PG) : WP (mf_product fu x0 x1 x2 F G) (fun _ F' G' => F = F' ∧ G = G') := by
  unfold mf_product
  unfold mb_product_0
  refine WP.ite (fun c_1 => ?_) (fun c_1 => ?_)
  · have e_2 : x0.toInt < 0 ∨ 6 < x0.toInt := c_1
    unfold mb_product_123
    refine WP.ite (fun c_3 => ?_) (fun c_3 => ?_)
    · skip
      have h_4 : x2 = (0 : Int32) := c_3
      unfold mb_product_127
      unfold mb_product_137
      refine WP.ret ?_
      exact ⟨rfl, rfl⟩
    · skip
      have h_5 : ¬ x2 = (0 : Int32) := c_3
      unfold mb_product_131
      refine WP.nz (l_nz (by assumption)) ?_
      unfold mb_product_137
      refine WP.ret ?_
      exact ⟨rfl, rfl⟩
  have e_6 : ¬ (x0.toInt < 0 ∨ 6 < x0.toInt) := c_1
  refine WP.ite (fun c_7 => ?_) (fun c_7 => ?_)
  · skip
    have h_8 : x0 = (0 : Int32) := c_7
    unfold mb_product_64
    refine WP.ret ?_
    exact ⟨rfl, rfl⟩
  have h_9 : ¬ x0 = (0 : Int32) := c_7
  refine WP.ite (fun c_10 => ?_) (fun c_10 => ?_)
  · skip
    have h_11 : x0 = (1 : Int32) := c_10
    unfold mb_product_68
    refine WP.ret ?_
    exact ⟨rfl, rfl⟩
  have h_12 : ¬ x0 = (1 : Int32) := c_10
  refine WP.ite (fun c_13 => ?_) (fun c_13 => ?_)
  · skip
    have h_14 : x0 = (2 : Int32) := c_13
    unfold mb_product_77
    refine WP.ret ?_
    exact ⟨rfl, rfl⟩
  have h_15 : ¬ x0 = (2 : Int32) := c_13
  refine WP.ite (fun c_16 => ?_) (fun c_16 => ?_)
  · skip
    have h_17 : x0 = (3 : Int32) := c_16
    unfold mb_product_86
    refine WP.ret ?_
    exact ⟨rfl, rfl⟩
  have h_18 : ¬ x0 = (3 : Int32) := c_16
  refine WP.ite (fun c_19 => ?_) (fun c_19 => ?_)
  · skip
    have h_20 : x0 = (4 : Int32) := c_19
    unfold mb_product_96
    refine WP.bind (ms_over x1 x2 F G) ?_
    rintro r21 _ _ ⟨rfl, rfl⟩
    dsimp only
    unfold mb_product_101
    refine WP.ret ?_
    exact ⟨rfl, rfl⟩
  have h_22 : ¬ x0 = (4 : Int32) := c_19
  refine WP.ite (fun c_23 => ?_) (fun c_23 => ?_)
  · skip
    have h_24 : x0 = (5 : Int32) := c_23
    unfold mb_product_102
    refine WP.ite (fun c_25 => ?_) (fun c_25 => ?_)
    · skip
      have h_26 : x2 = (0 : Int32) := c_25
      unfold mb_product_106
      unfold mb_product_116
      refine WP.ret ?_
      exact ⟨rfl, rfl⟩
    · skip
      have h_27 : ¬ x2 = (0 : Int32) := c_25
      unfold mb_product_110
      refine WP.nz (l_nz (by assumption)) ?_
      unfold mb_product_116
      refine WP.ret ?_
      exact ⟨rfl, rfl⟩
  have h_28 : ¬ x0 = (5 : Int32) := c_23
  unfold mb_product_117
  refine WP.bind (ms_rest x1 x2 F G) ?_
  rintro r29 _ _ ⟨rfl, rfl⟩
  dsimp only
  unfold mb_product_122
  refine WP.ret ?_
  exact ⟨rfl, rfl⟩
theorem ms_rank {fu : Nat} (x0 : Int32) (F : PF) (G : PG) : WP (mf_rank fu x0 F G) (fun _ F' G' => F = F' ∧ G = G') := by
  unfold mf_rank
  unfold mb_rank_0
  refine WP.ite (fun c_1 => ?_) (fun c_1 => ?_)
  · skip
    have h_2 : x0 = (7 : Int32) := c_1
    unfold mb_rank_6
    unfold mb_rank_14
    refine WP.ret ?_
    exact ⟨rfl, rfl⟩
  · skip
    have h_3 : ¬ x0 = (7 : Int32) := c_1
    unfold mb_rank_11
    unfold mb_rank_14
    refine WP.ret ?_
    exact ⟨rfl, rfl⟩
