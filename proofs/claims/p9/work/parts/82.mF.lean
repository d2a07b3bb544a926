theorem mwj_simple_87 {fu : Nat} {F0 : PF} {G0 : PG} (x1 : Int32) (x2 : Int32) (z0 : Int32) (F : PF) (G : PG) (hK : KX [42, 43, 44, 45, 47, 48, 49, 55, 60, 62, 70] [56, 57, 58, 59, 67, 68, 69] F0 G0 F G) : PP (mb_simple_87 fu x1 x2 z0 F G) (fun _ F' G' => KX [42, 43, 44, 45, 47, 48, 49, 55, 60, 62, 70] [56, 57, 58, 59, 67, 68, 69] F0 G0 F' G') := by
  unfold mb_simple_87
  refine PP.bind (mw_isSign (24 : Int32) F G) ?_
  intro r1 F1 G1 hK1
  dsimp only
  unfold mb_simple_94
  refine PP.ite (fun c_2 => ?_) (fun c_2 => ?_)
  · skip
    exact mwj_simple_111 x1 x2 z0 r1 F1 G1 (KX.tr hK hK1 rfl rfl)
  · skip
    unfold mb_simple_100
    refine PP.ix (fun _ => ?_)
    refine PP.bind (mw_note (4 : Int32) (G1 6 x1.toNatClampNeg) F1 G1) ?_
    intro r3 F3 G3 hK3
    dsimp only
    exact mwj_simple_111 x1 x2 z0 r1 F3 G3 (KX.tr (KX.tr hK hK1 rfl rfl) hK3 rfl rfl)
theorem mwj_simple_86 {fu : Nat} {F0 : PF} {G0 : PG} (x1 : Int32) (x2 : Int32) (F : PF) (G : PG) (hK : KX [42, 43, 44, 45, 47, 48, 49, 55, 60, 62, 70] [56, 57, 58, 59, 67, 68, 69] F0 G0 F G) : PP (mb_simple_86 fu x1 x2 F G) (fun _ F' G' => KX [42, 43, 44, 45, 47, 48, 49, 55, 60, 62, 70] [56, 57, 58, 59, 67, 68, 69] F0 G0 F' G') := by
  unfold mb_simple_86
  exact mwj_simple_87 x1 x2 (0 : Int32) F G hK
theorem mwj_simple_61 {fu : Nat} {F0 : PF} {G0 : PG} (x1 : Int32) (z0 : Int32) (F : PF) (G : PG) (hK : KX [42, 43, 44, 45, 47, 48, 49, 55, 60, 62, 70] [56, 57, 58, 59, 67, 68, 69] F0 G0 F G) : PP (mb_simple_61 fu x1 z0 F G) (fun _ F' G' => KX [42, 43, 44, 45, 47, 48, 49, 55, 60, 62, 70] [56, 57, 58, 59, 67, 68, 69] F0 G0 F' G') := by
  unfold mb_simple_61
  refine PP.ite (fun c_1 => ?_) (fun c_1 => ?_)
  · skip
    exact mwj_simple_86 x1 z0 F G hK
  · skip
    unfold mb_simple_69
    refine PP.ite (fun c_2 => ?_) (fun c_2 => ?_)
    · skip
      unfold mb_simple_74
      refine PP.ite (fun c_3 => ?_) (fun c_3 => ?_)
      · skip
        unfold mb_simple_82
        exact mwj_simple_87 x1 z0 (1 : Int32) F G hK
      · skip
        exact mwj_simple_86 x1 z0 F G hK
    · skip
      exact mwj_simple_86 x1 z0 F G hK
theorem mw_simple {fu : Nat} (F : PF) (G : PG) : PP (mf_simple fu F G) (fun _ F' G' => KX [42, 43, 44, 45, 47, 48, 49, 55, 60, 62, 70] [56, 57, 58, 59, 67, 68, 69] F G F' G') := by
  unfold mf_simple
  unfold mb_simple_0
  refine PP.bind (mw_name F G) ?_
  intro r1 F1 G1 hK1
  dsimp only
  unfold mb_simple_4
  refine PP.ite (fun c_2 => ?_) (fun c_2 => ?_)
  · skip
    unfold mb_simple_14
    refine PP.bind (mw_isSign (22 : Int32) F1 G1) ?_
    intro r3 F3 G3 hK3
    dsimp only
    unfold mb_simple_20
    refine PP.ite (fun c_4 => ?_) (fun c_4 => ?_)
    · skip
      unfold mb_simple_45
      refine PP.ite (fun c_5 => ?_) (fun c_5 => ?_)
      · skip
        unfold mb_simple_52
        exact mwj_simple_61 r1 (-1 : Int32) F3 G3 (KX.tr (KX.tr KX.rf hK1 rfl rfl) hK3 rfl rfl)
      · skip
        unfold mb_simple_56
        refine PP.bind (mw_meaning r1 F3 G3) ?_
        intro r6 F6 G6 hK6
        dsimp only
        exact mwj_simple_61 r1 r6 F6 G6 (KX.tr (KX.tr (KX.tr KX.rf hK1 rfl rfl) hK3 rfl rfl) hK6 rfl rfl)
    · skip
      unfold mb_simple_23
      refine PP.bind (mw_call r1 (0 : Int32) F3 G3) ?_
      intro r7 F7 G7 hK7
      dsimp only
      unfold mb_simple_29
      refine PP.ite (fun c_8 => ?_) (fun c_8 => ?_)
      · skip
        unfold mb_simple_32
        refine PP.ret ?_
        exact (KX.tr (KX.tr (KX.tr KX.rf hK1 rfl rfl) hK3 rfl rfl) hK7 rfl rfl)
      · skip
        unfold mb_simple_34
        refine PP.bind (mw_step (18 : Int32) (0 : Int32) (0 : Int32) F7 G7) ?_
        intro r9 F9 G9 hK9
        dsimp only
        unfold mb_simple_42
        refine PP.ret ?_
        exact (KX.tr (KX.tr (KX.tr (KX.tr KX.rf hK1 rfl rfl) hK3 rfl rfl) hK7 rfl rfl) hK9 rfl rfl)
  · skip
    unfold mb_simple_12
    refine PP.ret ?_
    exact (KX.tr KX.rf hK1 rfl rfl)
theorem mwj_tellHere_326 {fu : Nat} {F0 : PF} {G0 : PG} (x3 : Int32) (x4 : Int32) (F : PF) (G : PG) (hK : KX [14, 42, 43, 44, 45, 47, 48, 49, 52, 53, 54, 55, 60, 62, 70, 72] [16, 17, 18, 19, 20, 21, 22, 23, 56, 57, 58, 59, 67, 68, 69, 71] F0 G0 F G) : PP (mb_tellHere_326 fu x3 x4 F G) (fun _ F' G' => KX [14, 42, 43, 44, 45, 47, 48, 49, 52, 53, 54, 55, 60, 62, 70, 72] [16, 17, 18, 19, 20, 21, 22, 23, 56, 57, 58, 59, 67, 68, 69, 71] F0 G0 F' G') := by
  unfold mb_tellHere_326
  refine PP.bind (mw_step (2 : Int32) x4 (0 : Int32) F G) ?_
  intro r1 F1 G1 hK1
  dsimp only
  unfold mb_tellHere_334
  refine PP.bind (mw_declare x3 (1 : Int32) (0 : Int32) x4 (1 : Int32) (1 : Int32) F1 G1) ?_
  intro r2 F2 G2 hK2
  dsimp only
  unfold mb_tellHere_346
  refine PP.ret ?_
  exact (KX.tr (KX.tr hK hK1 rfl rfl) hK2 rfl rfl)
theorem mwj_tellHere_273 {fu : Nat} {F0 : PF} {G0 : PG} (x1 : Int32) (x3 : Int32) (x4 : Int32) (z0 : Int32) (z1 : Int32) (F : PF) (G : PG) (hK : KX [14, 42, 43, 44, 45, 47, 48, 49, 52, 53, 54, 55, 60, 62, 70, 72] [16, 17, 18, 19, 20, 21, 22, 23, 56, 57, 58, 59, 67, 68, 69, 71] F0 G0 F G) : PP (mb_tellHere_273 fu x1 x3 x4 z0 z1 F G) (fun _ F' G' => KX [14, 42, 43, 44, 45, 47, 48, 49, 52, 53, 54, 55, 60, 62, 70, 72] [16, 17, 18, 19, 20, 21, 22, 23, 56, 57, 58, 59, 67, 68, 69, 71] F0 G0 F' G') := by
  unfold mb_tellHere_273
  unfold mb_tellHere_277
  refine PP.bind (mw_isSign (32 : Int32) (fup F 53 (z1 + z0)) G) ?_
  intro r1 F1 G1 hK1
  dsimp only
  unfold mb_tellHere_283
  refine PP.ite (fun c_2 => ?_) (fun c_2 => ?_)
  · skip
    unfold mb_tellHere_305
    refine PP.ite (fun c_3 => ?_) (fun c_3 => ?_)
    · skip
      unfold mb_tellHere_320
      refine PP.bind (mw_fails (2 : Int32) F1 G1) ?_
      intro r4 F4 G4 hK4
      dsimp only
      unfold mb_tellHere_325
      refine PP.bz (fun _ => ?_)
      refine PP.ret ?_
      exact (KX.tr (KX.tr (KX.f (k := 53) rfl hK) hK1 rfl rfl) hK4 rfl rfl)
    · skip
      unfold mb_tellHere_309
      refine PP.bind (mw_step (0 : Int32) (0 : Int32) (0 : Int32) F1 G1) ?_
      intro r5 F5 G5 hK5
      dsimp only
      unfold mb_tellHere_316
      exact mwj_tellHere_326 x3 x4 F5 G5 (KX.tr (KX.tr (KX.f (k := 53) rfl hK) hK1 rfl rfl) hK5 rfl rfl)
  · skip
    unfold mb_tellHere_286
    unfold mb_tellHere_296
    refine PP.bind (mw_expression (fup F1 42 ((F1 42) + (1 : Int32))) G1) ?_
    intro r6 F6 G6 hK6
    dsimp only
    unfold mb_tellHere_300
    refine PP.ite (fun c_7 => ?_) (fun c_7 => ?_)
    · skip
      unfold mb_tellHere_303
      refine PP.ret ?_
      exact (KX.tr (KX.f (k := 42) rfl (KX.tr (KX.f (k := 53) rfl hK) hK1 rfl rfl)) hK6 rfl rfl)
    · skip
      exact mwj_tellHere_326 x3 x4 F6 G6 (KX.tr (KX.f (k := 42) rfl (KX.tr (KX.f (k := 53) rfl hK) hK1 rfl rfl)) hK6 rfl rfl)
theorem mwj_tellHere_247 {fu : Nat} {F0 : PF} {G0 : PG} (x1 : Int32) (x3 : Int32) (F : PF) (G : PG) (hK : KX [14, 42, 43, 44, 45, 47, 48, 49, 52, 53, 54, 55, 60, 62, 70, 72] [16, 17, 18, 19, 20, 21, 22, 23, 56, 57, 58, 59, 67, 68, 69, 71] F0 G0 F G) : PP (mb_tellHere_247 fu x1 x3 F G) (fun _ F' G' => KX [14, 42, 43, 44, 45, 47, 48, 49, 52, 53, 54, 55, 60, 62, 70, 72] [16, 17, 18, 19, 20, 21, 22, 23, 56, 57, 58, 59, 67, 68, 69, 71] F0 G0 F' G') := by
  unfold mb_tellHere_247
  refine PP.ite (fun c_1 => ?_) (fun c_1 => ?_)
  · skip
    unfold mb_tellHere_272
    exact mwj_tellHere_273 x1 x3 (F 53) (1 : Int32) (F 53) F G hK
  · skip
    unfold mb_tellHere_268
    exact mwj_tellHere_273 x1 x3 (F 53) (0 : Int32) (F 53) F G hK
theorem mwj_tellHere_210 {fu : Nat} {F0 : PF} {G0 : PG} (x1 : Int32) (x3 : Int32) (F : PF) (G : PG) (hK : KX [14, 42, 43, 44, 45, 47, 48, 49, 52, 53, 54, 55, 60, 62, 70, 72] [16, 17, 18, 19, 20, 21, 22, 23, 56, 57, 58, 59, 67, 68, 69, 71] F0 G0 F G) : PP (mb_tellHere_210 fu x1 x3 F G) (fun _ F' G' => KX [14, 42, 43, 44, 45, 47, 48, 49, 52, 53, 54, 55, 60, 62, 70, 72] [16, 17, 18, 19, 20, 21, 22, 23, 56, 57, 58, 59, 67, 68, 69, 71] F0 G0 F' G') := by
  unfold mb_tellHere_210
  refine PP.bind (mw_twice x3 F G) ?_
  intro r1 F1 G1 hK1
  dsimp only
  unfold mb_tellHere_215
  unfold mb_tellHere_225
  refine PP.ite (fun c_2 => ?_) (fun c_2 => ?_)
  · skip
    exact mwj_tellHere_247 x1 x3 (fup F1 52 ((F1 52) + (1 : Int32))) G1 (KX.f (k := 52) rfl (KX.tr hK hK1 rfl rfl))
  · skip
    unfold mb_tellHere_235
    refine PP.ix (fun _ => ?_)
    refine PP.bind (mw_note (11 : Int32) (G1 6 x3.toNatClampNeg) (fup F1 52 ((F1 52) + (1 : Int32))) G1) ?_
    intro r3 F3 G3 hK3
    dsimp only
    exact mwj_tellHere_247 x1 x3 F3 G3 (KX.tr (KX.f (k := 52) rfl (KX.tr hK hK1 rfl rfl)) hK3 rfl rfl)
theorem mwj_tellHere_193 {fu : Nat} {F0 : PF} {G0 : PG} (x5 : Int32) (z0 : Int32) (z1 : Int32) (z2 : Int32) (z3 : Int32) (z4 : Int32) (F : PF) (G : PG) (hK : KX [14, 42, 43, 44, 45, 47, 48, 49, 52, 53, 54, 55, 60, 62, 70, 72] [16, 17, 18, 19, 20, 21, 22, 23, 56, 57, 58, 59, 67, 68, 69, 71] F0 G0 F G) : PP (mb_tellHere_193 fu x5 z0 z1 z2 z3 z4 F G) (fun _ F' G' => KX [14, 42, 43, 44, 45, 47, 48, 49, 52, 53, 54, 55, 60, 62, 70, 72] [16, 17, 18, 19, 20, 21, 22, 23, 56, 57, 58, 59, 67, 68, 69, 71] F0 G0 F' G') := by
  unfold mb_tellHere_193
  refine PP.bind (mw_declare z4 z3 z2 z1 z0 (1 : Int32) F G) ?_
  intro r1 F1 G1 hK1
  dsimp only
  unfold mb_tellHere_197
  unfold mb_tellHere_208
  refine PP.ret ?_
  exact (KX.f (k := 53) rfl (KX.tr hK hK1 rfl rfl))
theorem mwj_tellHere_158 {fu : Nat} {F0 : PF} {G0 : PG} (x2 : Int32) (x3 : Int32) (x4 : Int32) (z0 : Int32) (F : PF) (G : PG) (hK : KX [14, 42, 43, 44, 45, 47, 48, 49, 52, 53, 54, 55, 60, 62, 70, 72] [16, 17, 18, 19, 20, 21, 22, 23, 56, 57, 58, 59, 67, 68, 69, 71] F0 G0 F G) : PP (mb_tellHere_158 fu x2 x3 x4 z0 F G) (fun _ F' G' => KX [14, 42, 43, 44, 45, 47, 48, 49, 52, 53, 54, 55, 60, 62, 70, 72] [16, 17, 18, 19, 20, 21, 22, 23, 56, 57, 58, 59, 67, 68, 69, 71] F0 G0 F' G') := by
  unfold mb_tellHere_158
  refine PP.bind (mw_step (22 : Int32) (F 53) z0 F G) ?_
  intro r1 F1 G1 hK1
  dsimp only
  unfold mb_tellHere_172
  refine PP.ite (fun c_2 => ?_) (fun c_2 => ?_)
  · skip
    unfold mb_tellHere_187
    exact mwj_tellHere_193 z0 (1 : Int32) (F1 53) x2 (2 : Int32) x3 F1 G1 (KX.tr hK hK1 rfl rfl)
  · skip
    unfold mb_tellHere_191
    exact mwj_tellHere_193 z0 x4 (F1 53) x2 (2 : Int32) x3 F1 G1 (KX.tr hK hK1 rfl rfl)
theorem mwj_tellHere_152 {fu : Nat} {F0 : PF} {G0 : PG} (x2 : Int32) (x3 : Int32) (x4 : Int32) (F : PF) (G : PG) (hK : KX [14, 42, 43, 44, 45, 47, 48, 49, 52, 53, 54, 55, 60, 62, 70, 72] [16, 17, 18, 19, 20, 21, 22, 23, 56, 57, 58, 59, 67, 68, 69, 71] F0 G0 F G) : PP (mb_tellHere_152 fu x2 x3 x4 F G) (fun _ F' G' => KX [14, 42, 43, 44, 45, 47, 48, 49, 52, 53, 54, 55, 60, 62, 70, 72] [16, 17, 18, 19, 20, 21, 22, 23, 56, 57, 58, 59, 67, 68, 69, 71] F0 G0 F' G') := by
  unfold mb_tellHere_152
  exact mwj_tellHere_158 x2 x3 x4 (0 : Int32) F G hK
theorem mwj_tellHere_136 {fu : Nat} {F0 : PF} {G0 : PG} (x2 : Int32) (x3 : Int32) (x4 : Int32) (F : PF) (G : PG) (hK : KX [14, 42, 43, 44, 45, 47, 48, 49, 52, 53, 54, 55, 60, 62, 70, 72] [16, 17, 18, 19, 20, 21, 22, 23, 56, 57, 58, 59, 67, 68, 69, 71] F0 G0 F G) : PP (mb_tellHere_136 fu x2 x3 x4 F G) (fun _ F' G' => KX [14, 42, 43, 44, 45, 47, 48, 49, 52, 53, 54, 55, 60, 62, 70, 72] [16, 17, 18, 19, 20, 21, 22, 23, 56, 57, 58, 59, 67, 68, 69, 71] F0 G0 F' G') := by
  unfold mb_tellHere_136
  refine PP.ite (fun c_1 => ?_) (fun c_1 => ?_)
  · skip
    exact mwj_tellHere_152 x2 x3 x4 F G hK
  · skip
    unfold mb_tellHere_142
    refine PP.ite (fun c_2 => ?_) (fun c_2 => ?_)
    · skip
      unfold mb_tellHere_156
      exact mwj_tellHere_158 x2 x3 x4 x4 F G hK
    · skip
      exact mwj_tellHere_152 x2 x3 x4 F G hK
theorem mwj_tellHere_110 {fu : Nat} {F0 : PF} {G0 : PG} (x2 : Int32) (x3 : Int32) (x4 : Int32) (z0 : Int32) (z1 : Int32) (F : PF) (G : PG) (hK : KX [14, 42, 43, 44, 45, 47, 48, 49, 52, 53, 54, 55, 60, 62, 70, 72] [16, 17, 18, 19, 20, 21, 22, 23, 56, 57, 58, 59, 67, 68, 69, 71] F0 G0 F G) : PP (mb_tellHere_110 fu x2 x3 x4 z0 z1 F G) (fun _ F' G' => KX [14, 42, 43, 44, 45, 47, 48, 49, 52, 53, 54, 55, 60, 62, 70, 72] [16, 17, 18, 19, 20, 21, 22, 23, 56, 57, 58, 59, 67, 68, 69, 71] F0 G0 F' G') := by
  unfold mb_tellHere_110
  unfold mb_tellHere_114
  refine PP.ite (fun c_1 => ?_) (fun c_1 => ?_)
  · skip
    exact mwj_tellHere_136 x2 x3 x4 (fup F 52 (z1 + z0)) G (KX.f (k := 52) rfl hK)
  · skip
    unfold mb_tellHere_124
    refine PP.ix (fun _ => ?_)
    refine PP.bind (mw_note (11 : Int32) (G 6 x3.toNatClampNeg) (fup F 52 (z1 + z0)) G) ?_
    intro r2 F2 G2 hK2
    dsimp only
    exact mwj_tellHere_136 x2 x3 x4 F2 G2 (KX.tr (KX.f (k := 52) rfl hK) hK2 rfl rfl)
theorem mwj_tellHere_47 {fu : Nat} {F0 : PF} {G0 : PG} (x2 : Int32) (x3 : Int32) (F : PF) (G : PG) (hK : KX [14, 42, 43, 44, 45, 47, 48, 49, 52, 53, 54, 55, 60, 62, 70, 72] [16, 17, 18, 19, 20, 21, 22, 23, 56, 57, 58, 59, 67, 68, 69, 71] F0 G0 F G) : PP (mb_tellHere_47 fu x2 x3 F G) (fun _ F' G' => KX [14, 42, 43, 44, 45, 47, 48, 49, 52, 53, 54, 55, 60, 62, 70, 72] [16, 17, 18, 19, 20, 21, 22, 23, 56, 57, 58, 59, 67, 68, 69, 71] F0 G0 F' G') := by
  unfold mb_tellHere_47
  refine PP.bind (mw_twice x3 F G) ?_
  intro r1 F1 G1 hK1
  dsimp only
  unfold mb_tellHere_52
  refine PP.bind (mw_openSign (24 : Int32) F1 G1) ?_
  intro r2 F2 G2 hK2
  dsimp only
  unfold mb_tellHere_58
  refine PP.ite (fun c_3 => ?_) (fun c_3 => ?_)
  · skip
    unfold mb_tellHere_61
    refine PP.ret ?_
    exact (KX.tr (KX.tr hK hK1 rfl rfl) hK2 rfl rfl)
  · skip
    unfold mb_tellHere_63
    refine PP.bind (mw_sizeHere F2 G2) ?_
    intro r4 F4 G4 hK4
    dsimp only
    unfold mb_tellHere_67
    refine PP.bind (mw_closeSign (25 : Int32) F4 G4) ?_
    intro r5 F5 G5 hK5
    dsimp only
    unfold mb_tellHere_75
    refine PP.ite (fun c_6 => ?_) (fun c_6 => ?_)
    · skip
      unfold mb_tellHere_78
      refine PP.ret ?_
      exact (KX.tr (KX.tr (KX.tr (KX.tr hK hK1 rfl rfl) hK2 rfl rfl) hK4 rfl rfl) hK5 rfl rfl)
    · skip
      unfold mb_tellHere_80
      refine PP.ite (fun c_7 => ?_) (fun c_7 => ?_)
      · skip
        unfold mb_tellHere_91
        exact mwj_tellHere_110 x2 x3 r4 (0 : Int32) (F5 52) F5 G5 (KX.tr (KX.tr (KX.tr (KX.tr hK hK1 rfl rfl) hK2 rfl rfl) hK4 rfl rfl) hK5 rfl rfl)
      · skip
        unfold mb_tellHere_95
        refine PP.ite (fun c_8 => ?_) (fun c_8 => ?_)
        · skip
          unfold mb_tellHere_108
          exact mwj_tellHere_110 x2 x3 r4 r4 (F5 52) F5 G5 (KX.tr (KX.tr (KX.tr (KX.tr hK hK1 rfl rfl) hK2 rfl rfl) hK4 rfl rfl) hK5 rfl rfl)
        · skip
          unfold mb_tellHere_99
          exact mwj_tellHere_110 x2 x3 r4 ((r4 + (3 : Int32)) / (4 : Int32)) (F5 52) F5 G5 (KX.tr (KX.tr (KX.tr (KX.tr hK hK1 rfl rfl) hK2 rfl rfl) hK4 rfl rfl) hK5 rfl rfl)
theorem mw_tellHere {fu : Nat} (x1 : Int32) (F : PF) (G : PG) : PP (mf_tellHere fu x1 F G) (fun _ F' G' => KX [14, 42, 43, 44, 45, 47, 48, 49, 52, 53, 54, 55, 60, 62, 70, 72] [16, 17, 18, 19, 20, 21, 22, 23, 56, 57, 58, 59, 67, 68, 69, 71] F G F' G') := by
  unfold mf_tellHere
  unfold mb_tellHere_0
  refine PP.bind (mw_isWord (1 : Int32) F G) ?_
  intro r1 F1 G1 hK1
  dsimp only
  unfold mb_tellHere_5
  unfold mb_tellHere_16
  refine PP.bind (mw_name (fup F1 42 ((F1 42) + (1 : Int32))) G1) ?_
  intro r2 F2 G2 hK2
  dsimp only
  unfold mb_tellHere_20
  refine PP.ite (fun c_3 => ?_) (fun c_3 => ?_)
  · skip
    unfold mb_tellHere_30
    refine PP.ite (fun c_4 => ?_) (fun c_4 => ?_)
    · skip
      exact mwj_tellHere_210 x1 r2 F2 G2 (KX.tr (KX.f (k := 42) rfl (KX.tr KX.rf hK1 rfl rfl)) hK2 rfl rfl)
    · skip
      unfold mb_tellHere_34
      refine PP.ite (fun c_5 => ?_) (fun c_5 => ?_)
      · skip
        unfold mb_tellHere_38
        refine PP.bind (mw_isSign (24 : Int32) F2 G2) ?_
        intro r6 F6 G6 hK6
        dsimp only
        unfold mb_tellHere_44
        refine PP.ite (fun c_7 => ?_) (fun c_7 => ?_)
        · skip
          exact mwj_tellHere_210 x1 r2 F6 G6 (KX.tr (KX.tr (KX.f (k := 42) rfl (KX.tr KX.rf hK1 rfl rfl)) hK2 rfl rfl) hK6 rfl rfl)
        · skip
          exact mwj_tellHere_47 r1 r2 F6 G6 (KX.tr (KX.tr (KX.f (k := 42) rfl (KX.tr KX.rf hK1 rfl rfl)) hK2 rfl rfl) hK6 rfl rfl)
      · skip
        exact mwj_tellHere_47 r1 r2 F2 G2 (KX.tr (KX.f (k := 42) rfl (KX.tr KX.rf hK1 rfl rfl)) hK2 rfl rfl)
  · skip
    unfold mb_tellHere_28
    refine PP.ret ?_
    exact (KX.tr (KX.f (k := 42) rfl (KX.tr KX.rf hK1 rfl rfl)) hK2 rfl rfl)
theorem mwj_leaves_93 {fu : Nat} {F0 : PF} {G0 : PG} (F : PF) (G : PG) (hK : KX [42, 44, 45, 47, 48, 49, 60, 63, 64] [56, 57, 58] F0 G0 F G) : PP (mb_leaves_93 fu F G) (fun _ F' G' => KX [42, 44, 45, 47, 48, 49, 60, 63, 64] [56, 57, 58] F0 G0 F' G') := by
  unfold mb_leaves_93
  refine PP.bind (mw_sign (29 : Int32) F G) ?_
  intro r1 F1 G1 hK1
  dsimp only
  unfold mb_leaves_99
  refine PP.bz (fun _ => ?_)
  refine PP.ret ?_
  exact (KX.tr hK hK1 rfl rfl)
theorem mwj_leaves_75 {fu : Nat} {F0 : PF} {G0 : PG} (x1 : Int32) (x2 : Int32) (z0 : Int32) (z1 : Int32) (F : PF) (G : PG) (hK : KX [42, 44, 45, 47, 48, 49, 60, 63, 64] [56, 57, 58] F0 G0 F G) : PP (mb_leaves_75 fu x1 x2 z0 z1 F G) (fun _ F' G' => KX [42, 44, 45, 47, 48, 49, 60, 63, 64] [56, 57, 58] F0 G0 F' G') := by
  unfold mb_leaves_75
  refine PP.ix (fun _ => ?_)
  unfold mb_leaves_76
  refine PP.ite (fun c_1 => ?_) (fun c_1 => ?_)
  · skip
    unfold mb_leaves_88
    exact mwj_leaves_93 (fup F 64 x2) (gup G 57 z1.toNatClampNeg z0) (KX.f (k := 64) rfl (KX.g (k := 57) rfl hK))
  · skip
    unfold mb_leaves_80
    unfold mb_leaves_85
    exact mwj_leaves_93 (fup F 63 x2) (gup G 57 z1.toNatClampNeg z0) (KX.f (k := 63) rfl (KX.g (k := 57) rfl hK))
theorem mwj_leaves_29 {fu : Nat} {F0 : PF} {G0 : PG} (x1 : Int32) (F : PF) (G : PG) (hK : KX [42, 44, 45, 47, 48, 49, 60, 63, 64] [56, 57, 58] F0 G0 F G) : PP (mb_leaves_29 fu x1 F G) (fun _ F' G' => KX [42, 44, 45, 47, 48, 49, 60, 63, 64] [56, 57, 58] F0 G0 F' G') := by
  unfold mb_leaves_29
  unfold mb_leaves_39
  refine PP.bind (mw_step (12 : Int32) (0 : Int32) (0 : Int32) (fup F 42 ((F 42) + (1 : Int32))) G) ?_
  intro r1 F1 G1 hK1
  dsimp only
  unfold mb_leaves_47
  refine PP.ite (fun c_2 => ?_) (fun c_2 => ?_)
  · skip
    exact mwj_leaves_93 F1 G1 (KX.tr (KX.f (k := 42) rfl hK) hK1 rfl rfl)
  · skip
    unfold mb_leaves_55
    refine PP.ite (fun c_3 => ?_) (fun c_3 => ?_)
    · skip
      unfold mb_leaves_71
      exact mwj_leaves_75 x1 r1 (F1 64) r1 F1 G1 (KX.tr (KX.f (k := 42) rfl hK) hK1 rfl rfl)
    · skip
      unfold mb_leaves_64
      exact mwj_leaves_75 x1 r1 (F1 63) r1 F1 G1 (KX.tr (KX.f (k := 42) rfl hK) hK1 rfl rfl)
theorem mw_leaves {fu : Nat} (F : PF) (G : PG) : PP (mf_leaves fu F G) (fun _ F' G' => KX [42, 44, 45, 47, 48, 49, 60, 63, 64] [56, 57, 58] F G F' G') := by
  unfold mf_leaves
  unfold mb_leaves_0
  refine PP.bind (mw_isWord (9 : Int32) F G) ?_
  intro r1 F1 G1 hK1
  dsimp only
  unfold mb_leaves_6
  refine PP.ite (fun c_2 => ?_) (fun c_2 => ?_)
  · skip
    unfold mb_leaves_14
    refine PP.ix (fun _ => ?_)
    refine PP.bind (mw_note (9 : Int32) (G1 6 (F1 42).toNatClampNeg) F1 G1) ?_
    intro r3 F3 G3 hK3
    dsimp only
    exact mwj_leaves_29 r1 F3 G3 (KX.tr (KX.tr KX.rf hK1 rfl rfl) hK3 rfl rfl)
  · skip
    exact mwj_leaves_29 r1 F1 G1 (KX.tr KX.rf hK1 rfl rfl)
def mKI2 (rc : RC) : Prop := ∀ (i : Nat) (x y : Int32) (F : PF) (G : PG), PP (rc i x y F G) (fun _ F' G' => KX [14, 15, 42, 43, 44, 45, 47, 48, 49, 51, 52, 53, 54, 55, 60, 62, 63, 64, 65, 66, 70, 72] [16, 17, 18, 19, 20, 21, 22, 23, 56, 57, 58, 59, 67, 68, 69, 71] F G F' G')
theorem mwj_block_35 {fu : Nat} (rc : RC) (ih : mKI2 rc) {F0 : PF} {G0 : PG} (F : PF) (G : PG) (hK : KX [14, 15, 42, 43, 44, 45, 47, 48, 49, 51, 52, 53, 54, 55, 60, 62, 63, 64, 65, 66, 70, 72] [16, 17, 18, 19, 20, 21, 22, 23, 56, 57, 58, 59, 67, 68, 69, 71] F0 G0 F G) : PP (mb_block_35 fu rc F G) (fun _ F' G' => KX [14, 15, 42, 43, 44, 45, 47, 48, 49, 51, 52, 53, 54, 55, 60, 62, 63, 64, 65, 66, 70, 72] [16, 17, 18, 19, 20, 21, 22, 23, 56, 57, 58, 59, 67, 68, 69, 71] F0 G0 F' G') := by
  unfold mb_block_35
  refine PP.bind (mw_closeSign (27 : Int32) F G) ?_
  intro r1 F1 G1 hK1
  dsimp only
  unfold mb_block_41
  refine PP.bz (fun _ => ?_)
  refine PP.ret ?_
  exact (KX.tr hK hK1 rfl rfl)
theorem mwz_block_11 {fu : Nat} (rc : RC) (ih : mKI2 rc) {F0 : PF} {G0 : PG} : ∀ (n : Nat) (F : PF) (G : PG) (hK : KX [14, 15, 42, 43, 44, 45, 47, 48, 49, 51, 52, 53, 54, 55, 60, 62, 63, 64, 65, 66, 70, 72] [16, 17, 18, 19, 20, 21, 22, 23, 56, 57, 58, 59, 67, 68, 69, 71] F0 G0 F G), PP (ml_block_11 fu rc n F G) (fun _ F' G' => KX [14, 15, 42, 43, 44, 45, 47, 48, 49, 51, 52, 53, 54, 55, 60, 62, 63, 64, 65, 66, 70, 72] [16, 17, 18, 19, 20, 21, 22, 23, 56, 57, 58, 59, 67, 68, 69, 71] F0 G0 F' G') := by
  intro n
  induction n with
  | zero =>
    intro F G hK
    exact PP.no
  | succ n ihn =>
    intro F G hK
    show PP (mb_block_11 fu rc (ml_block_11 fu rc n) F G) _
    unfold mb_block_11
    refine PP.ite (fun c_1 => ?_) (fun c_1 => ?_)
    · skip
      unfold mb_block_18
      refine PP.bind (mw_isSign (27 : Int32) F G) ?_
      intro r2 F2 G2 hK2
      dsimp only
      unfold mb_block_24
      refine PP.ite (fun c_3 => ?_) (fun c_3 => ?_)
      · skip
        unfold mb_block_27
        refine PP.bind (ih 6 0 0 F2 G2) ?_
        intro r4 F4 G4 hK4
        dsimp only
        unfold mb_block_31
        exact ihn F4 G4 (KX.tr (KX.tr hK hK2 rfl rfl) hK4 rfl rfl)
      · skip
        exact mwj_block_35 rc ih F2 G2 (KX.tr hK hK2 rfl rfl)
    · skip
      exact mwj_block_35 rc ih F G hK
theorem mwt_block {fu : Nat} (rc : RC) (ih : mKI2 rc) (F : PF) (G : PG) : PP (mh_block fu rc F G) (fun _ F' G' => KX [14, 15, 42, 43, 44, 45, 47, 48, 49, 51, 52, 53, 54, 55, 60, 62, 63, 64, 65, 66, 70, 72] [16, 17, 18, 19, 20, 21, 22, 23, 56, 57, 58, 59, 67, 68, 69, 71] F G F' G') := by
  unfold mh_block
  unfold mb_block_0
  refine PP.bind (mw_openSign (26 : Int32) F G) ?_
  intro r1 F1 G1 hK1
  dsimp only
  unfold mb_block_6
  refine PP.ite (fun c_2 => ?_) (fun c_2 => ?_)
  · skip
    unfold mb_block_9
    refine PP.ret ?_
    exact (KX.tr KX.rf hK1 rfl rfl)
  · skip
    exact mwz_block_11 rc ih fu F1 G1 (KX.tr KX.rf hK1 rfl rfl)
theorem mwj_body_90 {fu : Nat} (rc : RC) (ih : mKI2 rc) {F0 : PF} {G0 : PG} (x2 : Int32) (x4 : Int32) (F : PF) (G : PG) (hK : KX [14, 15, 42, 43, 44, 45, 47, 48, 49, 51, 52, 53, 54, 55, 60, 62, 63, 64, 65, 66, 70, 72] [16, 17, 18, 19, 20, 21, 22, 23, 56, 57, 58, 59, 67, 68, 69, 71] F0 G0 F G) : PP (mb_body_90 fu rc x2 x4 F G) (fun _ F' G' => KX [14, 15, 42, 43, 44, 45, 47, 48, 49, 51, 52, 53, 54, 55, 60, 62, 63, 64, 65, 66, 70, 72] [16, 17, 18, 19, 20, 21, 22, 23, 56, 57, 58, 59, 67, 68, 69, 71] F0 G0 F' G') := by
  unfold mb_body_90
  unfold mb_body_98
  unfold mb_body_103
  refine PP.bz (fun _ => ?_)
  refine PP.ret ?_
  exact (KX.f (k := 63) rfl (KX.f (k := 65) rfl hK))
theorem mwt_body {fu : Nat} (rc : RC) (ih : mKI2 rc) (x1 : Int32) (F : PF) (G : PG) : PP (mh_body fu rc x1 F G) (fun _ F' G' => KX [14, 15, 42, 43, 44, 45, 47, 48, 49, 51, 52, 53, 54, 55, 60, 62, 63, 64, 65, 66, 70, 72] [16, 17, 18, 19, 20, 21, 22, 23, 56, 57, 58, 59, 67, 68, 69, 71] F G F' G') := by
  unfold mh_body
  unfold mb_body_0
  unfold mb_body_15
  unfold mb_body_20
  unfold mb_body_30
  refine PP.bind (mw_step (15 : Int32) (0 : Int32) (0 : Int32) (fup (fup (fup F 63 (-1 : Int32)) 64 (-1 : Int32)) 51 ((F 51) + (1 : Int32))) G) ?_
  intro r1 F1 G1 hK1
  dsimp only
  unfold mb_body_38
  refine PP.bind (ih 5 0 0 F1 G1) ?_
  intro r2 F2 G2 hK2
  dsimp only
  unfold mb_body_43
  unfold mb_body_55
  refine PP.ite (fun c_3 => ?_) (fun c_3 => ?_)
  · skip
    unfold mb_body_77
    unfold mb_body_85
    exact mwj_body_90 rc ih (F 63) r2 (fup (fup (fup F2 51 ((F2 51) - (1 : Int32))) 66 (F2 64)) 64 (F 64)) G2 (KX.f (k := 64) rfl (KX.f (k := 66) rfl (KX.f (k := 51) rfl (KX.tr (KX.tr (KX.f (k := 51) rfl (KX.f (k := 64) rfl (KX.f (k := 63) rfl KX.rf))) hK1 rfl rfl) hK2 rfl rfl))))
  · skip
    unfold mb_body_60
    refine PP.bind (mw_settle (F2 64) x1 (fup F2 51 ((F2 51) - (1 : Int32))) G2) ?_
    intro r4 F4 G4 hK4
    dsimp only
    unfold mb_body_69
    unfold mb_body_74
    exact mwj_body_90 rc ih (F 63) r2 (fup F4 64 (F 64)) G4 (KX.f (k := 64) rfl (KX.tr (KX.f (k := 51) rfl (KX.tr (KX.tr (KX.f (k := 51) rfl (KX.f (k := 64) rfl (KX.f (k := 63) rfl KX.rf))) hK1 rfl rfl) hK2 rfl rfl)) hK4 rfl rfl))
theorem mwj_choice_14 {fu : Nat} (rc : RC) (ih : mKI2 rc) {F0 : PF} {G0 : PG} (F : PF) (G : PG) (hK : KX [14, 15, 42, 43, 44, 45, 47, 48, 49, 51, 52, 53, 54, 55, 60, 62, 63, 64, 65, 66, 70, 72] [16, 17, 18, 19, 20, 21, 22, 23, 56, 57, 58, 59, 67, 68, 69, 71] F0 G0 F G) : PP (mb_choice_14 fu rc F G) (fun _ F' G' => KX [14, 15, 42, 43, 44, 45, 47, 48, 49, 51, 52, 53, 54, 55, 60, 62, 63, 64, 65, 66, 70, 72] [16, 17, 18, 19, 20, 21, 22, 23, 56, 57, 58, 59, 67, 68, 69, 71] F0 G0 F' G') := by
  unfold mb_choice_14
  refine PP.ret ?_
  exact hK
theorem mwj_choice_132 {fu : Nat} (rc : RC) (ih : mKI2 rc) {F0 : PF} {G0 : PG} (z0 : Int32) (F : PF) (G : PG) (hK : KX [14, 15, 42, 43, 44, 45, 47, 48, 49, 51, 52, 53, 54, 55, 60, 62, 63, 64, 65, 66, 70, 72] [16, 17, 18, 19, 20, 21, 22, 23, 56, 57, 58, 59, 67, 68, 69, 71] F0 G0 F G) : PP (mb_choice_132 fu rc z0 F G) (fun _ F' G' => KX [14, 15, 42, 43, 44, 45, 47, 48, 49, 51, 52, 53, 54, 55, 60, 62, 63, 64, 65, 66, 70, 72] [16, 17, 18, 19, 20, 21, 22, 23, 56, 57, 58, 59, 67, 68, 69, 71] F0 G0 F' G') := by
  unfold mb_choice_132
  refine PP.bz (fun _ => ?_)
  refine PP.ret ?_
  exact hK
theorem mwj_choice_110 {fu : Nat} (rc : RC) (ih : mKI2 rc) {F0 : PF} {G0 : PG} (F : PF) (G : PG) (hK : KX [14, 15, 42, 43, 44, 45, 47, 48, 49, 51, 52, 53, 54, 55, 60, 62, 63, 64, 65, 66, 70, 72] [16, 17, 18, 19, 20, 21, 22, 23, 56, 57, 58, 59, 67, 68, 69, 71] F0 G0 F G) : PP (mb_choice_110 fu rc F G) (fun _ F' G' => KX [14, 15, 42, 43, 44, 45, 47, 48, 49, 51, 52, 53, 54, 55, 60, 62, 63, 64, 65, 66, 70, 72] [16, 17, 18, 19, 20, 21, 22, 23, 56, 57, 58, 59, 67, 68, 69, 71] F0 G0 F' G') := by
  unfold mb_choice_110
  unfold mb_choice_120
  refine PP.ite (fun c_1 => ?_) (fun c_1 => ?_)
  · skip
    unfold mb_choice_127
    exact mwj_choice_132 rc ih (1 : Int32) (fup F 43 ((F 43) - (1 : Int32))) G (KX.f (k := 43) rfl hK)
  · skip
    unfold mb_choice_131
    exact mwj_choice_132 rc ih (0 : Int32) (fup F 43 ((F 43) - (1 : Int32))) G (KX.f (k := 43) rfl hK)
theorem mwj_choice_100 {fu : Nat} (rc : RC) (ih : mKI2 rc) {F0 : PF} {G0 : PG} (x1 : Int32) (F : PF) (G : PG) (hK : KX [14, 15, 42, 43, 44, 45, 47, 48, 49, 51, 52, 53, 54, 55, 60, 62, 63, 64, 65, 66, 70, 72] [16, 17, 18, 19, 20, 21, 22, 23, 56, 57, 58, 59, 67, 68, 69, 71] F0 G0 F G) : PP (mb_choice_100 fu rc x1 F G) (fun _ F' G' => KX [14, 15, 42, 43, 44, 45, 47, 48, 49, 51, 52, 53, 54, 55, 60, 62, 63, 64, 65, 66, 70, 72] [16, 17, 18, 19, 20, 21, 22, 23, 56, 57, 58, 59, 67, 68, 69, 71] F0 G0 F' G') := by
  unfold mb_choice_100
  refine PP.ix (fun _ => ?_)
  exact mwj_choice_110 rc ih F (gup G 57 x1.toNatClampNeg (F 60)) (KX.g (k := 57) rfl hK)
theorem mwt_choice {fu : Nat} (rc : RC) (ih : mKI2 rc) (F : PF) (G : PG) : PP (mh_choice fu rc F G) (fun _ F' G' => KX [14, 15, 42, 43, 44, 45, 47, 48, 49, 51, 52, 53, 54, 55, 60, 62, 63, 64, 65, 66, 70, 72] [16, 17, 18, 19, 20, 21, 22, 23, 56, 57, 58, 59, 67, 68, 69, 71] F G F' G') := by
  unfold mh_choice
  unfold mb_choice_0
  refine PP.bind (mw_opens F G) ?_
  intro r1 F1 G1 hK1
  dsimp only
  unfold mb_choice_4
  refine PP.ite (fun c_2 => ?_) (fun c_2 => ?_)
  · skip
    exact mwj_choice_14 rc ih F1 G1 (KX.tr KX.rf hK1 rfl rfl)
  · skip
    unfold mb_choice_7
    refine PP.bind (mw_condition F1 G1) ?_
    intro r3 F3 G3 hK3
    dsimp only
    unfold mb_choice_11
    refine PP.ite (fun c_4 => ?_) (fun c_4 => ?_)
    · skip
      exact mwj_choice_14 rc ih F3 G3 (KX.tr (KX.tr KX.rf hK1 rfl rfl) hK3 rfl rfl)
    · skip
      unfold mb_choice_16
      refine PP.bind (mw_step (13 : Int32) (0 : Int32) (0 : Int32) F3 G3) ?_
      intro r5 F5 G5 hK5
      dsimp only
      unfold mb_choice_24
      refine PP.bind (ih 5 0 0 F5 G5) ?_
      intro r6 F6 G6 hK6
      dsimp only
      unfold mb_choice_29
      refine PP.ite (fun c_7 => ?_) (fun c_7 => ?_)
      · skip
        unfold mb_choice_32
        refine PP.ret ?_
        exact (KX.tr (KX.tr (KX.tr (KX.tr KX.rf hK1 rfl rfl) hK3 rfl rfl) hK5 rfl rfl) hK6 rfl rfl)
      · skip
        unfold mb_choice_34
        refine PP.ite (fun c_8 => ?_) (fun c_8 => ?_)
        · skip
          unfold mb_choice_41
          refine PP.bind (mw_isWord (5 : Int32) F6 G6) ?_
          intro r9 F9 G9 hK9
          dsimp only
          unfold mb_choice_46
          refine PP.ite (fun c_10 => ?_) (fun c_10 => ?_)
          · skip
            exact mwj_choice_100 rc ih r5 F9 G9 (KX.tr (KX.tr (KX.tr (KX.tr (KX.tr KX.rf hK1 rfl rfl) hK3 rfl rfl) hK5 rfl rfl) hK6 rfl rfl) hK9 rfl rfl)
          · skip
            unfold mb_choice_49
            unfold mb_choice_59
            refine PP.bind (mw_step (12 : Int32) (0 : Int32) (0 : Int32) (fup F9 42 ((F9 42) + (1 : Int32))) G9) ?_
            intro r11 F11 G11 hK11
            dsimp only
            unfold mb_choice_67
            refine PP.ix (fun _ => ?_)
            unfold mb_choice_78
            refine PP.bind (ih 5 0 0 F11 (gup G11 57 r5.toNatClampNeg (F11 60))) ?_
            intro r12 F12 G12 hK12
            dsimp only
            unfold mb_choice_82
            refine PP.ite (fun c_13 => ?_) (fun c_13 => ?_)
            · skip
              unfold mb_choice_85
              refine PP.ret ?_
              exact (KX.tr (KX.g (k := 57) rfl (KX.tr (KX.f (k := 42) rfl (KX.tr (KX.tr (KX.tr (KX.tr (KX.tr KX.rf hK1 rfl rfl) hK3 rfl rfl) hK5 rfl rfl) hK6 rfl rfl) hK9 rfl rfl)) hK11 rfl rfl)) hK12 rfl rfl)
            · skip
              unfold mb_choice_87
              refine PP.ix (fun _ => ?_)
              unfold mb_choice_97
              exact mwj_choice_110 rc ih F12 (gup G12 57 r11.toNatClampNeg (F12 60)) (KX.g (k := 57) rfl (KX.tr (KX.g (k := 57) rfl (KX.tr (KX.f (k := 42) rfl (KX.tr (KX.tr (KX.tr (KX.tr (KX.tr KX.rf hK1 rfl rfl) hK3 rfl rfl) hK5 rfl rfl) hK6 rfl rfl) hK9 rfl rfl)) hK11 rfl rfl)) hK12 rfl rfl))
        · skip
          exact mwj_choice_100 rc ih r5 F6 G6 (KX.tr (KX.tr (KX.tr (KX.tr KX.rf hK1 rfl rfl) hK3 rfl rfl) hK5 rfl rfl) hK6 rfl rfl)
theorem mwj_counted_16 {fu : Nat} (rc : RC) (ih : mKI2 rc) {F0 : PF} {G0 : PG} (F : PF) (G : PG) (hK : KX [14, 15, 42, 43, 44, 45, 47, 48, 49, 51, 52, 53, 54, 55, 60, 62, 63, 64, 65, 66, 70, 72] [16, 17, 18, 19, 20, 21, 22, 23, 56, 57, 58, 59, 67, 68, 69, 71] F0 G0 F G) : PP (mb_counted_16 fu rc F G) (fun _ F' G' => KX [14, 15, 42, 43, 44, 45, 47, 48, 49, 51, 52, 53, 54, 55, 60, 62, 63, 64, 65, 66, 70, 72] [16, 17, 18, 19, 20, 21, 22, 23, 56, 57, 58, 59, 67, 68, 69, 71] F0 G0 F' G') := by
  unfold mb_counted_16
  refine PP.ret ?_
  exact hK
theorem mwj_counted_226 {fu : Nat} (rc : RC) (ih : mKI2 rc) {F0 : PF} {G0 : PG} (x1 : Int32) (x6 : Int32) (F : PF) (G : PG) (hK : KX [14, 15, 42, 43, 44, 45, 47, 48, 49, 51, 52, 53, 54, 55, 60, 62, 63, 64, 65, 66, 70, 72] [16, 17, 18, 19, 20, 21, 22, 23, 56, 57, 58, 59, 67, 68, 69, 71] F0 G0 F G) : PP (mb_counted_226 fu rc x1 x6 F G) (fun _ F' G' => KX [14, 15, 42, 43, 44, 45, 47, 48, 49, 51, 52, 53, 54, 55, 60, 62, 63, 64, 65, 66, 70, 72] [16, 17, 18, 19, 20, 21, 22, 23, 56, 57, 58, 59, 67, 68, 69, 71] F0 G0 F' G') := by
  unfold mb_counted_226
  refine PP.bind (mw_settle x6 (F 60) F G) ?_
  intro r1 F1 G1 hK1
  dsimp only
  unfold mb_counted_236
  refine PP.bind (mw_ends x1 F1 G1) ?_
  intro r2 F2 G2 hK2
  dsimp only
  unfold mb_counted_241
  unfold mb_counted_251
  refine PP.ret ?_
  exact (KX.f (k := 43) rfl (KX.tr (KX.tr hK hK1 rfl rfl) hK2 rfl rfl))
theorem mwj_counted_153 {fu : Nat} (rc : RC) (ih : mKI2 rc) {F0 : PF} {G0 : PG} (x1 : Int32) (x2 : Int32) (x3 : Int32) (x4 : Int32) (x5 : Int32) (F : PF) (G : PG) (hK : KX [14, 15, 42, 43, 44, 45, 47, 48, 49, 51, 52, 53, 54, 55, 60, 62, 63, 64, 65, 66, 70, 72] [16, 17, 18, 19, 20, 21, 22, 23, 56, 57, 58, 59, 67, 68, 69, 71] F0 G0 F G) : PP (mb_counted_153 fu rc x1 x2 x3 x4 x5 F G) (fun _ F' G' => KX [14, 15, 42, 43, 44, 45, 47, 48, 49, 51, 52, 53, 54, 55, 60, 62, 63, 64, 65, 66, 70, 72] [16, 17, 18, 19, 20, 21, 22, 23, 56, 57, 58, 59, 67, 68, 69, 71] F0 G0 F' G') := by
  unfold mb_counted_153
  refine PP.bind (mw_closeSign (23 : Int32) F G) ?_
  intro r1 F1 G1 hK1
  dsimp only
  unfold mb_counted_159
  refine PP.ite (fun c_2 => ?_) (fun c_2 => ?_)
  · skip
    unfold mb_counted_162
    refine PP.ret ?_
    exact (KX.tr hK hK1 rfl rfl)
  · skip
    unfold mb_counted_164
    refine PP.bind (mw_step (12 : Int32) x2 (0 : Int32) F1 G1) ?_
    intro r3 F3 G3 hK3
    dsimp only
    unfold mb_counted_172
    refine PP.ix (fun _ => ?_)
    unfold mb_counted_184
    refine PP.bind (ih 1 x5 0 F3 (gup G3 57 x4.toNatClampNeg (F3 60))) ?_
    intro r4 F4 G4 hK4
    dsimp only
    unfold mb_counted_190
    refine PP.ite (fun c_5 => ?_) (fun c_5 => ?_)
    · skip
      unfold mb_counted_193
      refine PP.ret ?_
      exact (KX.tr (KX.g (k := 57) rfl (KX.tr (KX.tr hK hK1 rfl rfl) hK3 rfl rfl)) hK4 rfl rfl)
    · skip
      unfold mb_counted_195
      refine PP.bind (mw_step (12 : Int32) x5 (0 : Int32) F4 G4) ?_
      intro r6 F6 G6 hK6
      dsimp only
      unfold mb_counted_210
      refine PP.ite (fun c_7 => ?_) (fun c_7 => ?_)
      · skip
        exact mwj_counted_226 rc ih x1 (F4 65) F6 G6 (KX.tr (KX.tr (KX.g (k := 57) rfl (KX.tr (KX.tr hK hK1 rfl rfl) hK3 rfl rfl)) hK4 rfl rfl) hK6 rfl rfl)
      · skip
        unfold mb_counted_216
        refine PP.ix (fun _ => ?_)
        exact mwj_counted_226 rc ih x1 (F4 65) F6 (gup G6 57 x3.toNatClampNeg (F6 60)) (KX.g (k := 57) rfl (KX.tr (KX.tr (KX.g (k := 57) rfl (KX.tr (KX.tr hK hK1 rfl rfl) hK3 rfl rfl)) hK4 rfl rfl) hK6 rfl rfl))
theorem mwj_counted_108 {fu : Nat} (rc : RC) (ih : mKI2 rc) {F0 : PF} {G0 : PG} (x1 : Int32) (x2 : Int32) (x3 : Int32) (F : PF) (G : PG) (hK : KX [14, 15, 42, 43, 44, 45, 47, 48, 49, 51, 52, 53, 54, 55, 60, 62, 63, 64, 65, 66, 70, 72] [16, 17, 18, 19, 20, 21, 22, 23, 56, 57, 58, 59, 67, 68, 69, 71] F0 G0 F G) : PP (mb_counted_108 fu rc x1 x2 x3 F G) (fun _ F' G' => KX [14, 15, 42, 43, 44, 45, 47, 48, 49, 51, 52, 53, 54, 55, 60, 62, 63, 64, 65, 66, 70, 72] [16, 17, 18, 19, 20, 21, 22, 23, 56, 57, 58, 59, 67, 68, 69, 71] F0 G0 F' G') := by
  unfold mb_counted_108
  refine PP.bind (mw_sign (29 : Int32) F G) ?_
  intro r1 F1 G1 hK1
  dsimp only
  unfold mb_counted_114
  refine PP.ite (fun c_2 => ?_) (fun c_2 => ?_)
  · skip
    unfold mb_counted_117
    refine PP.ret ?_
    exact (KX.tr hK hK1 rfl rfl)
  · skip
    unfold mb_counted_119
    refine PP.bind (mw_step (12 : Int32) (0 : Int32) (0 : Int32) F1 G1) ?_
    intro r3 F3 G3 hK3
    dsimp only
    unfold mb_counted_127
    refine PP.bind (mw_isSign (23 : Int32) F3 G3) ?_
    intro r4 F4 G4 hK4
    dsimp only
    unfold mb_counted_141
    refine PP.ite (fun c_5 => ?_) (fun c_5 => ?_)
    · skip
      unfold mb_counted_144
      refine PP.bind (mw_simple F4 G4) ?_
      intro r6 F6 G6 hK6
      dsimp only
      unfold mb_counted_148
      refine PP.ite (fun c_7 => ?_) (fun c_7 => ?_)
      · skip
        unfold mb_counted_151
        refine PP.ret ?_
        exact (KX.tr (KX.tr (KX.tr (KX.tr hK hK1 rfl rfl) hK3 rfl rfl) hK4 rfl rfl) hK6 rfl rfl)
      · skip
        exact mwj_counted_153 rc ih x1 x2 x3 r3 (F3 60) F6 G6 (KX.tr (KX.tr (KX.tr (KX.tr hK hK1 rfl rfl) hK3 rfl rfl) hK4 rfl rfl) hK6 rfl rfl)
    · skip
      exact mwj_counted_153 rc ih x1 x2 x3 r3 (F3 60) F4 G4 (KX.tr (KX.tr (KX.tr hK hK1 rfl rfl) hK3 rfl rfl) hK4 rfl rfl)
theorem mwj_counted_63 {fu : Nat} (rc : RC) (ih : mKI2 rc) {F0 : PF} {G0 : PG} (x1 : Int32) (F : PF) (G : PG) (hK : KX [14, 15, 42, 43, 44, 45, 47, 48, 49, 51, 52, 53, 54, 55, 60, 62, 63, 64, 65, 66, 70, 72] [16, 17, 18, 19, 20, 21, 22, 23, 56, 57, 58, 59, 67, 68, 69, 71] F0 G0 F G) : PP (mb_counted_63 fu rc x1 F G) (fun _ F' G' => KX [14, 15, 42, 43, 44, 45, 47, 48, 49, 51, 52, 53, 54, 55, 60, 62, 63, 64, 65, 66, 70, 72] [16, 17, 18, 19, 20, 21, 22, 23, 56, 57, 58, 59, 67, 68, 69, 71] F0 G0 F' G') := by
  unfold mb_counted_63
  refine PP.bind (mw_sign (29 : Int32) F G) ?_
  intro r1 F1 G1 hK1
  dsimp only
  unfold mb_counted_69
  refine PP.ite (fun c_2 => ?_) (fun c_2 => ?_)
  · skip
    unfold mb_counted_72
    refine PP.ret ?_
    exact (KX.tr hK hK1 rfl rfl)
  · skip
    unfold mb_counted_74
    refine PP.bind (mw_isSign (29 : Int32) F1 G1) ?_
    intro r3 F3 G3 hK3
    dsimp only
    unfold mb_counted_87
    refine PP.ite (fun c_4 => ?_) (fun c_4 => ?_)
    · skip
      unfold mb_counted_90
      refine PP.bind (mw_expression F3 G3) ?_
      intro r5 F5 G5 hK5
      dsimp only
      unfold mb_counted_94
      refine PP.ite (fun c_6 => ?_) (fun c_6 => ?_)
      · skip
        unfold mb_counted_97
        refine PP.ret ?_
        exact (KX.tr (KX.tr (KX.tr hK hK1 rfl rfl) hK3 rfl rfl) hK5 rfl rfl)
      · skip
        unfold mb_counted_99
        refine PP.bind (mw_step (13 : Int32) (0 : Int32) (0 : Int32) F5 G5) ?_
        intro r7 F7 G7 hK7
        dsimp only
        unfold mb_counted_107
        exact mwj_counted_108 rc ih x1 (F1 60) r7 F7 G7 (KX.tr (KX.tr (KX.tr (KX.tr hK hK1 rfl rfl) hK3 rfl rfl) hK5 rfl rfl) hK7 rfl rfl)
    · skip
      exact mwj_counted_108 rc ih x1 (F1 60) (-1 : Int32) F3 G3 (KX.tr (KX.tr hK hK1 rfl rfl) hK3 rfl rfl)
theorem mwj_counted_56 {fu : Nat} (rc : RC) (ih : mKI2 rc) {F0 : PF} {G0 : PG} (x1 : Int32) (z0 : Int32) (F : PF) (G : PG) (hK : KX [14, 15, 42, 43, 44, 45, 47, 48, 49, 51, 52, 53, 54, 55, 60, 62, 63, 64, 65, 66, 70, 72] [16, 17, 18, 19, 20, 21, 22, 23, 56, 57, 58, 59, 67, 68, 69, 71] F0 G0 F G) : PP (mb_counted_56 fu rc x1 z0 F G) (fun _ F' G' => KX [14, 15, 42, 43, 44, 45, 47, 48, 49, 51, 52, 53, 54, 55, 60, 62, 63, 64, 65, 66, 70, 72] [16, 17, 18, 19, 20, 21, 22, 23, 56, 57, 58, 59, 67, 68, 69, 71] F0 G0 F' G') := by
  unfold mb_counted_56
  refine PP.ite (fun c_1 => ?_) (fun c_1 => ?_)
  · skip
    unfold mb_counted_61
    refine PP.ret ?_
    exact hK
  · skip
    exact mwj_counted_63 rc ih x1 F G hK
theorem mwt_counted {fu : Nat} (rc : RC) (ih : mKI2 rc) (F : PF) (G : PG) : PP (mh_counted fu rc F G) (fun _ F' G' => KX [14, 15, 42, 43, 44, 45, 47, 48, 49, 51, 52, 53, 54, 55, 60, 62, 63, 64, 65, 66, 70, 72] [16, 17, 18, 19, 20, 21, 22, 23, 56, 57, 58, 59, 67, 68, 69, 71] F G F' G') := by
  unfold mh_counted
  unfold mb_counted_0
  refine PP.bind (mw_opens F G) ?_
  intro r1 F1 G1 hK1
  dsimp only
  unfold mb_counted_4
  refine PP.ite (fun c_2 => ?_) (fun c_2 => ?_)
  · skip
    exact mwj_counted_16 rc ih F1 G1 (KX.tr KX.rf hK1 rfl rfl)
  · skip
    unfold mb_counted_7
    refine PP.bind (mw_openSign (22 : Int32) F1 G1) ?_
    intro r3 F3 G3 hK3
    dsimp only
    unfold mb_counted_13
    refine PP.ite (fun c_4 => ?_) (fun c_4 => ?_)
    · skip
      exact mwj_counted_16 rc ih F3 G3 (KX.tr (KX.tr KX.rf hK1 rfl rfl) hK3 rfl rfl)
    · skip
      unfold mb_counted_18
      refine PP.bind (mw_begins F3 G3) ?_
      intro r5 F5 G5 hK5
      dsimp only
      unfold mb_counted_27
      refine PP.bind (mw_isSign (29 : Int32) F5 G5) ?_
      intro r6 F6 G6 hK6
      dsimp only
      unfold mb_counted_33
      refine PP.ite (fun c_7 => ?_) (fun c_7 => ?_)
      · skip
        unfold mb_counted_36
        refine PP.bind (mw_isWord (0 : Int32) F6 G6) ?_
        intro r8 F8 G8 hK8
        dsimp only
        unfold mb_counted_41
        refine PP.ite (fun c_9 => ?_) (fun c_9 => ?_)
        · skip
          unfold mb_counted_52
          refine PP.bind (mw_simple F8 G8) ?_
          intro r10 F10 G10 hK10
          dsimp only
          exact mwj_counted_56 rc ih (F3 15) r10 F10 G10 (KX.tr (KX.tr (KX.tr (KX.tr (KX.tr (KX.tr KX.rf hK1 rfl rfl) hK3 rfl rfl) hK5 rfl rfl) hK6 rfl rfl) hK8 rfl rfl) hK10 rfl rfl)
        · skip
          unfold mb_counted_44
          refine PP.bind (mw_tellHere (0 : Int32) F8 G8) ?_
          intro r11 F11 G11 hK11
          dsimp only
          unfold mb_counted_49
          exact mwj_counted_56 rc ih (F3 15) r11 F11 G11 (KX.tr (KX.tr (KX.tr (KX.tr (KX.tr (KX.tr KX.rf hK1 rfl rfl) hK3 rfl rfl) hK5 rfl rfl) hK6 rfl rfl) hK8 rfl rfl) hK11 rfl rfl)
      · skip
        exact mwj_counted_63 rc ih (F3 15) F6 G6 (KX.tr (KX.tr (KX.tr (KX.tr KX.rf hK1 rfl rfl) hK3 rfl rfl) hK5 rfl rfl) hK6 rfl rfl)
theorem mwj_loop_19 {fu : Nat} (rc : RC) (ih : mKI2 rc) {F0 : PF} {G0 : PG} (F : PF) (G : PG) (hK : KX [14, 15, 42, 43, 44, 45, 47, 48, 49, 51, 52, 53, 54, 55, 60, 62, 63, 64, 65, 66, 70, 72] [16, 17, 18, 19, 20, 21, 22, 23, 56, 57, 58, 59, 67, 68, 69, 71] F0 G0 F G) : PP (mb_loop_19 fu rc F G) (fun _ F' G' => KX [14, 15, 42, 43, 44, 45, 47, 48, 49, 51, 52, 53, 54, 55, 60, 62, 63, 64, 65, 66, 70, 72] [16, 17, 18, 19, 20, 21, 22, 23, 56, 57, 58, 59, 67, 68, 69, 71] F0 G0 F' G') := by
  unfold mb_loop_19
  refine PP.ret ?_
  exact hK
theorem mwt_loop {fu : Nat} (rc : RC) (ih : mKI2 rc) (F : PF) (G : PG) : PP (mh_loop fu rc F G) (fun _ F' G' => KX [14, 15, 42, 43, 44, 45, 47, 48, 49, 51, 52, 53, 54, 55, 60, 62, 63, 64, 65, 66, 70, 72] [16, 17, 18, 19, 20, 21, 22, 23, 56, 57, 58, 59, 67, 68, 69, 71] F G F' G') := by
  unfold mh_loop
  unfold mb_loop_0
  refine PP.bind (mw_opens F G) ?_
  intro r1 F1 G1 hK1
  dsimp only
  unfold mb_loop_9
  refine PP.ite (fun c_2 => ?_) (fun c_2 => ?_)
  · skip
    exact mwj_loop_19 rc ih F1 G1 (KX.tr KX.rf hK1 rfl rfl)
  · skip
    unfold mb_loop_12
    refine PP.bind (mw_condition F1 G1) ?_
    intro r3 F3 G3 hK3
    dsimp only
    unfold mb_loop_16
    refine PP.ite (fun c_4 => ?_) (fun c_4 => ?_)
    · skip
      exact mwj_loop_19 rc ih F3 G3 (KX.tr (KX.tr KX.rf hK1 rfl rfl) hK3 rfl rfl)
    · skip
      unfold mb_loop_21
      refine PP.bind (mw_step (13 : Int32) (0 : Int32) (0 : Int32) F3 G3) ?_
      intro r5 F5 G5 hK5
      dsimp only
      unfold mb_loop_29
      refine PP.bind (ih 1 (F 60) 0 F5 G5) ?_
      intro r6 F6 G6 hK6
      dsimp only
      unfold mb_loop_35
      refine PP.ite (fun c_7 => ?_) (fun c_7 => ?_)
      · skip
        unfold mb_loop_38
        refine PP.ret ?_
        exact (KX.tr (KX.tr (KX.tr (KX.tr KX.rf hK1 rfl rfl) hK3 rfl rfl) hK5 rfl rfl) hK6 rfl rfl)
      · skip
        unfold mb_loop_40
        refine PP.bind (mw_step (12 : Int32) (F 60) (0 : Int32) F6 G6) ?_
        intro r8 F8 G8 hK8
        dsimp only
        unfold mb_loop_53
        refine PP.ix (fun _ => ?_)
        unfold mb_loop_64
        refine PP.bind (mw_settle (F6 65) (F8 60) F8 (gup G8 57 r5.toNatClampNeg (F8 60))) ?_
        intro r9 F9 G9 hK9
        dsimp only
        unfold mb_loop_73
        unfold mb_loop_83
        refine PP.ret ?_
        exact (KX.f (k := 43) rfl (KX.tr (KX.g (k := 57) rfl (KX.tr (KX.tr (KX.tr (KX.tr (KX.tr KX.rf hK1 rfl rfl) hK3 rfl rfl) hK5 rfl rfl) hK6 rfl rfl) hK8 rfl rfl)) hK9 rfl rfl))
theorem mwt_scoped {fu : Nat} (rc : RC) (ih : mKI2 rc) (F : PF) (G : PG) : PP (mh_scoped fu rc F G) (fun _ F' G' => KX [14, 15, 42, 43, 44, 45, 47, 48, 49, 51, 52, 53, 54, 55, 60, 62, 63, 64, 65, 66, 70, 72] [16, 17, 18, 19, 20, 21, 22, 23, 56, 57, 58, 59, 67, 68, 69, 71] F G F' G') := by
  unfold mh_scoped
  unfold mb_scoped_0
  refine PP.bind (mw_begins F G) ?_
  intro r1 F1 G1 hK1
  dsimp only
  unfold mb_scoped_9
  refine PP.bind (ih 6 0 0 F1 G1) ?_
  intro r2 F2 G2 hK2
  dsimp only
  unfold mb_scoped_13
  refine PP.bind (mw_ends (F 15) F2 G2) ?_
  intro r3 F3 G3 hK3
  dsimp only
  unfold mb_scoped_19
  refine PP.bz (fun _ => ?_)
  refine PP.ret ?_
  exact (KX.tr (KX.tr (KX.tr KX.rf hK1 rfl rfl) hK2 rfl rfl) hK3 rfl rfl)
theorem mwj_statement_80 {fu : Nat} (rc : RC) (ih : mKI2 rc) {F0 : PF} {G0 : PG} (z0 : Int32) (F : PF) (G : PG) (hK : KX [14, 15, 42, 43, 44, 45, 47, 48, 49, 51, 52, 53, 54, 55, 60, 62, 63, 64, 65, 66, 70, 72] [16, 17, 18, 19, 20, 21, 22, 23, 56, 57, 58, 59, 67, 68, 69, 71] F0 G0 F G) : PP (mb_statement_80 fu rc z0 F G) (fun _ F' G' => KX [14, 15, 42, 43, 44, 45, 47, 48, 49, 51, 52, 53, 54, 55, 60, 62, 63, 64, 65, 66, 70, 72] [16, 17, 18, 19, 20, 21, 22, 23, 56, 57, 58, 59, 67, 68, 69, 71] F0 G0 F' G') := by
  unfold mb_statement_80
  refine PP.bz (fun _ => ?_)
  refine PP.ret ?_
  exact hK
theorem mwj_statement_79 {fu : Nat} (rc : RC) (ih : mKI2 rc) {F0 : PF} {G0 : PG} (F : PF) (G : PG) (hK : KX [14, 15, 42, 43, 44, 45, 47, 48, 49, 51, 52, 53, 54, 55, 60, 62, 63, 64, 65, 66, 70, 72] [16, 17, 18, 19, 20, 21, 22, 23, 56, 57, 58, 59, 67, 68, 69, 71] F0 G0 F G) : PP (mb_statement_79 fu rc F G) (fun _ F' G' => KX [14, 15, 42, 43, 44, 45, 47, 48, 49, 51, 52, 53, 54, 55, 60, 62, 63, 64, 65, 66, 70, 72] [16, 17, 18, 19, 20, 21, 22, 23, 56, 57, 58, 59, 67, 68, 69, 71] F0 G0 F' G') := by
  unfold mb_statement_79
  exact mwj_statement_80 rc ih (0 : Int32) F G hK
theorem mwj_statement_206 {fu : Nat} (rc : RC) (ih : mKI2 rc) {F0 : PF} {G0 : PG} (z0 : Int32) (F : PF) (G : PG) (hK : KX [14, 15, 42, 43, 44, 45, 47, 48, 49, 51, 52, 53, 54, 55, 60, 62, 63, 64, 65, 66, 70, 72] [16, 17, 18, 19, 20, 21, 22, 23, 56, 57, 58, 59, 67, 68, 69, 71] F0 G0 F G) : PP (mb_statement_206 fu rc z0 F G) (fun _ F' G' => KX [14, 15, 42, 43, 44, 45, 47, 48, 49, 51, 52, 53, 54, 55, 60, 62, 63, 64, 65, 66, 70, 72] [16, 17, 18, 19, 20, 21, 22, 23, 56, 57, 58, 59, 67, 68, 69, 71] F0 G0 F' G') := by
  unfold mb_statement_206
  refine PP.bz (fun _ => ?_)
  refine PP.ret ?_
  exact hK
theorem mwj_statement_205 {fu : Nat} (rc : RC) (ih : mKI2 rc) {F0 : PF} {G0 : PG} (F : PF) (G : PG) (hK : KX [14, 15, 42, 43, 44, 45, 47, 48, 49, 51, 52, 53, 54, 55, 60, 62, 63, 64, 65, 66, 70, 72] [16, 17, 18, 19, 20, 21, 22, 23, 56, 57, 58, 59, 67, 68, 69, 71] F0 G0 F G) : PP (mb_statement_205 fu rc F G) (fun _ F' G' => KX [14, 15, 42, 43, 44, 45, 47, 48, 49, 51, 52, 53, 54, 55, 60, 62, 63, 64, 65, 66, 70, 72] [16, 17, 18, 19, 20, 21, 22, 23, 56, 57, 58, 59, 67, 68, 69, 71] F0 G0 F' G') := by
  unfold mb_statement_205
  exact mwj_statement_206 rc ih (0 : Int32) F G hK
theorem mwj_statement_289 {fu : Nat} (rc : RC) (ih : mKI2 rc) {F0 : PF} {G0 : PG} (F : PF) (G : PG) (hK : KX [14, 15, 42, 43, 44, 45, 47, 48, 49, 51, 52, 53, 54, 55, 60, 62, 63, 64, 65, 66, 70, 72] [16, 17, 18, 19, 20, 21, 22, 23, 56, 57, 58, 59, 67, 68, 69, 71] F0 G0 F G) : PP (mb_statement_289 fu rc F G) (fun _ F' G' => KX [14, 15, 42, 43, 44, 45, 47, 48, 49, 51, 52, 53, 54, 55, 60, 62, 63, 64, 65, 66, 70, 72] [16, 17, 18, 19, 20, 21, 22, 23, 56, 57, 58, 59, 67, 68, 69, 71] F0 G0 F' G') := by
  unfold mb_statement_289
  refine PP.ret ?_
  exact hK
theorem mwj_statement_253 {fu : Nat} (rc : RC) (ih : mKI2 rc) {F0 : PF} {G0 : PG} (z0 : Int32) (F : PF) (G : PG) (hK : KX [14, 15, 42, 43, 44, 45, 47, 48, 49, 51, 52, 53, 54, 55, 60, 62, 63, 64, 65, 66, 70, 72] [16, 17, 18, 19, 20, 21, 22, 23, 56, 57, 58, 59, 67, 68, 69, 71] F0 G0 F G) : PP (mb_statement_253 fu rc z0 F G) (fun _ F' G' => KX [14, 15, 42, 43, 44, 45, 47, 48, 49, 51, 52, 53, 54, 55, 60, 62, 63, 64, 65, 66, 70, 72] [16, 17, 18, 19, 20, 21, 22, 23, 56, 57, 58, 59, 67, 68, 69, 71] F0 G0 F' G') := by
  unfold mb_statement_253
  unfold mb_statement_264
  refine PP.bind (mw_openSign (22 : Int32) (fup F 42 ((F 42) + (1 : Int32))) G) ?_
  intro r1 F1 G1 hK1
  dsimp only
  unfold mb_statement_270
  refine PP.ite (fun c_2 => ?_) (fun c_2 => ?_)
  · skip
    exact mwj_statement_289 rc ih F1 G1 (KX.tr (KX.f (k := 42) rfl hK) hK1 rfl rfl)
  · skip
    unfold mb_statement_273
    refine PP.bind (mw_expression F1 G1) ?_
    intro r3 F3 G3 hK3
    dsimp only
    unfold mb_statement_277
    refine PP.ite (fun c_4 => ?_) (fun c_4 => ?_)
    · skip
      exact mwj_statement_289 rc ih F3 G3 (KX.tr (KX.tr (KX.f (k := 42) rfl hK) hK1 rfl rfl) hK3 rfl rfl)
    · skip
      unfold mb_statement_280
      refine PP.bind (mw_closeSign (23 : Int32) F3 G3) ?_
      intro r5 F5 G5 hK5
      dsimp only
      unfold mb_statement_286
      refine PP.ite (fun c_6 => ?_) (fun c_6 => ?_)
      · skip
        exact mwj_statement_289 rc ih F5 G5 (KX.tr (KX.tr (KX.tr (KX.f (k := 42) rfl hK) hK1 rfl rfl) hK3 rfl rfl) hK5 rfl rfl)
      · skip
        unfold mb_statement_291
        refine PP.bind (mw_step z0 (0 : Int32) (0 : Int32) F5 G5) ?_
        intro r7 F7 G7 hK7
        dsimp only
        unfold mb_statement_298
        refine PP.bind (mw_sign (29 : Int32) F7 G7) ?_
        intro r8 F8 G8 hK8
        dsimp only
        unfold mb_statement_305
        refine PP.bz (fun _ => ?_)
        refine PP.ret ?_
        exact (KX.tr (KX.tr (KX.tr (KX.tr (KX.tr (KX.f (k := 42) rfl hK) hK1 rfl rfl) hK3 rfl rfl) hK5 rfl rfl) hK7 rfl rfl) hK8 rfl rfl)
theorem mwt_statement {fu : Nat} (rc : RC) (ih : mKI2 rc) (F : PF) (G : PG) : PP (mh_statement fu rc F G) (fun _ F' G' => KX [14, 15, 42, 43, 44, 45, 47, 48, 49, 51, 52, 53, 54, 55, 60, 62, 63, 64, 65, 66, 70, 72] [16, 17, 18, 19, 20, 21, 22, 23, 56, 57, 58, 59, 67, 68, 69, 71] F G F' G') := by
  unfold mh_statement
  unfold mb_statement_0
  refine PP.bind (mw_isSign (26 : Int32) F G) ?_
  intro r1 F1 G1 hK1
  dsimp only
  unfold mb_statement_6
  refine PP.ite (fun c_2 => ?_) (fun c_2 => ?_)
  · skip
    unfold mb_statement_30
    refine PP.bind (mw_isSign (29 : Int32) F1 G1) ?_
    intro r3 F3 G3 hK3
    dsimp only
    unfold mb_statement_36
    refine PP.ite (fun c_4 => ?_) (fun c_4 => ?_)
    · skip
      unfold mb_statement_46
      refine PP.ix (fun _ => ?_)
      refine PP.ite (fun c_5 => ?_) (fun c_5 => ?_)
      · skip
        unfold mb_statement_59
        refine PP.bind (mw_simple F3 G3) ?_
        intro r6 F6 G6 hK6
        dsimp only
        unfold mb_statement_63
        refine PP.ite (fun c_7 => ?_) (fun c_7 => ?_)
        · skip
          exact mwj_statement_79 rc ih F6 G6 (KX.tr (KX.tr (KX.tr KX.rf hK1 rfl rfl) hK3 rfl rfl) hK6 rfl rfl)
        · skip
          unfold mb_statement_66
          refine PP.bind (mw_sign (29 : Int32) F6 G6) ?_
          intro r8 F8 G8 hK8
          dsimp only
          unfold mb_statement_72
          refine PP.ite (fun c_9 => ?_) (fun c_9 => ?_)
          · skip
            exact mwj_statement_79 rc ih F8 G8 (KX.tr (KX.tr (KX.tr (KX.tr KX.rf hK1 rfl rfl) hK3 rfl rfl) hK6 rfl rfl) hK8 rfl rfl)
          · skip
            unfold mb_statement_75
            exact mwj_statement_80 rc ih (1 : Int32) F8 G8 (KX.tr (KX.tr (KX.tr (KX.tr KX.rf hK1 rfl rfl) hK3 rfl rfl) hK6 rfl rfl) hK8 rfl rfl)
      · skip
        unfold mb_statement_81
        refine PP.ix (fun _ => ?_)
        refine PP.ite (fun c_10 => ?_) (fun c_10 => ?_)
        · skip
          unfold mb_statement_100
          refine PP.ix (fun _ => ?_)
          refine PP.ite (fun c_11 => ?_) (fun c_11 => ?_)
          · have e_12 : (G3 5 (F3 42).toNatClampNeg).toInt < 0 ∨ 14 < (G3 5 (F3 42).toNatClampNeg).toInt := c_11
            unfold mb_statement_306
            refine PP.bind (mw_fails (2 : Int32) F3 G3) ?_
            intro r13 F13 G13 hK13
            dsimp only
            unfold mb_statement_311
            refine PP.bz (fun _ => ?_)
            refine PP.ret ?_
            exact (KX.tr (KX.tr (KX.tr KX.rf hK1 rfl rfl) hK3 rfl rfl) hK13 rfl rfl)
          have e_14 : ¬ ((G3 5 (F3 42).toNatClampNeg).toInt < 0 ∨ 14 < (G3 5 (F3 42).toNatClampNeg).toInt) := c_11
          refine PP.ite (fun c_15 => ?_) (fun c_15 => ?_)
          · skip
            unfold mb_statement_184
            refine PP.bind (mw_tellHere (1 : Int32) F3 G3) ?_
            intro r16 F16 G16 hK16
            dsimp only
            unfold mb_statement_189
            refine PP.ite (fun c_17 => ?_) (fun c_17 => ?_)
            · skip
              exact mwj_statement_205 rc ih F16 G16 (KX.tr (KX.tr (KX.tr KX.rf hK1 rfl rfl) hK3 rfl rfl) hK16 rfl rfl)
            · skip
              unfold mb_statement_192
              refine PP.bind (mw_sign (29 : Int32) F16 G16) ?_
              intro r18 F18 G18 hK18
              dsimp only
              unfold mb_statement_198
              refine PP.ite (fun c_19 => ?_) (fun c_19 => ?_)
              · skip
                exact mwj_statement_205 rc ih F18 G18 (KX.tr (KX.tr (KX.tr (KX.tr KX.rf hK1 rfl rfl) hK3 rfl rfl) hK16 rfl rfl) hK18 rfl rfl)
              · skip
                unfold mb_statement_201
                exact mwj_statement_206 rc ih (1 : Int32) F18 G18 (KX.tr (KX.tr (KX.tr (KX.tr KX.rf hK1 rfl rfl) hK3 rfl rfl) hK16 rfl rfl) hK18 rfl rfl)
          refine PP.ite (fun c_20 => ?_) (fun c_20 => ?_)
          · skip
            unfold mb_statement_184
            refine PP.bind (mw_tellHere (1 : Int32) F3 G3) ?_
            intro r21 F21 G21 hK21
            dsimp only
            unfold mb_statement_189
            refine PP.ite (fun c_22 => ?_) (fun c_22 => ?_)
            · skip
              exact mwj_statement_205 rc ih F21 G21 (KX.tr (KX.tr (KX.tr KX.rf hK1 rfl rfl) hK3 rfl rfl) hK21 rfl rfl)
            · skip
              unfold mb_statement_192
              refine PP.bind (mw_sign (29 : Int32) F21 G21) ?_
              intro r23 F23 G23 hK23
              dsimp only
              unfold mb_statement_198
              refine PP.ite (fun c_24 => ?_) (fun c_24 => ?_)
              · skip
                exact mwj_statement_205 rc ih F23 G23 (KX.tr (KX.tr (KX.tr (KX.tr KX.rf hK1 rfl rfl) hK3 rfl rfl) hK21 rfl rfl) hK23 rfl rfl)
              · skip
                unfold mb_statement_201
                exact mwj_statement_206 rc ih (1 : Int32) F23 G23 (KX.tr (KX.tr (KX.tr (KX.tr KX.rf hK1 rfl rfl) hK3 rfl rfl) hK21 rfl rfl) hK23 rfl rfl)
          refine PP.ite (fun c_25 => ?_) (fun c_25 => ?_)
          · skip
            unfold mb_statement_306
            refine PP.bind (mw_fails (2 : Int32) F3 G3) ?_
            intro r26 F26 G26 hK26
            dsimp only
            unfold mb_statement_311
            refine PP.bz (fun _ => ?_)
            refine PP.ret ?_
            exact (KX.tr (KX.tr (KX.tr KX.rf hK1 rfl rfl) hK3 rfl rfl) hK26 rfl rfl)
          refine PP.ite (fun c_27 => ?_) (fun c_27 => ?_)
          · skip
            unfold mb_statement_306
            refine PP.bind (mw_fails (2 : Int32) F3 G3) ?_
            intro r28 F28 G28 hK28
            dsimp only
            unfold mb_statement_311
            refine PP.bz (fun _ => ?_)
            refine PP.ret ?_
            exact (KX.tr (KX.tr (KX.tr KX.rf hK1 rfl rfl) hK3 rfl rfl) hK28 rfl rfl)
          refine PP.ite (fun c_29 => ?_) (fun c_29 => ?_)
          · skip
            unfold mb_statement_207
            refine PP.bind (ih 2 0 0 F3 G3) ?_
            intro r30 F30 G30 hK30
            dsimp only
            unfold mb_statement_211
            refine PP.bz (fun _ => ?_)
            refine PP.ret ?_
            exact (KX.tr (KX.tr (KX.tr KX.rf hK1 rfl rfl) hK3 rfl rfl) hK30 rfl rfl)
          refine PP.ite (fun c_31 => ?_) (fun c_31 => ?_)
          · skip
            unfold mb_statement_306
            refine PP.bind (mw_fails (2 : Int32) F3 G3) ?_
            intro r32 F32 G32 hK32
            dsimp only
            unfold mb_statement_311
            refine PP.bz (fun _ => ?_)
            refine PP.ret ?_
            exact (KX.tr (KX.tr (KX.tr KX.rf hK1 rfl rfl) hK3 rfl rfl) hK32 rfl rfl)
          refine PP.ite (fun c_33 => ?_) (fun c_33 => ?_)
          · skip
            unfold mb_statement_212
            refine PP.bind (ih 4 0 0 F3 G3) ?_
            intro r34 F34 G34 hK34
            dsimp only
            unfold mb_statement_216
            refine PP.bz (fun _ => ?_)
            refine PP.ret ?_
            exact (KX.tr (KX.tr (KX.tr KX.rf hK1 rfl rfl) hK3 rfl rfl) hK34 rfl rfl)
          refine PP.ite (fun c_35 => ?_) (fun c_35 => ?_)
          · skip
            unfold mb_statement_217
            refine PP.bind (ih 7 0 0 F3 G3) ?_
            intro r36 F36 G36 hK36
            dsimp only
            unfold mb_statement_221
            refine PP.bz (fun _ => ?_)
            refine PP.ret ?_
            exact (KX.tr (KX.tr (KX.tr KX.rf hK1 rfl rfl) hK3 rfl rfl) hK36 rfl rfl)
          refine PP.ite (fun c_37 => ?_) (fun c_37 => ?_)
          · skip
            unfold mb_statement_222
            refine PP.bind (ih 3 0 0 F3 G3) ?_
            intro r38 F38 G38 hK38
            dsimp only
            unfold mb_statement_226
            refine PP.bz (fun _ => ?_)
            refine PP.ret ?_
            exact (KX.tr (KX.tr (KX.tr KX.rf hK1 rfl rfl) hK3 rfl rfl) hK38 rfl rfl)
          refine PP.ite (fun c_39 => ?_) (fun c_39 => ?_)
          · skip
            unfold mb_statement_227
            refine PP.bind (mw_leaves F3 G3) ?_
            intro r40 F40 G40 hK40
            dsimp only
            unfold mb_statement_231
            refine PP.bz (fun _ => ?_)
            refine PP.ret ?_
            exact (KX.tr (KX.tr (KX.tr KX.rf hK1 rfl rfl) hK3 rfl rfl) hK40 rfl rfl)
          refine PP.ite (fun c_41 => ?_) (fun c_41 => ?_)
          · skip
            unfold mb_statement_227
            refine PP.bind (mw_leaves F3 G3) ?_
            intro r42 F42 G42 hK42
            dsimp only
            unfold mb_statement_231
            refine PP.bz (fun _ => ?_)
            refine PP.ret ?_
            exact (KX.tr (KX.tr (KX.tr KX.rf hK1 rfl rfl) hK3 rfl rfl) hK42 rfl rfl)
          refine PP.ite (fun c_43 => ?_) (fun c_43 => ?_)
          · skip
            unfold mb_statement_232
            refine PP.bind (mw_returns F3 G3) ?_
            intro r44 F44 G44 hK44
            dsimp only
            unfold mb_statement_236
            refine PP.bz (fun _ => ?_)
            refine PP.ret ?_
            exact (KX.tr (KX.tr (KX.tr KX.rf hK1 rfl rfl) hK3 rfl rfl) hK44 rfl rfl)
          refine PP.ite (fun c_45 => ?_) (fun c_45 => ?_)
          · skip
            unfold mb_statement_237
            refine PP.bind (mw_isWord (12 : Int32) F3 G3) ?_
            intro r46 F46 G46 hK46
            dsimp only
            unfold mb_statement_243
            refine PP.ite (fun c_47 => ?_) (fun c_47 => ?_)
            · skip
              unfold mb_statement_251
              exact mwj_statement_253 rc ih (20 : Int32) F46 G46 (KX.tr (KX.tr (KX.tr KX.rf hK1 rfl rfl) hK3 rfl rfl) hK46 rfl rfl)
            · skip
              unfold mb_statement_246
              exact mwj_statement_253 rc ih (19 : Int32) F46 G46 (KX.tr (KX.tr (KX.tr KX.rf hK1 rfl rfl) hK3 rfl rfl) hK46 rfl rfl)
          refine PP.ite (fun c_48 => ?_) (fun c_48 => ?_)
          · skip
            unfold mb_statement_306
            refine PP.bind (mw_fails (2 : Int32) F3 G3) ?_
            intro r49 F49 G49 hK49
            dsimp only
            unfold mb_statement_311
            refine PP.bz (fun _ => ?_)
            refine PP.ret ?_
            exact (KX.tr (KX.tr (KX.tr KX.rf hK1 rfl rfl) hK3 rfl rfl) hK49 rfl rfl)
          unfold mb_statement_237
          refine PP.bind (mw_isWord (12 : Int32) F3 G3) ?_
          intro r50 F50 G50 hK50
          dsimp only
          unfold mb_statement_243
          refine PP.ite (fun c_51 => ?_) (fun c_51 => ?_)
          · skip
            unfold mb_statement_251
            exact mwj_statement_253 rc ih (20 : Int32) F50 G50 (KX.tr (KX.tr (KX.tr KX.rf hK1 rfl rfl) hK3 rfl rfl) hK50 rfl rfl)
          · skip
            unfold mb_statement_246
            exact mwj_statement_253 rc ih (19 : Int32) F50 G50 (KX.tr (KX.tr (KX.tr KX.rf hK1 rfl rfl) hK3 rfl rfl) hK50 rfl rfl)
        · skip
          unfold mb_statement_94
          refine PP.bind (mw_fails (2 : Int32) F3 G3) ?_
          intro r52 F52 G52 hK52
          dsimp only
          unfold mb_statement_99
          refine PP.bz (fun _ => ?_)
          refine PP.ret ?_
          exact (KX.tr (KX.tr (KX.tr KX.rf hK1 rfl rfl) hK3 rfl rfl) hK52 rfl rfl)
    · skip
      unfold mb_statement_39
      refine PP.bind (mw_sign (29 : Int32) F3 G3) ?_
      intro r53 F53 G53 hK53
      dsimp only
      unfold mb_statement_45
      refine PP.bz (fun _ => ?_)
      refine PP.ret ?_
      exact (KX.tr (KX.tr (KX.tr KX.rf hK1 rfl rfl) hK3 rfl rfl) hK53 rfl rfl)
  · skip
    unfold mb_statement_9
    refine PP.bind (mw_begins F1 G1) ?_
    intro r54 F54 G54 hK54
    dsimp only
    unfold mb_statement_18
    refine PP.bind (ih 0 0 0 F54 G54) ?_
    intro r55 F55 G55 hK55
    dsimp only
    unfold mb_statement_22
    refine PP.bind (mw_ends (F1 15) F55 G55) ?_
    intro r56 F56 G56 hK56
    dsimp only
    unfold mb_statement_28
    refine PP.bz (fun _ => ?_)
    refine PP.ret ?_
    exact (KX.tr (KX.tr (KX.tr (KX.tr KX.rf hK1 rfl rfl) hK54 rfl rfl) hK55 rfl rfl) hK56 rfl rfl)
theorem mwj_turnLoop_20 {fu : Nat} (rc : RC) (ih : mKI2 rc) {F0 : PF} {G0 : PG} (F : PF) (G : PG) (hK : KX [14, 15, 42, 43, 44, 45, 47, 48, 49, 51, 52, 53, 54, 55, 60, 62, 63, 64, 65, 66, 70, 72] [16, 17, 18, 19, 20, 21, 22, 23, 56, 57, 58, 59, 67, 68, 69, 71] F0 G0 F G) : PP (mb_turnLoop_20 fu rc F G) (fun _ F' G' => KX [14, 15, 42, 43, 44, 45, 47, 48, 49, 51, 52, 53, 54, 55, 60, 62, 63, 64, 65, 66, 70, 72] [16, 17, 18, 19, 20, 21, 22, 23, 56, 57, 58, 59, 67, 68, 69, 71] F0 G0 F' G') := by
  unfold mb_turnLoop_20
  refine PP.ret ?_
  exact hK
theorem mwj_turnLoop_58 {fu : Nat} (rc : RC) (ih : mKI2 rc) {F0 : PF} {G0 : PG} (F : PF) (G : PG) (hK : KX [14, 15, 42, 43, 44, 45, 47, 48, 49, 51, 52, 53, 54, 55, 60, 62, 63, 64, 65, 66, 70, 72] [16, 17, 18, 19, 20, 21, 22, 23, 56, 57, 58, 59, 67, 68, 69, 71] F0 G0 F G) : PP (mb_turnLoop_58 fu rc F G) (fun _ F' G' => KX [14, 15, 42, 43, 44, 45, 47, 48, 49, 51, 52, 53, 54, 55, 60, 62, 63, 64, 65, 66, 70, 72] [16, 17, 18, 19, 20, 21, 22, 23, 56, 57, 58, 59, 67, 68, 69, 71] F0 G0 F' G') := by
  unfold mb_turnLoop_58
  refine PP.ret ?_
  exact hK
theorem mwt_turnLoop {fu : Nat} (rc : RC) (ih : mKI2 rc) (F : PF) (G : PG) : PP (mh_turnLoop fu rc F G) (fun _ F' G' => KX [14, 15, 42, 43, 44, 45, 47, 48, 49, 51, 52, 53, 54, 55, 60, 62, 63, 64, 65, 66, 70, 72] [16, 17, 18, 19, 20, 21, 22, 23, 56, 57, 58, 59, 67, 68, 69, 71] F G F' G') := by
  unfold mh_turnLoop
  unfold mb_turnLoop_0
  refine PP.bind (mw_opens F G) ?_
  intro r1 F1 G1 hK1
  dsimp only
  unfold mb_turnLoop_9
  refine PP.ite (fun c_2 => ?_) (fun c_2 => ?_)
  · skip
    exact mwj_turnLoop_20 rc ih F1 G1 (KX.tr KX.rf hK1 rfl rfl)
  · skip
    unfold mb_turnLoop_12
    refine PP.bind (ih 1 (-1 : Int32) 0 F1 G1) ?_
    intro r3 F3 G3 hK3
    dsimp only
    unfold mb_turnLoop_17
    refine PP.ite (fun c_4 => ?_) (fun c_4 => ?_)
    · skip
      exact mwj_turnLoop_20 rc ih F3 G3 (KX.tr (KX.tr KX.rf hK1 rfl rfl) hK3 rfl rfl)
    · skip
      unfold mb_turnLoop_22
      refine PP.bind (mw_settle (F3 66) (F3 60) F3 G3) ?_
      intro r5 F5 G5 hK5
      dsimp only
      unfold mb_turnLoop_41
      refine PP.bind (mw_word (6 : Int32) (1 : Int32) F5 G5) ?_
      intro r6 F6 G6 hK6
      dsimp only
      unfold mb_turnLoop_48
      refine PP.ite (fun c_7 => ?_) (fun c_7 => ?_)
      · skip
        exact mwj_turnLoop_58 rc ih F6 G6 (KX.tr (KX.tr (KX.tr (KX.tr KX.rf hK1 rfl rfl) hK3 rfl rfl) hK5 rfl rfl) hK6 rfl rfl)
      · skip
        unfold mb_turnLoop_51
        refine PP.bind (mw_condition F6 G6) ?_
        intro r8 F8 G8 hK8
        dsimp only
        unfold mb_turnLoop_55
        refine PP.ite (fun c_9 => ?_) (fun c_9 => ?_)
        · skip
          exact mwj_turnLoop_58 rc ih F8 G8 (KX.tr (KX.tr (KX.tr (KX.tr (KX.tr KX.rf hK1 rfl rfl) hK3 rfl rfl) hK5 rfl rfl) hK6 rfl rfl) hK8 rfl rfl)
        · skip
          unfold mb_turnLoop_60
          refine PP.bind (mw_step (14 : Int32) (F 60) (0 : Int32) F8 G8) ?_
          intro r10 F10 G10 hK10
          dsimp only
          unfold mb_turnLoop_68
          refine PP.bind (mw_settle (F3 65) (F10 60) F10 G10) ?_
          intro r11 F11 G11 hK11
          dsimp only
          unfold mb_turnLoop_78
          unfold mb_turnLoop_88
          refine PP.bind (mw_sign (29 : Int32) (fup F11 43 ((F11 43) - (1 : Int32))) G11) ?_
          intro r12 F12 G12 hK12
          dsimp only
          unfold mb_turnLoop_94
          refine PP.bz (fun _ => ?_)
          refine PP.ret ?_
          exact (KX.tr (KX.f (k := 43) rfl (KX.tr (KX.tr (KX.tr (KX.tr (KX.tr (KX.tr (KX.tr KX.rf hK1 rfl rfl) hK3 rfl rfl) hK5 rfl rfl) hK6 rfl rfl) hK8 rfl rfl) hK10 rfl rfl) hK11 rfl rfl)) hK12 rfl rfl)
theorem mwS2 {fu : Nat} : ∀ d : Nat, mKI2 (mS2 fu d) := by
  intro d
  induction d with
  | zero => exact fun _ _ _ _ _ => PP.no
  | succ d ih =>
    intro i x y F G
    exact PP.ite (fun _ => mwt_block (mS2 fu d) ih F G) (fun _ => PP.ite (fun _ => mwt_body (mS2 fu d) ih x F G) (fun _ => PP.ite (fun _ => mwt_choice (mS2 fu d) ih F G) (fun _ => PP.ite (fun _ => mwt_counted (mS2 fu d) ih F G) (fun _ => PP.ite (fun _ => mwt_loop (mS2 fu d) ih F G) (fun _ => PP.ite (fun _ => mwt_scoped (mS2 fu d) ih F G) (fun _ => PP.ite (fun _ => mwt_statement (mS2 fu d) ih F G) (fun _ => PP.ite (fun _ => mwt_turnLoop (mS2 fu d) ih F G) (fun _ => PP.no))))))))
theorem mw_block {fu : Nat} (F : PF) (G : PG) : PP (mf_block fu F G) (fun _ F' G' => KX [14, 15, 42, 43, 44, 45, 47, 48, 49, 51, 52, 53, 54, 55, 60, 62, 63, 64, 65, 66, 70, 72] [16, 17, 18, 19, 20, 21, 22, 23, 56, 57, 58, 59, 67, 68, 69, 71] F G F' G') := mwS2 300 0 0 0 F G
theorem mw_body {fu : Nat} (x : Int32) (F : PF) (G : PG) : PP (mf_body fu x F G) (fun _ F' G' => KX [14, 15, 42, 43, 44, 45, 47, 48, 49, 51, 52, 53, 54, 55, 60, 62, 63, 64, 65, 66, 70, 72] [16, 17, 18, 19, 20, 21, 22, 23, 56, 57, 58, 59, 67, 68, 69, 71] F G F' G') := mwS2 300 1 x 0 F G
theorem mw_choice {fu : Nat} (F : PF) (G : PG) : PP (mf_choice fu F G) (fun _ F' G' => KX [14, 15, 42, 43, 44, 45, 47, 48, 49, 51, 52, 53, 54, 55, 60, 62, 63, 64, 65, 66, 70, 72] [16, 17, 18, 19, 20, 21, 22, 23, 56, 57, 58, 59, 67, 68, 69, 71] F G F' G') := mwS2 300 2 0 0 F G
theorem mw_counted {fu : Nat} (F : PF) (G : PG) : PP (mf_counted fu F G) (fun _ F' G' => KX [14, 15, 42, 43, 44, 45, 47, 48, 49, 51, 52, 53, 54, 55, 60, 62, 63, 64, 65, 66, 70, 72] [16, 17, 18, 19, 20, 21, 22, 23, 56, 57, 58, 59, 67, 68, 69, 71] F G F' G') := mwS2 300 3 0 0 F G
theorem mw_loop {fu : Nat} (F : PF) (G : PG) : PP (mf_loop fu F G) (fun _ F' G' => KX [14, 15, 42, 43, 44, 45, 47, 48, 49, 51, 52, 53, 54, 55, 60, 62, 63, 64, 65, 66, 70, 72] [16, 17, 18, 19, 20, 21, 22, 23, 56, 57, 58, 59, 67, 68, 69, 71] F G F' G') := mwS2 300 4 0 0 F G
theorem mw_scoped {fu : Nat} (F : PF) (G : PG) : PP (mf_scoped fu F G) (fun _ F' G' => KX [14, 15, 42, 43, 44, 45, 47, 48, 49, 51, 52, 53, 54, 55, 60, 62, 63, 64, 65, 66, 70, 72] [16, 17, 18, 19, 20, 21, 22, 23, 56, 57, 58, 59, 67, 68, 69, 71] F G F' G') := mwS2 300 5 0 0 F G
theorem mw_statement {fu : Nat} (F : PF) (G : PG) : PP (mf_statement fu F G) (fun _ F' G' => KX [14, 15, 42, 43, 44, 45, 47, 48, 49, 51, 52, 53, 54, 55, 60, 62, 63, 64, 65, 66, 70, 72] [16, 17, 18, 19, 20, 21, 22, 23, 56, 57, 58, 59, 67, 68, 69, 71] F G F' G') := mwS2 300 6 0 0 F G
theorem mw_turnLoop {fu : Nat} (F : PF) (G : PG) : PP (mf_turnLoop fu F G) (fun _ F' G' => KX [14, 15, 42, 43, 44, 45, 47, 48, 49, 51, 52, 53, 54, 55, 60, 62, 63, 64, 65, 66, 70, 72] [16, 17, 18, 19, 20, 21, 22, 23, 56, 57, 58, 59, 67, 68, 69, 71] F G F' G') := mwS2 300 7 0 0 F G
theorem mwj_function_282 {fu : Nat} {F0 : PF} {G0 : PG} (x1 : Int32) (x4 : Int32) (x5 : Int32) (F : PF) (G : PG) (hK : KX [14, 15, 24, 35, 42, 43, 44, 45, 47, 48, 49, 50, 51, 52, 53, 54, 55, 60, 61, 62, 63, 64, 65, 66, 70, 72] [16, 17, 18, 19, 20, 21, 22, 23, 25, 26, 27, 28, 29, 30, 31, 32, 33, 34, 56, 57, 58, 59, 67, 68, 69, 71] F0 G0 F G) : PP (mb_function_282 fu x1 x4 x5 F G) (fun _ F' G' => KX [14, 15, 24, 35, 42, 43, 44, 45, 47, 48, 49, 50, 51, 52, 53, 54, 55, 60, 61, 62, 63, 64, 65, 66, 70, 72] [16, 17, 18, 19, 20, 21, 22, 23, 25, 26, 27, 28, 29, 30, 31, 32, 33, 34, 56, 57, 58, 59, 67, 68, 69, 71] F0 G0 F' G') := by
  unfold mb_function_282
  refine PP.bind (mw_closeSign (23 : Int32) F G) ?_
  intro r1 F1 G1 hK1
  dsimp only
  unfold mb_function_288
  refine PP.ite (fun c_2 => ?_) (fun c_2 => ?_)
  · skip
    unfold mb_function_291
    refine PP.ret ?_
    exact (KX.tr hK hK1 rfl rfl)
  · skip
    unfold mb_function_293
    refine PP.ix (fun _ => ?_)
    unfold mb_function_301
    refine PP.ix (fun _ => ?_)
    unfold mb_function_311
    refine PP.bind (mw_isSign (26 : Int32) F1 (gup (gup G1 27 x1.toNatClampNeg x5) 30 x1.toNatClampNeg (F1 60))) ?_
    intro r3 F3 G3 hK3
    dsimp only
    unfold mb_function_317
    refine PP.ite (fun c_4 => ?_) (fun c_4 => ?_)
    · skip
      unfold mb_function_320
      refine PP.bind (mw_fails (2 : Int32) F3 G3) ?_
      intro r5 F5 G5 hK5
      dsimp only
      unfold mb_function_325
      refine PP.bz (fun _ => ?_)
      refine PP.ret ?_
      exact (KX.tr (KX.tr (KX.g (k := 30) rfl (KX.g (k := 27) rfl (KX.tr hK hK1 rfl rfl))) hK3 rfl rfl) hK5 rfl rfl)
    · skip
      unfold mb_function_326
      refine PP.bind (mw_block F3 G3) ?_
      intro r6 F6 G6 hK6
      dsimp only
      unfold mb_function_330
      refine PP.ite (fun c_7 => ?_) (fun c_7 => ?_)
      · skip
        unfold mb_function_333
        refine PP.ret ?_
        exact (KX.tr (KX.tr (KX.g (k := 30) rfl (KX.g (k := 27) rfl (KX.tr hK hK1 rfl rfl))) hK3 rfl rfl) hK6 rfl rfl)
      · skip
        unfold mb_function_335
        refine PP.bind (mw_step (0 : Int32) (0 : Int32) (0 : Int32) F6 G6) ?_
        intro r8 F8 G8 hK8
        dsimp only
        unfold mb_function_342
        refine PP.bind (mw_step (17 : Int32) (0 : Int32) (0 : Int32) F8 G8) ?_
        intro r9 F9 G9 hK9
        dsimp only
        unfold mb_function_351
        refine PP.ix (fun _ => ?_)
        unfold mb_function_365
        refine PP.ix (fun _ => ?_)
        unfold mb_function_375
        refine PP.bind (mw_ends (0 : Int32) F9 (gup (gup G9 28 x1.toNatClampNeg (x4 + (F9 52))) 29 x1.toNatClampNeg (F9 53))) ?_
        intro r10 F10 G10 hK10
        dsimp only
        unfold mb_function_380
        unfold mb_function_385
        refine PP.ret ?_
        exact (KX.f (k := 50) rfl (KX.tr (KX.g (k := 29) rfl (KX.g (k := 28) rfl (KX.tr (KX.tr (KX.tr (KX.tr (KX.g (k := 30) rfl (KX.g (k := 27) rfl (KX.tr hK hK1 rfl rfl))) hK3 rfl rfl) hK6 rfl rfl) hK8 rfl rfl) hK9 rfl rfl))) hK10 rfl rfl))
theorem mwj_function_275 {fu : Nat} {F0 : PF} {G0 : PG} (ag_177 : Int32 → Int32 → Int32 → Int32 → PF → PG → PR) (hag_177 : ∀ (x1 : Int32) (x4 : Int32) (x5 : Int32) (x6 : Int32) (F : PF) (G : PG) (hK : KX [14, 15, 24, 35, 42, 43, 44, 45, 47, 48, 49, 50, 51, 52, 53, 54, 55, 60, 61, 62, 63, 64, 65, 66, 70, 72] [16, 17, 18, 19, 20, 21, 22, 23, 25, 26, 27, 28, 29, 30, 31, 32, 33, 34, 56, 57, 58, 59, 67, 68, 69, 71] F0 G0 F G), PP (ag_177 x1 x4 x5 x6 F G) (fun _ F' G' => KX [14, 15, 24, 35, 42, 43, 44, 45, 47, 48, 49, 50, 51, 52, 53, 54, 55, 60, 61, 62, 63, 64, 65, 66, 70, 72] [16, 17, 18, 19, 20, 21, 22, 23, 25, 26, 27, 28, 29, 30, 31, 32, 33, 34, 56, 57, 58, 59, 67, 68, 69, 71] F0 G0 F' G')) (x1 : Int32) (x4 : Int32) (x5 : Int32) (x6 : Int32) (z0 : Int32) (z1 : Int32) (F : PF) (G : PG) (hK : KX [14, 15, 24, 35, 42, 43, 44, 45, 47, 48, 49, 50, 51, 52, 53, 54, 55, 60, 61, 62, 63, 64, 65, 66, 70, 72] [16, 17, 18, 19, 20, 21, 22, 23, 25, 26, 27, 28, 29, 30, 31, 32, 33, 34, 56, 57, 58, 59, 67, 68, 69, 71] F0 G0 F G) : PP (mb_function_275 fu ag_177 x1 x4 x5 x6 z0 z1 F G) (fun _ F' G' => KX [14, 15, 24, 35, 42, 43, 44, 45, 47, 48, 49, 50, 51, 52, 53, 54, 55, 60, 61, 62, 63, 64, 65, 66, 70, 72] [16, 17, 18, 19, 20, 21, 22, 23, 25, 26, 27, 28, 29, 30, 31, 32, 33, 34, 56, 57, 58, 59, 67, 68, 69, 71] F0 G0 F' G') := by
  unfold mb_function_275
  unfold mb_function_279
  exact hag_177 x1 x4 x5 x6 (fup F 42 (z1 + z0)) G (KX.f (k := 42) rfl hK)
theorem mwj_function_246 {fu : Nat} {F0 : PF} {G0 : PG} (ag_177 : Int32 → Int32 → Int32 → Int32 → PF → PG → PR) (hag_177 : ∀ (x1 : Int32) (x4 : Int32) (x5 : Int32) (x6 : Int32) (F : PF) (G : PG) (hK : KX [14, 15, 24, 35, 42, 43, 44, 45, 47, 48, 49, 50, 51, 52, 53, 54, 55, 60, 61, 62, 63, 64, 65, 66, 70, 72] [16, 17, 18, 19, 20, 21, 22, 23, 25, 26, 27, 28, 29, 30, 31, 32, 33, 34, 56, 57, 58, 59, 67, 68, 69, 71] F0 G0 F G), PP (ag_177 x1 x4 x5 x6 F G) (fun _ F' G' => KX [14, 15, 24, 35, 42, 43, 44, 45, 47, 48, 49, 50, 51, 52, 53, 54, 55, 60, 61, 62, 63, 64, 65, 66, 70, 72] [16, 17, 18, 19, 20, 21, 22, 23, 25, 26, 27, 28, 29, 30, 31, 32, 33, 34, 56, 57, 58, 59, 67, 68, 69, 71] F0 G0 F' G')) (x1 : Int32) (x5 : Int32) (z0 : Int32) (z1 : Int32) (F : PF) (G : PG) (hK : KX [14, 15, 24, 35, 42, 43, 44, 45, 47, 48, 49, 50, 51, 52, 53, 54, 55, 60, 61, 62, 63, 64, 65, 66, 70, 72] [16, 17, 18, 19, 20, 21, 22, 23, 25, 26, 27, 28, 29, 30, 31, 32, 33, 34, 56, 57, 58, 59, 67, 68, 69, 71] F0 G0 F G) : PP (mb_function_246 fu ag_177 x1 x5 z0 z1 F G) (fun _ F' G' => KX [14, 15, 24, 35, 42, 43, 44, 45, 47, 48, 49, 50, 51, 52, 53, 54, 55, 60, 61, 62, 63, 64, 65, 66, 70, 72] [16, 17, 18, 19, 20, 21, 22, 23, 25, 26, 27, 28, 29, 30, 31, 32, 33, 34, 56, 57, 58, 59, 67, 68, 69, 71] F0 G0 F' G') := by
  unfold mb_function_246
  refine PP.bind (mw_isSign (28 : Int32) F G) ?_
  intro r1 F1 G1 hK1
  dsimp only
  unfold mb_function_258
  refine PP.ite (fun c_2 => ?_) (fun c_2 => ?_)
  · skip
    unfold mb_function_274
    exact mwj_function_275 ag_177 hag_177 x1 (z1 + z0) (x5 + (1 : Int32)) r1 (0 : Int32) (F1 42) F1 G1 (KX.tr hK hK1 rfl rfl)
  · skip
    unfold mb_function_270
    exact mwj_function_275 ag_177 hag_177 x1 (z1 + z0) (x5 + (1 : Int32)) r1 (1 : Int32) (F1 42) F1 G1 (KX.tr hK hK1 rfl rfl)
theorem mwj_function_234 {fu : Nat} {F0 : PF} {G0 : PG} (ag_177 : Int32 → Int32 → Int32 → Int32 → PF → PG → PR) (hag_177 : ∀ (x1 : Int32) (x4 : Int32) (x5 : Int32) (x6 : Int32) (F : PF) (G : PG) (hK : KX [14, 15, 24, 35, 42, 43, 44, 45, 47, 48, 49, 50, 51, 52, 53, 54, 55, 60, 61, 62, 63, 64, 65, 66, 70, 72] [16, 17, 18, 19, 20, 21, 22, 23, 25, 26, 27, 28, 29, 30, 31, 32, 33, 34, 56, 57, 58, 59, 67, 68, 69, 71] F0 G0 F G), PP (ag_177 x1 x4 x5 x6 F G) (fun _ F' G' => KX [14, 15, 24, 35, 42, 43, 44, 45, 47, 48, 49, 50, 51, 52, 53, 54, 55, 60, 61, 62, 63, 64, 65, 66, 70, 72] [16, 17, 18, 19, 20, 21, 22, 23, 25, 26, 27, 28, 29, 30, 31, 32, 33, 34, 56, 57, 58, 59, 67, 68, 69, 71] F0 G0 F' G')) (x1 : Int32) (x4 : Int32) (x5 : Int32) (x7 : Int32) (F : PF) (G : PG) (hK : KX [14, 15, 24, 35, 42, 43, 44, 45, 47, 48, 49, 50, 51, 52, 53, 54, 55, 60, 61, 62, 63, 64, 65, 66, 70, 72] [16, 17, 18, 19, 20, 21, 22, 23, 25, 26, 27, 28, 29, 30, 31, 32, 33, 34, 56, 57, 58, 59, 67, 68, 69, 71] F0 G0 F G) : PP (mb_function_234 fu ag_177 x1 x4 x5 x7 F G) (fun _ F' G' => KX [14, 15, 24, 35, 42, 43, 44, 45, 47, 48, 49, 50, 51, 52, 53, 54, 55, 60, 61, 62, 63, 64, 65, 66, 70, 72] [16, 17, 18, 19, 20, 21, 22, 23, 25, 26, 27, 28, 29, 30, 31, 32, 33, 34, 56, 57, 58, 59, 67, 68, 69, 71] F0 G0 F' G') := by
  unfold mb_function_234
  refine PP.ite (fun c_1 => ?_) (fun c_1 => ?_)
  · skip
    unfold mb_function_241
    exact mwj_function_246 ag_177 hag_177 x1 x5 (1 : Int32) x4 F G hK
  · skip
    unfold mb_function_245
    exact mwj_function_246 ag_177 hag_177 x1 x5 (2 : Int32) x4 F G hK
theorem mwz_function_177 {fu : Nat} {F0 : PF} {G0 : PG} : ∀ (n : Nat) (x1 : Int32) (x4 : Int32) (x5 : Int32) (x6 : Int32) (F : PF) (G : PG) (hK : KX [14, 15, 24, 35, 42, 43, 44, 45, 47, 48, 49, 50, 51, 52, 53, 54, 55, 60, 61, 62, 63, 64, 65, 66, 70, 72] [16, 17, 18, 19, 20, 21, 22, 23, 25, 26, 27, 28, 29, 30, 31, 32, 33, 34, 56, 57, 58, 59, 67, 68, 69, 71] F0 G0 F G), PP (ml_function_177 fu n x1 x4 x5 x6 F G) (fun _ F' G' => KX [14, 15, 24, 35, 42, 43, 44, 45, 47, 48, 49, 50, 51, 52, 53, 54, 55, 60, 61, 62, 63, 64, 65, 66, 70, 72] [16, 17, 18, 19, 20, 21, 22, 23, 25, 26, 27, 28, 29, 30, 31, 32, 33, 34, 56, 57, 58, 59, 67, 68, 69, 71] F0 G0 F' G') := by
  intro n
  induction n with
  | zero =>
    intro x1 x4 x5 x6 F G hK
    exact PP.no
  | succ n ihn =>
    intro x1 x4 x5 x6 F G hK
    show PP (mb_function_177 fu (ml_function_177 fu n) x1 x4 x5 x6 F G) _
    unfold mb_function_177
    refine PP.ite (fun c_1 => ?_) (fun c_1 => ?_)
    · skip
      exact mwj_function_282 x1 x4 x5 F G hK
    · skip
      unfold mb_function_182
      refine PP.ite (fun c_2 => ?_) (fun c_2 => ?_)
      · skip
        unfold mb_function_189
        refine PP.bind (mw_formalHere x5 F G) ?_
        intro r3 F3 G3 hK3
        dsimp only
        unfold mb_function_195
        refine PP.ite (fun c_4 => ?_) (fun c_4 => ?_)
        · skip
          unfold mb_function_206
          refine PP.ite (fun c_5 => ?_) (fun c_5 => ?_)
          · skip
            unfold mb_function_213
            refine PP.ix (fun _ => ?_)
            unfold mb_function_224
            exact mwj_function_234 (ml_function_177 fu n) ihn x1 x4 x5 r3 (fup F3 35 ((F3 35) + (1 : Int32))) (gup G3 34 (F3 35).toNatClampNeg r3) (KX.f (k := 35) rfl (KX.g (k := 34) rfl (KX.tr hK hK3 rfl rfl)))
          · skip
            exact mwj_function_234 (ml_function_177 fu n) ihn x1 x4 x5 r3 F3 G3 (KX.tr hK hK3 rfl rfl)
        · skip
          unfold mb_function_204
          refine PP.ret ?_
          exact (KX.tr hK hK3 rfl rfl)
      · skip
        exact mwj_function_282 x1 x4 x5 F G hK
theorem mwj_function_174 {fu : Nat} {F0 : PF} {G0 : PG} (x1 : Int32) (x4 : Int32) (x5 : Int32) (F : PF) (G : PG) (hK : KX [14, 15, 24, 35, 42, 43, 44, 45, 47, 48, 49, 50, 51, 52, 53, 54, 55, 60, 61, 62, 63, 64, 65, 66, 70, 72] [16, 17, 18, 19, 20, 21, 22, 23, 25, 26, 27, 28, 29, 30, 31, 32, 33, 34, 56, 57, 58, 59, 67, 68, 69, 71] F0 G0 F G) : PP (mb_function_174 fu x1 x4 x5 F G) (fun _ F' G' => KX [14, 15, 24, 35, 42, 43, 44, 45, 47, 48, 49, 50, 51, 52, 53, 54, 55, 60, 61, 62, 63, 64, 65, 66, 70, 72] [16, 17, 18, 19, 20, 21, 22, 23, 25, 26, 27, 28, 29, 30, 31, 32, 33, 34, 56, 57, 58, 59, 67, 68, 69, 71] F0 G0 F' G') := by
  unfold mb_function_174
  exact mwz_function_177 fu x1 x4 x5 (1 : Int32) F G hK
theorem mwj_function_97 {fu : Nat} {F0 : PF} {G0 : PG} (x1 : Int32) (F : PF) (G : PG) (hK : KX [14, 15, 24, 35, 42, 43, 44, 45, 47, 48, 49, 50, 51, 52, 53, 54, 55, 60, 61, 62, 63, 64, 65, 66, 70, 72] [16, 17, 18, 19, 20, 21, 22, 23, 25, 26, 27, 28, 29, 30, 31, 32, 33, 34, 56, 57, 58, 59, 67, 68, 69, 71] F0 G0 F G) : PP (mb_function_97 fu x1 F G) (fun _ F' G' => KX [14, 15, 24, 35, 42, 43, 44, 45, 47, 48, 49, 50, 51, 52, 53, 54, 55, 60, 61, 62, 63, 64, 65, 66, 70, 72] [16, 17, 18, 19, 20, 21, 22, 23, 25, 26, 27, 28, 29, 30, 31, 32, 33, 34, 56, 57, 58, 59, 67, 68, 69, 71] F0 G0 F' G') := by
  unfold mb_function_97
  unfold mb_function_102
  unfold mb_function_107
  unfold mb_function_112
  unfold mb_function_117
  unfold mb_function_122
  unfold mb_function_127
  refine PP.bind (mw_begins (fup (fup (fup (fup (fup (fup F 50 x1) 63 (-1 : Int32)) 64 (-1 : Int32)) 52 (0 : Int32)) 53 (0 : Int32)) 51 (0 : Int32)) G) ?_
  intro r1 F1 G1 hK1
  dsimp only
  unfold mb_function_131
  refine PP.bind (mw_openSign (22 : Int32) F1 G1) ?_
  intro r2 F2 G2 hK2
  dsimp only
  unfold mb_function_137
  refine PP.ite (fun c_3 => ?_) (fun c_3 => ?_)
  · skip
    unfold mb_function_140
    refine PP.ret ?_
    exact (KX.tr (KX.tr (KX.f (k := 51) rfl (KX.f (k := 53) rfl (KX.f (k := 52) rfl (KX.f (k := 64) rfl (KX.f (k := 63) rfl (KX.f (k := 50) rfl hK)))))) hK1 rfl rfl) hK2 rfl rfl)
  · skip
    unfold mb_function_142
    refine PP.bind (mw_isSign (23 : Int32) F2 G2) ?_
    intro r4 F4 G4 hK4
    dsimp only
    unfold mb_function_154
    refine PP.ite (fun c_5 => ?_) (fun c_5 => ?_)
    · skip
      unfold mb_function_157
      refine PP.ite (fun c_6 => ?_) (fun c_6 => ?_)
      · skip
        unfold mb_function_164
        refine PP.ix (fun _ => ?_)
        exact mwj_function_174 x1 (4 : Int32) (0 : Int32) F4 (gup G4 32 x1.toNatClampNeg (F4 42)) (KX.g (k := 32) rfl (KX.tr (KX.tr (KX.tr (KX.f (k := 51) rfl (KX.f (k := 53) rfl (KX.f (k := 52) rfl (KX.f (k := 64) rfl (KX.f (k := 63) rfl (KX.f (k := 50) rfl hK)))))) hK1 rfl rfl) hK2 rfl rfl) hK4 rfl rfl))
      · skip
        exact mwj_function_174 x1 (4 : Int32) (0 : Int32) F4 G4 (KX.tr (KX.tr (KX.tr (KX.f (k := 51) rfl (KX.f (k := 53) rfl (KX.f (k := 52) rfl (KX.f (k := 64) rfl (KX.f (k := 63) rfl (KX.f (k := 50) rfl hK)))))) hK1 rfl rfl) hK2 rfl rfl) hK4 rfl rfl)
    · skip
      exact mwj_function_282 x1 (4 : Int32) (0 : Int32) F4 G4 (KX.tr (KX.tr (KX.tr (KX.f (k := 51) rfl (KX.f (k := 53) rfl (KX.f (k := 52) rfl (KX.f (k := 64) rfl (KX.f (k := 63) rfl (KX.f (k := 50) rfl hK)))))) hK1 rfl rfl) hK2 rfl rfl) hK4 rfl rfl)
theorem mwj_function_28 {fu : Nat} {F0 : PF} {G0 : PG} (x1 : Int32) (x2 : Int32) (x3 : Int32) (F : PF) (G : PG) (hK : KX [14, 15, 24, 35, 42, 43, 44, 45, 47, 48, 49, 50, 51, 52, 53, 54, 55, 60, 61, 62, 63, 64, 65, 66, 70, 72] [16, 17, 18, 19, 20, 21, 22, 23, 25, 26, 27, 28, 29, 30, 31, 32, 33, 34, 56, 57, 58, 59, 67, 68, 69, 71] F0 G0 F G) : PP (mb_function_28 fu x1 x2 x3 F G) (fun _ F' G' => KX [14, 15, 24, 35, 42, 43, 44, 45, 47, 48, 49, 50, 51, 52, 53, 54, 55, 60, 61, 62, 63, 64, 65, 66, 70, 72] [16, 17, 18, 19, 20, 21, 22, 23, 25, 26, 27, 28, 29, 30, 31, 32, 33, 34, 56, 57, 58, 59, 67, 68, 69, 71] F0 G0 F' G') := by
  unfold mb_function_28
  refine PP.ite (fun c_1 => ?_) (fun c_1 => ?_)
  · skip
    unfold mb_function_35
    refine PP.ix (fun _ => ?_)
    refine PP.ix (fun _ => ?_)
    unfold mb_function_47
    refine PP.ix (fun _ => ?_)
    refine PP.ix (fun _ => ?_)
    unfold mb_function_59
    refine PP.ix (fun _ => ?_)
    unfold mb_function_66
    refine PP.ix (fun _ => ?_)
    unfold mb_function_76
    refine PP.ix (fun _ => ?_)
    unfold mb_function_83
    refine PP.ix (fun _ => ?_)
    unfold mb_function_90
    exact mwj_function_97 x1 (fup F 24 (x1 + (1 : Int32))) (gup (gup (gup (gup (gup (gup G 25 x1.toNatClampNeg (G 5 x2.toNatClampNeg)) 26 x1.toNatClampNeg (G 6 x2.toNatClampNeg)) 33 x1.toNatClampNeg (vp_nar .boolean x3)) 31 x1.toNatClampNeg (F 35)) 27 x1.toNatClampNeg (0 : Int32)) 32 x1.toNatClampNeg (-1 : Int32)) (KX.f (k := 24) rfl (KX.g (k := 32) rfl (KX.g (k := 27) rfl (KX.g (k := 31) rfl (KX.g (k := 33) rfl (KX.g (k := 26) rfl (KX.g (k := 25) rfl hK)))))))
  · skip
    exact mwj_function_97 x1 F G hK
theorem mw_function {fu : Nat} (x1 : Int32) (x2 : Int32) (x3 : Int32) (F : PF) (G : PG) : PP (mf_function fu x1 x2 x3 F G) (fun _ F' G' => KX [14, 15, 24, 35, 42, 43, 44, 45, 47, 48, 49, 50, 51, 52, 53, 54, 55, 60, 61, 62, 63, 64, 65, 66, 70, 72] [16, 17, 18, 19, 20, 21, 22, 23, 25, 26, 27, 28, 29, 30, 31, 32, 33, 34, 56, 57, 58, 59, 67, 68, 69, 71] F G F' G') := by
  unfold mf_function
  unfold mb_function_0
  unfold mb_function_5
  refine PP.bind (mw_twice x2 (fup F 61 (1 : Int32)) G) ?_
  intro r1 F1 G1 hK1
  dsimp only
  unfold mb_function_10
  refine PP.ite (fun c_2 => ?_) (fun c_2 => ?_)
  · skip
    exact mwj_function_28 x1 x2 x3 F1 G1 (KX.tr (KX.f (k := 61) rfl KX.rf) hK1 rfl rfl)
  · skip
    unfold mb_function_16
    refine PP.ix (fun _ => ?_)
    refine PP.bind (mw_note (11 : Int32) (G1 6 x2.toNatClampNeg) F1 G1) ?_
    intro r3 F3 G3 hK3
    dsimp only
    exact mwj_function_28 x1 x2 x3 F3 G3 (KX.tr (KX.tr (KX.f (k := 61) rfl KX.rf) hK1 rfl rfl) hK3 rfl rfl)
theorem mwj_tells_293 {fu : Nat} {F0 : PF} {G0 : PG} (z0 : Int32) (F : PF) (G : PG) (hK : KX [14, 15, 24, 35, 36, 37, 42, 43, 44, 45, 47, 48, 49, 50, 51, 52, 53, 54, 55, 60, 61, 62, 63, 64, 65, 66, 70, 72] [16, 17, 18, 19, 20, 21, 22, 23, 25, 26, 27, 28, 29, 30, 31, 32, 33, 34, 38, 39, 40, 41, 56, 57, 58, 59, 67, 68, 69, 71] F0 G0 F G) : PP (mb_tells_293 fu z0 F G) (fun _ F' G' => KX [14, 15, 24, 35, 36, 37, 42, 43, 44, 45, 47, 48, 49, 50, 51, 52, 53, 54, 55, 60, 61, 62, 63, 64, 65, 66, 70, 72] [16, 17, 18, 19, 20, 21, 22, 23, 25, 26, 27, 28, 29, 30, 31, 32, 33, 34, 38, 39, 40, 41, 56, 57, 58, 59, 67, 68, 69, 71] F0 G0 F' G') := by
  unfold mb_tells_293
  refine PP.bz (fun _ => ?_)
  refine PP.ret ?_
  exact hK
theorem mwj_tells_292 {fu : Nat} {F0 : PF} {G0 : PG} (F : PF) (G : PG) (hK : KX [14, 15, 24, 35, 36, 37, 42, 43, 44, 45, 47, 48, 49, 50, 51, 52, 53, 54, 55, 60, 61, 62, 63, 64, 65, 66, 70, 72] [16, 17, 18, 19, 20, 21, 22, 23, 25, 26, 27, 28, 29, 30, 31, 32, 33, 34, 38, 39, 40, 41, 56, 57, 58, 59, 67, 68, 69, 71] F0 G0 F G) : PP (mb_tells_292 fu F G) (fun _ F' G' => KX [14, 15, 24, 35, 36, 37, 42, 43, 44, 45, 47, 48, 49, 50, 51, 52, 53, 54, 55, 60, 61, 62, 63, 64, 65, 66, 70, 72] [16, 17, 18, 19, 20, 21, 22, 23, 25, 26, 27, 28, 29, 30, 31, 32, 33, 34, 38, 39, 40, 41, 56, 57, 58, 59, 67, 68, 69, 71] F0 G0 F' G') := by
  unfold mb_tells_292
  exact mwj_tells_293 (0 : Int32) F G hK
theorem mwj_tells_269 {fu : Nat} {F0 : PF} {G0 : PG} (x3 : Int32) (x4 : Int32) (F : PF) (G : PG) (hK : KX [14, 15, 24, 35, 36, 37, 42, 43, 44, 45, 47, 48, 49, 50, 51, 52, 53, 54, 55, 60, 61, 62, 63, 64, 65, 66, 70, 72] [16, 17, 18, 19, 20, 21, 22, 23, 25, 26, 27, 28, 29, 30, 31, 32, 33, 34, 38, 39, 40, 41, 56, 57, 58, 59, 67, 68, 69, 71] F0 G0 F G) : PP (mb_tells_269 fu x3 x4 F G) (fun _ F' G' => KX [14, 15, 24, 35, 36, 37, 42, 43, 44, 45, 47, 48, 49, 50, 51, 52, 53, 54, 55, 60, 61, 62, 63, 64, 65, 66, 70, 72] [16, 17, 18, 19, 20, 21, 22, 23, 25, 26, 27, 28, 29, 30, 31, 32, 33, 34, 38, 39, 40, 41, 56, 57, 58, 59, 67, 68, 69, 71] F0 G0 F' G') := by
  unfold mb_tells_269
  refine PP.bind (mw_array x4 x3 F G) ?_
  intro r1 F1 G1 hK1
  dsimp only
  unfold mb_tells_276
  refine PP.ite (fun c_2 => ?_) (fun c_2 => ?_)
  · skip
    exact mwj_tells_292 F1 G1 (KX.tr hK hK1 rfl rfl)
  · skip
    unfold mb_tells_279
    refine PP.bind (mw_sign (29 : Int32) F1 G1) ?_
    intro r3 F3 G3 hK3
    dsimp only
    unfold mb_tells_285
    refine PP.ite (fun c_4 => ?_) (fun c_4 => ?_)
    · skip
      exact mwj_tells_292 F3 G3 (KX.tr (KX.tr hK hK1 rfl rfl) hK3 rfl rfl)
    · skip
      unfold mb_tells_288
      exact mwj_tells_293 (1 : Int32) F3 G3 (KX.tr (KX.tr hK hK1 rfl rfl) hK3 rfl rfl)
theorem mwj_tells_239 {fu : Nat} {F0 : PF} {G0 : PG} (x4 : Int32) (x5 : Int32) (F : PF) (G : PG) (hK : KX [14, 15, 24, 35, 36, 37, 42, 43, 44, 45, 47, 48, 49, 50, 51, 52, 53, 54, 55, 60, 61, 62, 63, 64, 65, 66, 70, 72] [16, 17, 18, 19, 20, 21, 22, 23, 25, 26, 27, 28, 29, 30, 31, 32, 33, 34, 38, 39, 40, 41, 56, 57, 58, 59, 67, 68, 69, 71] F0 G0 F G) : PP (mb_tells_239 fu x4 x5 F G) (fun _ F' G' => KX [14, 15, 24, 35, 36, 37, 42, 43, 44, 45, 47, 48, 49, 50, 51, 52, 53, 54, 55, 60, 61, 62, 63, 64, 65, 66, 70, 72] [16, 17, 18, 19, 20, 21, 22, 23, 25, 26, 27, 28, 29, 30, 31, 32, 33, 34, 38, 39, 40, 41, 56, 57, 58, 59, 67, 68, 69, 71] F0 G0 F' G') := by
  unfold mb_tells_239
  unfold mb_tells_256
  refine PP.ix (fun _ => ?_)
  refine PP.bind (mw_declare x4 (1 : Int32) (0 : Int32) (G 39 (if (2000 : Int32) < x5 then (2000 : Int32) else x5).toNatClampNeg) (1 : Int32) (0 : Int32) F G) ?_
  intro r1 F1 G1 hK1
  dsimp only
  unfold mb_tells_262
  refine PP.bind (mw_sign (29 : Int32) F1 G1) ?_
  intro r2 F2 G2 hK2
  dsimp only
  unfold mb_tells_268
  refine PP.bz (fun _ => ?_)
  refine PP.ret ?_
  exact (KX.tr (KX.tr hK hK1 rfl rfl) hK2 rfl rfl)
theorem mwj_tells_164 {fu : Nat} {F0 : PF} {G0 : PG} (x3 : Int32) (x4 : Int32) (F : PF) (G : PG) (hK : KX [14, 15, 24, 35, 36, 37, 42, 43, 44, 45, 47, 48, 49, 50, 51, 52, 53, 54, 55, 60, 61, 62, 63, 64, 65, 66, 70, 72] [16, 17, 18, 19, 20, 21, 22, 23, 25, 26, 27, 28, 29, 30, 31, 32, 33, 34, 38, 39, 40, 41, 56, 57, 58, 59, 67, 68, 69, 71] F0 G0 F G) : PP (mb_tells_164 fu x3 x4 F G) (fun _ F' G' => KX [14, 15, 24, 35, 36, 37, 42, 43, 44, 45, 47, 48, 49, 50, 51, 52, 53, 54, 55, 60, 61, 62, 63, 64, 65, 66, 70, 72] [16, 17, 18, 19, 20, 21, 22, 23, 25, 26, 27, 28, 29, 30, 31, 32, 33, 34, 38, 39, 40, 41, 56, 57, 58, 59, 67, 68, 69, 71] F0 G0 F' G') := by
  unfold mb_tells_164
  refine PP.ite (fun c_1 => ?_) (fun c_1 => ?_)
  · skip
    unfold mb_tells_168
    refine PP.bind (mw_isSign (32 : Int32) F G) ?_
    intro r2 F2 G2 hK2
    dsimp only
    unfold mb_tells_174
    refine PP.ite (fun c_3 => ?_) (fun c_3 => ?_)
    · skip
      exact mwj_tells_269 x3 x4 F2 G2 (KX.tr hK hK2 rfl rfl)
    · skip
      unfold mb_tells_177
      refine PP.bind (mw_globalAt x4 F2 G2) ?_
      intro r4 F4 G4 hK4
      dsimp only
      unfold mb_tells_183
      unfold mb_tells_195
      refine PP.bind (mw_value (fup F4 42 ((F4 42) + (1 : Int32))) G4) ?_
      intro r5 F5 G5 hK5
      dsimp only
      unfold mb_tells_199
      refine PP.ite (fun c_6 => ?_) (fun c_6 => ?_)
      · skip
        unfold mb_tells_210
        refine PP.ite (fun c_7 => ?_) (fun c_7 => ?_)
        · skip
          exact mwj_tells_239 x4 r4 F5 G5 (KX.tr (KX.f (k := 42) rfl (KX.tr (KX.tr hK hK2 rfl rfl) hK4 rfl rfl)) hK5 rfl rfl)
        · skip
          unfold mb_tells_217
          refine PP.ite (fun c_8 => ?_) (fun c_8 => ?_)
          · skip
            exact mwj_tells_239 x4 r4 F5 G5 (KX.tr (KX.f (k := 42) rfl (KX.tr (KX.tr hK hK2 rfl rfl) hK4 rfl rfl)) hK5 rfl rfl)
          · skip
            unfold mb_tells_225
            refine PP.ix (fun _ => ?_)
            refine PP.ix (fun _ => ?_)
            exact mwj_tells_239 x4 r4 F5 (gup G5 41 (G5 39 r4.toNatClampNeg).toNatClampNeg r5) (KX.g (k := 41) rfl (KX.tr (KX.f (k := 42) rfl (KX.tr (KX.tr hK hK2 rfl rfl) hK4 rfl rfl)) hK5 rfl rfl))
      · skip
        unfold mb_tells_208
        refine PP.ret ?_
        exact (KX.tr (KX.f (k := 42) rfl (KX.tr (KX.tr hK hK2 rfl rfl) hK4 rfl rfl)) hK5 rfl rfl)
  · skip
    exact mwj_tells_269 x3 x4 F G hK
theorem mwj_tells_163 {fu : Nat} {F0 : PF} {G0 : PG} (z0 : Int32) (F : PF) (G : PG) (hK : KX [14, 15, 24, 35, 36, 37, 42, 43, 44, 45, 47, 48, 49, 50, 51, 52, 53, 54, 55, 60, 61, 62, 63, 64, 65, 66, 70, 72] [16, 17, 18, 19, 20, 21, 22, 23, 25, 26, 27, 28, 29, 30, 31, 32, 33, 34, 38, 39, 40, 41, 56, 57, 58, 59, 67, 68, 69, 71] F0 G0 F G) : PP (mb_tells_163 fu z0 F G) (fun _ F' G' => KX [14, 15, 24, 35, 36, 37, 42, 43, 44, 45, 47, 48, 49, 50, 51, 52, 53, 54, 55, 60, 61, 62, 63, 64, 65, 66, 70, 72] [16, 17, 18, 19, 20, 21, 22, 23, 25, 26, 27, 28, 29, 30, 31, 32, 33, 34, 38, 39, 40, 41, 56, 57, 58, 59, 67, 68, 69, 71] F0 G0 F' G') := by
  unfold mb_tells_163
  refine PP.bz (fun _ => ?_)
  refine PP.ret ?_
  exact hK
theorem mwj_tells_162 {fu : Nat} {F0 : PF} {G0 : PG} (F : PF) (G : PG) (hK : KX [14, 15, 24, 35, 36, 37, 42, 43, 44, 45, 47, 48, 49, 50, 51, 52, 53, 54, 55, 60, 61, 62, 63, 64, 65, 66, 70, 72] [16, 17, 18, 19, 20, 21, 22, 23, 25, 26, 27, 28, 29, 30, 31, 32, 33, 34, 38, 39, 40, 41, 56, 57, 58, 59, 67, 68, 69, 71] F0 G0 F G) : PP (mb_tells_162 fu F G) (fun _ F' G' => KX [14, 15, 24, 35, 36, 37, 42, 43, 44, 45, 47, 48, 49, 50, 51, 52, 53, 54, 55, 60, 61, 62, 63, 64, 65, 66, 70, 72] [16, 17, 18, 19, 20, 21, 22, 23, 25, 26, 27, 28, 29, 30, 31, 32, 33, 34, 38, 39, 40, 41, 56, 57, 58, 59, 67, 68, 69, 71] F0 G0 F' G') := by
  unfold mb_tells_162
  exact mwj_tells_163 (0 : Int32) F G hK
theorem mwj_tells_117 {fu : Nat} {F0 : PF} {G0 : PG} (x2 : Int32) (x3 : Int32) (x4 : Int32) (F : PF) (G : PG) (hK : KX [14, 15, 24, 35, 36, 37, 42, 43, 44, 45, 47, 48, 49, 50, 51, 52, 53, 54, 55, 60, 61, 62, 63, 64, 65, 66, 70, 72] [16, 17, 18, 19, 20, 21, 22, 23, 25, 26, 27, 28, 29, 30, 31, 32, 33, 34, 38, 39, 40, 41, 56, 57, 58, 59, 67, 68, 69, 71] F0 G0 F G) : PP (mb_tells_117 fu x2 x3 x4 F G) (fun _ F' G' => KX [14, 15, 24, 35, 36, 37, 42, 43, 44, 45, 47, 48, 49, 50, 51, 52, 53, 54, 55, 60, 61, 62, 63, 64, 65, 66, 70, 72] [16, 17, 18, 19, 20, 21, 22, 23, 25, 26, 27, 28, 29, 30, 31, 32, 33, 34, 38, 39, 40, 41, 56, 57, 58, 59, 67, 68, 69, 71] F0 G0 F' G') := by
  unfold mb_tells_117
  refine PP.ite (fun c_1 => ?_) (fun c_1 => ?_)
  · skip
    unfold mb_tells_127
    refine PP.ite (fun c_2 => ?_) (fun c_2 => ?_)
    · skip
      unfold mb_tells_131
      refine PP.bind (mw_isSign (29 : Int32) F G) ?_
      intro r3 F3 G3 hK3
      dsimp only
      unfold mb_tells_137
      refine PP.ite (fun c_4 => ?_) (fun c_4 => ?_)
      · skip
        exact mwj_tells_164 x3 x4 F3 G3 (KX.tr hK hK3 rfl rfl)
      · skip
        unfold mb_tells_140
        refine PP.bind (mw_globalInt x4 F3 G3) ?_
        intro r5 F5 G5 hK5
        dsimp only
        unfold mb_tells_146
        refine PP.ite (fun c_6 => ?_) (fun c_6 => ?_)
        · skip
          exact mwj_tells_162 F5 G5 (KX.tr (KX.tr hK hK3 rfl rfl) hK5 rfl rfl)
        · skip
          unfold mb_tells_149
          refine PP.bind (mw_sign (29 : Int32) F5 G5) ?_
          intro r7 F7 G7 hK7
          dsimp only
          unfold mb_tells_155
          refine PP.ite (fun c_8 => ?_) (fun c_8 => ?_)
          · skip
            exact mwj_tells_162 F7 G7 (KX.tr (KX.tr (KX.tr hK hK3 rfl rfl) hK5 rfl rfl) hK7 rfl rfl)
          · skip
            unfold mb_tells_158
            exact mwj_tells_163 (1 : Int32) F7 G7 (KX.tr (KX.tr (KX.tr hK hK3 rfl rfl) hK5 rfl rfl) hK7 rfl rfl)
    · skip
      exact mwj_tells_164 x3 x4 F G hK
  · skip
    unfold mb_tells_121
    refine PP.bind (mw_fails (2 : Int32) F G) ?_
    intro r9 F9 G9 hK9
    dsimp only
    unfold mb_tells_126
    refine PP.bz (fun _ => ?_)
    refine PP.ret ?_
    exact (KX.tr hK hK9 rfl rfl)
theorem mwj_tells_70 {fu : Nat} {F0 : PF} {G0 : PG} (x1 : Int32) (x2 : Int32) (x3 : Int32) (F : PF) (G : PG) (hK : KX [14, 15, 24, 35, 36, 37, 42, 43, 44, 45, 47, 48, 49, 50, 51, 52, 53, 54, 55, 60, 61, 62, 63, 64, 65, 66, 70, 72] [16, 17, 18, 19, 20, 21, 22, 23, 25, 26, 27, 28, 29, 30, 31, 32, 33, 34, 38, 39, 40, 41, 56, 57, 58, 59, 67, 68, 69, 71] F0 G0 F G) : PP (mb_tells_70 fu x1 x2 x3 F G) (fun _ F' G' => KX [14, 15, 24, 35, 36, 37, 42, 43, 44, 45, 47, 48, 49, 50, 51, 52, 53, 54, 55, 60, 61, 62, 63, 64, 65, 66, 70, 72] [16, 17, 18, 19, 20, 21, 22, 23, 25, 26, 27, 28, 29, 30, 31, 32, 33, 34, 38, 39, 40, 41, 56, 57, 58, 59, 67, 68, 69, 71] F0 G0 F' G') := by
  unfold mb_tells_70
  unfold mb_tells_80
  refine PP.bind (mw_name (fup F 42 ((F 42) + (1 : Int32))) G) ?_
  intro r1 F1 G1 hK1
  dsimp only
  unfold mb_tells_84
  refine PP.ite (fun c_2 => ?_) (fun c_2 => ?_)
  · skip
    unfold mb_tells_95
    refine PP.ite (fun c_3 => ?_) (fun c_3 => ?_)
    · skip
      unfold mb_tells_99
      refine PP.bind (mw_isSign (22 : Int32) F1 G1) ?_
      intro r4 F4 G4 hK4
      dsimp only
      unfold mb_tells_105
      refine PP.ite (fun c_5 => ?_) (fun c_5 => ?_)
      · skip
        exact mwj_tells_117 x2 x3 r1 F4 G4 (KX.tr (KX.tr (KX.f (k := 42) rfl hK) hK1 rfl rfl) hK4 rfl rfl)
      · skip
        unfold mb_tells_108
        refine PP.bind (mw_function x1 r1 x2 F4 G4) ?_
        intro r6 F6 G6 hK6
        dsimp only
        unfold mb_tells_116
        refine PP.bz (fun _ => ?_)
        refine PP.ret ?_
        exact (KX.tr (KX.tr (KX.tr (KX.f (k := 42) rfl hK) hK1 rfl rfl) hK4 rfl rfl) hK6 rfl rfl)
    · skip
      exact mwj_tells_117 x2 x3 r1 F1 G1 (KX.tr (KX.f (k := 42) rfl hK) hK1 rfl rfl)
  · skip
    unfold mb_tells_93
    refine PP.ret ?_
    exact (KX.tr (KX.f (k := 42) rfl hK) hK1 rfl rfl)
theorem mwj_tells_35 {fu : Nat} {F0 : PF} {G0 : PG} (z0 : Int32) (F : PF) (G : PG) (hK : KX [14, 15, 24, 35, 36, 37, 42, 43, 44, 45, 47, 48, 49, 50, 51, 52, 53, 54, 55, 60, 61, 62, 63, 64, 65, 66, 70, 72] [16, 17, 18, 19, 20, 21, 22, 23, 25, 26, 27, 28, 29, 30, 31, 32, 33, 34, 38, 39, 40, 41, 56, 57, 58, 59, 67, 68, 69, 71] F0 G0 F G) : PP (mb_tells_35 fu z0 F G) (fun _ F' G' => KX [14, 15, 24, 35, 36, 37, 42, 43, 44, 45, 47, 48, 49, 50, 51, 52, 53, 54, 55, 60, 61, 62, 63, 64, 65, 66, 70, 72] [16, 17, 18, 19, 20, 21, 22, 23, 25, 26, 27, 28, 29, 30, 31, 32, 33, 34, 38, 39, 40, 41, 56, 57, 58, 59, 67, 68, 69, 71] F0 G0 F' G') := by
  unfold mb_tells_35
  refine PP.bz (fun _ => ?_)
  refine PP.ret ?_
  exact hK
theorem mwj_tells_34 {fu : Nat} {F0 : PF} {G0 : PG} (F : PF) (G : PG) (hK : KX [14, 15, 24, 35, 36, 37, 42, 43, 44, 45, 47, 48, 49, 50, 51, 52, 53, 54, 55, 60, 61, 62, 63, 64, 65, 66, 70, 72] [16, 17, 18, 19, 20, 21, 22, 23, 25, 26, 27, 28, 29, 30, 31, 32, 33, 34, 38, 39, 40, 41, 56, 57, 58, 59, 67, 68, 69, 71] F0 G0 F G) : PP (mb_tells_34 fu F G) (fun _ F' G' => KX [14, 15, 24, 35, 36, 37, 42, 43, 44, 45, 47, 48, 49, 50, 51, 52, 53, 54, 55, 60, 61, 62, 63, 64, 65, 66, 70, 72] [16, 17, 18, 19, 20, 21, 22, 23, 25, 26, 27, 28, 29, 30, 31, 32, 33, 34, 38, 39, 40, 41, 56, 57, 58, 59, 67, 68, 69, 71] F0 G0 F' G') := by
  unfold mb_tells_34
  exact mwj_tells_35 (0 : Int32) F G hK
theorem mw_tells {fu : Nat} (x1 : Int32) (F : PF) (G : PG) : PP (mf_tells fu x1 F G) (fun _ F' G' => KX [14, 15, 24, 35, 36, 37, 42, 43, 44, 45, 47, 48, 49, 50, 51, 52, 53, 54, 55, 60, 61, 62, 63, 64, 65, 66, 70, 72] [16, 17, 18, 19, 20, 21, 22, 23, 25, 26, 27, 28, 29, 30, 31, 32, 33, 34, 38, 39, 40, 41, 56, 57, 58, 59, 67, 68, 69, 71] F G F' G') := by
  unfold mf_tells
  unfold mb_tells_0
  unfold mb_tells_5
  refine PP.bind (mw_word (3 : Int32) (0 : Int32) (fup F 61 (0 : Int32)) G) ?_
  intro r1 F1 G1 hK1
  dsimp only
  unfold mb_tells_11
  refine PP.ite (fun c_2 => ?_) (fun c_2 => ?_)
  · skip
    unfold mb_tells_36
    refine PP.bind (mw_isWord (2 : Int32) F1 G1) ?_
    intro r3 F3 G3 hK3
    dsimp only
    unfold mb_tells_41
    refine PP.bind (mw_isWord (1 : Int32) F3 G3) ?_
    intro r4 F4 G4 hK4
    dsimp only
    unfold mb_tells_47
    refine PP.ite (fun c_5 => ?_) (fun c_5 => ?_)
    · skip
      unfold mb_tells_52
      refine PP.ite (fun c_6 => ?_) (fun c_6 => ?_)
      · skip
        unfold mb_tells_56
        refine PP.bind (mw_isWord (0 : Int32) F4 G4) ?_
        intro r7 F7 G7 hK7
        dsimp only
        unfold mb_tells_61
        refine PP.ite (fun c_8 => ?_) (fun c_8 => ?_)
        · skip
          unfold mb_tells_64
          refine PP.bind (mw_fails (2 : Int32) F7 G7) ?_
          intro r9 F9 G9 hK9
          dsimp only
          unfold mb_tells_69
          refine PP.bz (fun _ => ?_)
          refine PP.ret ?_
          exact (KX.tr (KX.tr (KX.tr (KX.tr (KX.tr (KX.f (k := 61) rfl KX.rf) hK1 rfl rfl) hK3 rfl rfl) hK4 rfl rfl) hK7 rfl rfl) hK9 rfl rfl)
        · skip
          exact mwj_tells_70 x1 r3 r4 F7 G7 (KX.tr (KX.tr (KX.tr (KX.tr (KX.f (k := 61) rfl KX.rf) hK1 rfl rfl) hK3 rfl rfl) hK4 rfl rfl) hK7 rfl rfl)
      · skip
        exact mwj_tells_70 x1 r3 r4 F4 G4 (KX.tr (KX.tr (KX.tr (KX.f (k := 61) rfl KX.rf) hK1 rfl rfl) hK3 rfl rfl) hK4 rfl rfl)
    · skip
      exact mwj_tells_70 x1 r3 r4 F4 G4 (KX.tr (KX.tr (KX.tr (KX.f (k := 61) rfl KX.rf) hK1 rfl rfl) hK3 rfl rfl) hK4 rfl rfl)
  · skip
    unfold mb_tells_14
    refine PP.bind (mw_word (0 : Int32) (1 : Int32) F1 G1) ?_
    intro r10 F10 G10 hK10
    dsimp only
    unfold mb_tells_20
    refine PP.ite (fun c_11 => ?_) (fun c_11 => ?_)
    · skip
      exact mwj_tells_34 F10 G10 (KX.tr (KX.tr (KX.f (k := 61) rfl KX.rf) hK1 rfl rfl) hK10 rfl rfl)
    · skip
      unfold mb_tells_23
      refine PP.bind (mw_constantTold F10 G10) ?_
      intro r12 F12 G12 hK12
      dsimp only
      unfold mb_tells_27
      refine PP.ite (fun c_13 => ?_) (fun c_13 => ?_)
      · skip
        exact mwj_tells_34 F12 G12 (KX.tr (KX.tr (KX.tr (KX.f (k := 61) rfl KX.rf) hK1 rfl rfl) hK10 rfl rfl) hK12 rfl rfl)
      · skip
        unfold mb_tells_30
        exact mwj_tells_35 (1 : Int32) F12 G12 (KX.tr (KX.tr (KX.tr (KX.f (k := 61) rfl KX.rf) hK1 rfl rfl) hK10 rfl rfl) hK12 rfl rfl)
theorem mwj_texts_155 {fu : Nat} {F0 : PF} {G0 : PG} (z0 : Int32) (F : PF) (G : PG) (hK : KX [14, 15, 24, 35, 36, 37, 42, 43, 44, 45, 47, 48, 49, 50, 51, 52, 53, 54, 55, 60, 61, 62, 63, 64, 65, 66, 70, 72] [16, 17, 18, 19, 20, 21, 22, 23, 25, 26, 27, 28, 29, 30, 31, 32, 33, 34, 38, 39, 40, 41, 56, 57, 58, 59, 67, 68, 69, 71] F0 G0 F G) : PP (mb_texts_155 fu z0 F G) (fun _ F' G' => KX [14, 15, 24, 35, 36, 37, 42, 43, 44, 45, 47, 48, 49, 50, 51, 52, 53, 54, 55, 60, 61, 62, 63, 64, 65, 66, 70, 72] [16, 17, 18, 19, 20, 21, 22, 23, 25, 26, 27, 28, 29, 30, 31, 32, 33, 34, 38, 39, 40, 41, 56, 57, 58, 59, 67, 68, 69, 71] F0 G0 F' G') := by
  unfold mb_texts_155
  refine PP.bz (fun _ => ?_)
  refine PP.ret ?_
  exact hK
theorem mwj_texts_150 {fu : Nat} {F0 : PF} {G0 : PG} (F : PF) (G : PG) (hK : KX [14, 15, 24, 35, 36, 37, 42, 43, 44, 45, 47, 48, 49, 50, 51, 52, 53, 54, 55, 60, 61, 62, 63, 64, 65, 66, 70, 72] [16, 17, 18, 19, 20, 21, 22, 23, 25, 26, 27, 28, 29, 30, 31, 32, 33, 34, 38, 39, 40, 41, 56, 57, 58, 59, 67, 68, 69, 71] F0 G0 F G) : PP (mb_texts_150 fu F G) (fun _ F' G' => KX [14, 15, 24, 35, 36, 37, 42, 43, 44, 45, 47, 48, 49, 50, 51, 52, 53, 54, 55, 60, 61, 62, 63, 64, 65, 66, 70, 72] [16, 17, 18, 19, 20, 21, 22, 23, 25, 26, 27, 28, 29, 30, 31, 32, 33, 34, 38, 39, 40, 41, 56, 57, 58, 59, 67, 68, 69, 71] F0 G0 F' G') := by
  unfold mb_texts_150
  exact mwj_texts_155 (1 : Int32) F G hK
theorem mwj_texts_154 {fu : Nat} {F0 : PF} {G0 : PG} (F : PF) (G : PG) (hK : KX [14, 15, 24, 35, 36, 37, 42, 43, 44, 45, 47, 48, 49, 50, 51, 52, 53, 54, 55, 60, 61, 62, 63, 64, 65, 66, 70, 72] [16, 17, 18, 19, 20, 21, 22, 23, 25, 26, 27, 28, 29, 30, 31, 32, 33, 34, 38, 39, 40, 41, 56, 57, 58, 59, 67, 68, 69, 71] F0 G0 F G) : PP (mb_texts_154 fu F G) (fun _ F' G' => KX [14, 15, 24, 35, 36, 37, 42, 43, 44, 45, 47, 48, 49, 50, 51, 52, 53, 54, 55, 60, 61, 62, 63, 64, 65, 66, 70, 72] [16, 17, 18, 19, 20, 21, 22, 23, 25, 26, 27, 28, 29, 30, 31, 32, 33, 34, 38, 39, 40, 41, 56, 57, 58, 59, 67, 68, 69, 71] F0 G0 F' G') := by
  unfold mb_texts_154
  exact mwj_texts_155 (0 : Int32) F G hK
theorem mwj_texts_127 {fu : Nat} {F0 : PF} {G0 : PG} (F : PF) (G : PG) (hK : KX [14, 15, 24, 35, 36, 37, 42, 43, 44, 45, 47, 48, 49, 50, 51, 52, 53, 54, 55, 60, 61, 62, 63, 64, 65, 66, 70, 72] [16, 17, 18, 19, 20, 21, 22, 23, 25, 26, 27, 28, 29, 30, 31, 32, 33, 34, 38, 39, 40, 41, 56, 57, 58, 59, 67, 68, 69, 71] F0 G0 F G) : PP (mb_texts_127 fu F G) (fun _ F' G' => KX [14, 15, 24, 35, 36, 37, 42, 43, 44, 45, 47, 48, 49, 50, 51, 52, 53, 54, 55, 60, 61, 62, 63, 64, 65, 66, 70, 72] [16, 17, 18, 19, 20, 21, 22, 23, 25, 26, 27, 28, 29, 30, 31, 32, 33, 34, 38, 39, 40, 41, 56, 57, 58, 59, 67, 68, 69, 71] F0 G0 F' G') := by
  unfold mb_texts_127
  refine PP.ite (fun c_1 => ?_) (fun c_1 => ?_)
  · skip
    unfold mb_texts_134
    refine PP.ite (fun c_2 => ?_) (fun c_2 => ?_)
    · skip
      exact mwj_texts_150 F G hK
    · skip
      unfold mb_texts_142
      refine PP.bind (mw_fails (1 : Int32) F G) ?_
      intro r3 F3 G3 hK3
      dsimp only
      unfold mb_texts_147
      refine PP.ite (fun c_4 => ?_) (fun c_4 => ?_)
      · skip
        exact mwj_texts_154 F3 G3 (KX.tr hK hK3 rfl rfl)
      · skip
        exact mwj_texts_150 F3 G3 (KX.tr hK hK3 rfl rfl)
  · skip
    exact mwj_texts_154 F G hK
theorem mwj_texts_122 {fu : Nat} {F0 : PF} {G0 : PG} (ag_87 : Int32 → Int32 → PF → PG → PR) (hag_87 : ∀ (x1 : Int32) (x2 : Int32) (F : PF) (G : PG) (hK : KX [14, 15, 24, 35, 36, 37, 42, 43, 44, 45, 47, 48, 49, 50, 51, 52, 53, 54, 55, 60, 61, 62, 63, 64, 65, 66, 70, 72] [16, 17, 18, 19, 20, 21, 22, 23, 25, 26, 27, 28, 29, 30, 31, 32, 33, 34, 38, 39, 40, 41, 56, 57, 58, 59, 67, 68, 69, 71] F0 G0 F G), PP (ag_87 x1 x2 F G) (fun _ F' G' => KX [14, 15, 24, 35, 36, 37, 42, 43, 44, 45, 47, 48, 49, 50, 51, 52, 53, 54, 55, 60, 61, 62, 63, 64, 65, 66, 70, 72] [16, 17, 18, 19, 20, 21, 22, 23, 25, 26, 27, 28, 29, 30, 31, 32, 33, 34, 38, 39, 40, 41, 56, 57, 58, 59, 67, 68, 69, 71] F0 G0 F' G')) (x2 : Int32) (z0 : Int32) (z1 : Int32) (F : PF) (G : PG) (hK : KX [14, 15, 24, 35, 36, 37, 42, 43, 44, 45, 47, 48, 49, 50, 51, 52, 53, 54, 55, 60, 61, 62, 63, 64, 65, 66, 70, 72] [16, 17, 18, 19, 20, 21, 22, 23, 25, 26, 27, 28, 29, 30, 31, 32, 33, 34, 38, 39, 40, 41, 56, 57, 58, 59, 67, 68, 69, 71] F0 G0 F G) : PP (mb_texts_122 fu ag_87 x2 z0 z1 F G) (fun _ F' G' => KX [14, 15, 24, 35, 36, 37, 42, 43, 44, 45, 47, 48, 49, 50, 51, 52, 53, 54, 55, 60, 61, 62, 63, 64, 65, 66, 70, 72] [16, 17, 18, 19, 20, 21, 22, 23, 25, 26, 27, 28, 29, 30, 31, 32, 33, 34, 38, 39, 40, 41, 56, 57, 58, 59, 67, 68, 69, 71] F0 G0 F' G') := by
  unfold mb_texts_122
  exact hag_87 (z1 + z0) x2 F G hK
theorem mwz_texts_87 {fu : Nat} {F0 : PF} {G0 : PG} : ∀ (n : Nat) (x1 : Int32) (x2 : Int32) (F : PF) (G : PG) (hK : KX [14, 15, 24, 35, 36, 37, 42, 43, 44, 45, 47, 48, 49, 50, 51, 52, 53, 54, 55, 60, 61, 62, 63, 64, 65, 66, 70, 72] [16, 17, 18, 19, 20, 21, 22, 23, 25, 26, 27, 28, 29, 30, 31, 32, 33, 34, 38, 39, 40, 41, 56, 57, 58, 59, 67, 68, 69, 71] F0 G0 F G), PP (ml_texts_87 fu n x1 x2 F G) (fun _ F' G' => KX [14, 15, 24, 35, 36, 37, 42, 43, 44, 45, 47, 48, 49, 50, 51, 52, 53, 54, 55, 60, 61, 62, 63, 64, 65, 66, 70, 72] [16, 17, 18, 19, 20, 21, 22, 23, 25, 26, 27, 28, 29, 30, 31, 32, 33, 34, 38, 39, 40, 41, 56, 57, 58, 59, 67, 68, 69, 71] F0 G0 F' G') := by
  intro n
  induction n with
  | zero =>
    intro x1 x2 F G hK
    exact PP.no
  | succ n ihn =>
    intro x1 x2 F G hK
    show PP (mb_texts_87 fu (ml_texts_87 fu n) x1 x2 F G) _
    unfold mb_texts_87
    refine PP.ite (fun c_1 => ?_) (fun c_1 => ?_)
    · skip
      exact mwj_texts_127 F G hK
    · skip
      unfold mb_texts_91
      refine PP.ix (fun _ => ?_)
      refine PP.ite (fun c_2 => ?_) (fun c_2 => ?_)
      · skip
        exact mwj_texts_127 F G hK
      · skip
        unfold mb_texts_103
        refine PP.bind (mw_tells x1 F G) ?_
        intro r3 F3 G3 hK3
        dsimp only
        unfold mb_texts_108
        refine PP.ite (fun c_4 => ?_) (fun c_4 => ?_)
        · skip
          unfold mb_texts_121
          exact mwj_texts_122 (ml_texts_87 fu n) ihn r3 (0 : Int32) x1 F3 G3 (KX.tr hK hK3 rfl rfl)
        · skip
          unfold mb_texts_117
          exact mwj_texts_122 (ml_texts_87 fu n) ihn r3 (1 : Int32) x1 F3 G3 (KX.tr hK hK3 rfl rfl)
theorem mwj_texts_82 {fu : Nat} {F0 : PF} {G0 : PG} (x1 : Int32) (z0 : Int32) (F : PF) (G : PG) (hK : KX [14, 15, 24, 35, 36, 37, 42, 43, 44, 45, 47, 48, 49, 50, 51, 52, 53, 54, 55, 60, 61, 62, 63, 64, 65, 66, 70, 72] [16, 17, 18, 19, 20, 21, 22, 23, 25, 26, 27, 28, 29, 30, 31, 32, 33, 34, 38, 39, 40, 41, 56, 57, 58, 59, 67, 68, 69, 71] F0 G0 F G) : PP (mb_texts_82 fu x1 z0 F G) (fun _ F' G' => KX [14, 15, 24, 35, 36, 37, 42, 43, 44, 45, 47, 48, 49, 50, 51, 52, 53, 54, 55, 60, 61, 62, 63, 64, 65, 66, 70, 72] [16, 17, 18, 19, 20, 21, 22, 23, 25, 26, 27, 28, 29, 30, 31, 32, 33, 34, 38, 39, 40, 41, 56, 57, 58, 59, 67, 68, 69, 71] F0 G0 F' G') := by
  unfold mb_texts_82
  unfold mb_texts_85
  exact mwz_texts_87 fu x1 (1 : Int32) (fup F 35 z0) G (KX.f (k := 35) rfl hK)
theorem mwj_texts_61 {fu : Nat} {F0 : PF} {G0 : PG} (z0 : Int32) (F : PF) (G : PG) (hK : KX [14, 15, 24, 35, 36, 37, 42, 43, 44, 45, 47, 48, 49, 50, 51, 52, 53, 54, 55, 60, 61, 62, 63, 64, 65, 66, 70, 72] [16, 17, 18, 19, 20, 21, 22, 23, 25, 26, 27, 28, 29, 30, 31, 32, 33, 34, 38, 39, 40, 41, 56, 57, 58, 59, 67, 68, 69, 71] F0 G0 F G) : PP (mb_texts_61 fu z0 F G) (fun _ F' G' => KX [14, 15, 24, 35, 36, 37, 42, 43, 44, 45, 47, 48, 49, 50, 51, 52, 53, 54, 55, 60, 61, 62, 63, 64, 65, 66, 70, 72] [16, 17, 18, 19, 20, 21, 22, 23, 25, 26, 27, 28, 29, 30, 31, 32, 33, 34, 38, 39, 40, 41, 56, 57, 58, 59, 67, 68, 69, 71] F0 G0 F' G') := by
  unfold mb_texts_61
  unfold mb_texts_64
  refine PP.ite (fun c_1 => ?_) (fun c_1 => ?_)
  · skip
    unfold mb_texts_74
    exact mwj_texts_82 (0 : Int32) (0 : Int32) (fup F 24 z0) G (KX.f (k := 24) rfl hK)
  · skip
    unfold mb_texts_78
    exact mwj_texts_82 (0 : Int32) (F 35) (fup F 24 z0) G (KX.f (k := 24) rfl hK)
theorem mw_texts {fu : Nat} (F : PF) (G : PG) : PP (mf_texts fu F G) (fun _ F' G' => KX [14, 15, 24, 35, 36, 37, 42, 43, 44, 45, 47, 48, 49, 50, 51, 52, 53, 54, 55, 60, 61, 62, 63, 64, 65, 66, 70, 72] [16, 17, 18, 19, 20, 21, 22, 23, 25, 26, 27, 28, 29, 30, 31, 32, 33, 34, 38, 39, 40, 41, 56, 57, 58, 59, 67, 68, 69, 71] F G F' G') := by
  unfold mf_texts
  unfold mb_texts_0
  unfold mb_texts_5
  unfold mb_texts_10
  unfold mb_texts_15
  unfold mb_texts_20
  unfold mb_texts_25
  unfold mb_texts_30
  unfold mb_texts_35
  unfold mb_texts_40
  unfold mb_texts_45
  refine PP.ite (fun c_1 => ?_) (fun c_1 => ?_)
  · skip
    unfold mb_texts_53
    exact mwj_texts_61 (0 : Int32) (fup (fup (fup (fup (fup (fup (fup (fup (fup F 42 (0 : Int32)) 43 (0 : Int32)) 14 (0 : Int32)) 15 (0 : Int32)) 60 (0 : Int32)) 70 (0 : Int32)) 36 (0 : Int32)) 37 (0 : Int32)) 50 (-1 : Int32)) G (KX.f (k := 50) rfl (KX.f (k := 37) rfl (KX.f (k := 36) rfl (KX.f (k := 70) rfl (KX.f (k := 60) rfl (KX.f (k := 15) rfl (KX.f (k := 14) rfl (KX.f (k := 43) rfl (KX.f (k := 42) rfl KX.rf)))))))))
  · skip
    unfold mb_texts_57
    exact mwj_texts_61 (F 24) (fup (fup (fup (fup (fup (fup (fup (fup (fup F 42 (0 : Int32)) 43 (0 : Int32)) 14 (0 : Int32)) 15 (0 : Int32)) 60 (0 : Int32)) 70 (0 : Int32)) 36 (0 : Int32)) 37 (0 : Int32)) 50 (-1 : Int32)) G (KX.f (k := 50) rfl (KX.f (k := 37) rfl (KX.f (k := 36) rfl (KX.f (k := 70) rfl (KX.f (k := 60) rfl (KX.f (k := 15) rfl (KX.f (k := 14) rfl (KX.f (k := 43) rfl (KX.f (k := 42) rfl KX.rf)))))))))
theorem mwj_read_258 {fu : Nat} {F0 : PF} {G0 : PG} (F : PF) (G : PG) (hK : KX [2, 3, 7, 8, 13, 14, 15, 24, 35, 36, 37, 42, 43, 44, 45, 46, 47, 48, 49, 50, 51, 52, 53, 54, 55, 60, 61, 62, 63, 64, 65, 66, 70, 72, 73, 74, 75, 79, 80] [1, 4, 5, 6, 9, 10, 11, 12, 16, 17, 18, 19, 20, 21, 22, 23, 25, 26, 27, 28, 29, 30, 31, 32, 33, 34, 38, 39, 40, 41, 56, 57, 58, 59, 67, 68, 69, 71] F0 G0 F G) : PP (mb_read_258 fu F G) (fun _ F' G' => KX [2, 3, 7, 8, 13, 14, 15, 24, 35, 36, 37, 42, 43, 44, 45, 46, 47, 48, 49, 50, 51, 52, 53, 54, 55, 60, 61, 62, 63, 64, 65, 66, 70, 72, 73, 74, 75, 79, 80] [1, 4, 5, 6, 9, 10, 11, 12, 16, 17, 18, 19, 20, 21, 22, 23, 25, 26, 27, 28, 29, 30, 31, 32, 33, 34, 38, 39, 40, 41, 56, 57, 58, 59, 67, 68, 69, 71] F0 G0 F' G') := by
  unfold mb_read_258
  refine PP.ite (fun c_1 => ?_) (fun c_1 => ?_)
  · skip
    unfold mb_read_278
    unfold mb_read_283
    refine PP.ret ?_
    exact (KX.f (k := 73) rfl hK)
  · skip
    unfold mb_read_265
    refine PP.ret ?_
    exact hK
theorem mwj_read_234 {fu : Nat} {F0 : PF} {G0 : PG} (ag_127 : Int32 → PF → PG → PR) (hag_127 : ∀ (x1 : Int32) (F : PF) (G : PG) (hK : KX [2, 3, 7, 8, 13, 14, 15, 24, 35, 36, 37, 42, 43, 44, 45, 46, 47, 48, 49, 50, 51, 52, 53, 54, 55, 60, 61, 62, 63, 64, 65, 66, 70, 72, 73, 74, 75, 79, 80] [1, 4, 5, 6, 9, 10, 11, 12, 16, 17, 18, 19, 20, 21, 22, 23, 25, 26, 27, 28, 29, 30, 31, 32, 33, 34, 38, 39, 40, 41, 56, 57, 58, 59, 67, 68, 69, 71] F0 G0 F G), PP (ag_127 x1 F G) (fun _ F' G' => KX [2, 3, 7, 8, 13, 14, 15, 24, 35, 36, 37, 42, 43, 44, 45, 46, 47, 48, 49, 50, 51, 52, 53, 54, 55, 60, 61, 62, 63, 64, 65, 66, 70, 72, 73, 74, 75, 79, 80] [1, 4, 5, 6, 9, 10, 11, 12, 16, 17, 18, 19, 20, 21, 22, 23, 25, 26, 27, 28, 29, 30, 31, 32, 33, 34, 38, 39, 40, 41, 56, 57, 58, 59, 67, 68, 69, 71] F0 G0 F' G')) (x1 : Int32) (F : PF) (G : PG) (hK : KX [2, 3, 7, 8, 13, 14, 15, 24, 35, 36, 37, 42, 43, 44, 45, 46, 47, 48, 49, 50, 51, 52, 53, 54, 55, 60, 61, 62, 63, 64, 65, 66, 70, 72, 73, 74, 75, 79, 80] [1, 4, 5, 6, 9, 10, 11, 12, 16, 17, 18, 19, 20, 21, 22, 23, 25, 26, 27, 28, 29, 30, 31, 32, 33, 34, 38, 39, 40, 41, 56, 57, 58, 59, 67, 68, 69, 71] F0 G0 F G) : PP (mb_read_234 fu ag_127 x1 F G) (fun _ F' G' => KX [2, 3, 7, 8, 13, 14, 15, 24, 35, 36, 37, 42, 43, 44, 45, 46, 47, 48, 49, 50, 51, 52, 53, 54, 55, 60, 61, 62, 63, 64, 65, 66, 70, 72, 73, 74, 75, 79, 80] [1, 4, 5, 6, 9, 10, 11, 12, 16, 17, 18, 19, 20, 21, 22, 23, 25, 26, 27, 28, 29, 30, 31, 32, 33, 34, 38, 39, 40, 41, 56, 57, 58, 59, 67, 68, 69, 71] F0 G0 F' G') := by
  unfold mb_read_234
  exact hag_127 (x1 + (-1 : Int32)) F G hK
theorem mwz_read_127 {fu : Nat} {F0 : PF} {G0 : PG} : ∀ (n : Nat) (x1 : Int32) (F : PF) (G : PG) (hK : KX [2, 3, 7, 8, 13, 14, 15, 24, 35, 36, 37, 42, 43, 44, 45, 46, 47, 48, 49, 50, 51, 52, 53, 54, 55, 60, 61, 62, 63, 64, 65, 66, 70, 72, 73, 74, 75, 79, 80] [1, 4, 5, 6, 9, 10, 11, 12, 16, 17, 18, 19, 20, 21, 22, 23, 25, 26, 27, 28, 29, 30, 31, 32, 33, 34, 38, 39, 40, 41, 56, 57, 58, 59, 67, 68, 69, 71] F0 G0 F G), PP (ml_read_127 fu n x1 F G) (fun _ F' G' => KX [2, 3, 7, 8, 13, 14, 15, 24, 35, 36, 37, 42, 43, 44, 45, 46, 47, 48, 49, 50, 51, 52, 53, 54, 55, 60, 61, 62, 63, 64, 65, 66, 70, 72, 73, 74, 75, 79, 80] [1, 4, 5, 6, 9, 10, 11, 12, 16, 17, 18, 19, 20, 21, 22, 23, 25, 26, 27, 28, 29, 30, 31, 32, 33, 34, 38, 39, 40, 41, 56, 57, 58, 59, 67, 68, 69, 71] F0 G0 F' G') := by
  intro n
  induction n with
  | zero =>
    intro x1 F G hK
    exact PP.no
  | succ n ihn =>
    intro x1 F G hK
    show PP (mb_read_127 fu (ml_read_127 fu n) x1 F G) _
    unfold mb_read_127
    refine PP.ite (fun c_1 => ?_) (fun c_1 => ?_)
    · skip
      unfold mb_read_240
      refine PP.ite (fun c_2 => ?_) (fun c_2 => ?_)
      · skip
        unfold mb_read_248
        refine PP.bind (mw_note (12 : Int32) (F 3) F G) ?_
        intro r3 F3 G3 hK3
        dsimp only
        exact mwj_read_258 F3 G3 (KX.tr hK hK3 rfl rfl)
      · skip
        exact mwj_read_258 F G hK
    · skip
      unfold mb_read_131
      refine PP.ix (fun _ => ?_)
      refine PP.ix (fun _ => ?_)
      refine PP.ix (fun _ => ?_)
      refine PP.ite (fun c_4 => ?_) (fun c_4 => ?_)
      · skip
        unfold mb_read_153
        refine PP.bind (mw_at (G 26 x1.toNatClampNeg) F G) ?_
        intro r5 F5 G5 hK5
        dsimp only
        unfold mb_read_158
        refine PP.ite (fun c_6 => ?_) (fun c_6 => ?_)
        · skip
          unfold mb_read_163
          refine PP.bind (mw_at ((G 26 x1.toNatClampNeg) + (1 : Int32)) F5 G5) ?_
          intro r7 F7 G7 hK7
          dsimp only
          unfold mb_read_170
          refine PP.ite (fun c_8 => ?_) (fun c_8 => ?_)
          · skip
            unfold mb_read_175
            refine PP.bind (mw_at ((G 26 x1.toNatClampNeg) + (2 : Int32)) F7 G7) ?_
            intro r9 F9 G9 hK9
            dsimp only
            unfold mb_read_182
            refine PP.ite (fun c_10 => ?_) (fun c_10 => ?_)
            · skip
              unfold mb_read_187
              refine PP.bind (mw_at ((G 26 x1.toNatClampNeg) + (3 : Int32)) F9 G9) ?_
              intro r11 F11 G11 hK11
              dsimp only
              unfold mb_read_194
              refine PP.ite (fun c_12 => ?_) (fun c_12 => ?_)
              · skip
                unfold mb_read_202
                unfold mb_read_207
                refine PP.ix (fun _ => ?_)
                refine PP.ite (fun c_13 => ?_) (fun c_13 => ?_)
                · skip
                  exact mwj_read_234 (ml_read_127 fu n) ihn x1 (fup F11 74 x1) G11 (KX.f (k := 74) rfl (KX.tr (KX.tr (KX.tr (KX.tr hK hK5 rfl rfl) hK7 rfl rfl) hK9 rfl rfl) hK11 rfl rfl))
                · skip
                  unfold mb_read_217
                  refine PP.ix (fun _ => ?_)
                  refine PP.ix (fun _ => ?_)
                  refine PP.bind (mw_note (12 : Int32) (G11 6 (G11 32 x1.toNatClampNeg).toNatClampNeg) (fup F11 74 x1) G11) ?_
                  intro r14 F14 G14 hK14
                  dsimp only
                  exact mwj_read_234 (ml_read_127 fu n) ihn x1 F14 G14 (KX.tr (KX.f (k := 74) rfl (KX.tr (KX.tr (KX.tr (KX.tr hK hK5 rfl rfl) hK7 rfl rfl) hK9 rfl rfl) hK11 rfl rfl)) hK14 rfl rfl)
              · skip
                unfold mb_read_199
                exact mwj_read_234 (ml_read_127 fu n) ihn x1 F11 G11 (KX.tr (KX.tr (KX.tr (KX.tr hK hK5 rfl rfl) hK7 rfl rfl) hK9 rfl rfl) hK11 rfl rfl)
            · skip
              exact mwj_read_234 (ml_read_127 fu n) ihn x1 F9 G9 (KX.tr (KX.tr (KX.tr hK hK5 rfl rfl) hK7 rfl rfl) hK9 rfl rfl)
          · skip
            exact mwj_read_234 (ml_read_127 fu n) ihn x1 F7 G7 (KX.tr (KX.tr hK hK5 rfl rfl) hK7 rfl rfl)
        · skip
          exact mwj_read_234 (ml_read_127 fu n) ihn x1 F5 G5 (KX.tr hK hK5 rfl rfl)
      · skip
        exact mwj_read_234 (ml_read_127 fu n) ihn x1 F G hK
theorem mwz_read_10 {fu : Nat} {F0 : PF} {G0 : PG} : ∀ (n : Nat) (x1 : Int32) (F : PF) (G : PG) (hK : KX [2, 3, 7, 8, 13, 14, 15, 24, 35, 36, 37, 42, 43, 44, 45, 46, 47, 48, 49, 50, 51, 52, 53, 54, 55, 60, 61, 62, 63, 64, 65, 66, 70, 72, 73, 74, 75, 79, 80] [1, 4, 5, 6, 9, 10, 11, 12, 16, 17, 18, 19, 20, 21, 22, 23, 25, 26, 27, 28, 29, 30, 31, 32, 33, 34, 38, 39, 40, 41, 56, 57, 58, 59, 67, 68, 69, 71] F0 G0 F G), PP (ml_read_10 fu n x1 F G) (fun _ F' G' => KX [2, 3, 7, 8, 13, 14, 15, 24, 35, 36, 37, 42, 43, 44, 45, 46, 47, 48, 49, 50, 51, 52, 53, 54, 55, 60, 61, 62, 63, 64, 65, 66, 70, 72, 73, 74, 75, 79, 80] [1, 4, 5, 6, 9, 10, 11, 12, 16, 17, 18, 19, 20, 21, 22, 23, 25, 26, 27, 28, 29, 30, 31, 32, 33, 34, 38, 39, 40, 41, 56, 57, 58, 59, 67, 68, 69, 71] F0 G0 F' G') := by
  intro n
  induction n with
  | zero =>
    intro x1 F G hK
    exact PP.no
  | succ n ihn =>
    intro x1 F G hK
    show PP (mb_read_10 fu (ml_read_10 fu n) x1 F G) _
    unfold mb_read_10
    refine PP.ite (fun c_1 => ?_) (fun c_1 => ?_)
    · skip
      unfold mb_read_36
      unfold mb_read_41
      unfold mb_read_46
      unfold mb_read_51
      unfold mb_read_56
      unfold mb_read_61
      unfold mb_read_66
      unfold mb_read_71
      unfold mb_read_76
      refine PP.bind (mw_cut (fup (fup (fup (fup (fup (fup (fup (fup F 2 (0 : Int32)) 73 (0 : Int32)) 75 (0 : Int32)) 80 (0 : Int32)) 79 (0 : Int32)) 44 (0 : Int32)) 47 (0 : Int32)) 54 (0 : Int32)) G) ?_
      intro r2 F2 G2 hK2
      dsimp only
      unfold mb_read_80
      unfold mb_read_85
      refine PP.bind (mw_texts (fup F2 46 (0 : Int32)) G2) ?_
      intro r3 F3 G3 hK3
      dsimp only
      unfold mb_read_89
      refine PP.ite (fun c_4 => ?_) (fun c_4 => ?_)
      · skip
        unfold mb_read_92
        refine PP.ret ?_
        exact (KX.tr (KX.f (k := 46) rfl (KX.tr (KX.f (k := 54) rfl (KX.f (k := 47) rfl (KX.f (k := 44) rfl (KX.f (k := 79) rfl (KX.f (k := 80) rfl (KX.f (k := 75) rfl (KX.f (k := 73) rfl (KX.f (k := 2) rfl hK)))))))) hK2 rfl rfl)) hK3 rfl rfl)
      · skip
        unfold mb_read_105
        unfold mb_read_110
        refine PP.bind (mw_texts (fup F3 46 (1 : Int32)) G3) ?_
        intro r5 F5 G5 hK5
        dsimp only
        unfold mb_read_114
        unfold mb_read_120
        exact mwz_read_127 fu ((F5 24) - (1 : Int32)) (fup F5 74 (-1 : Int32)) G5 (KX.f (k := 74) rfl (KX.tr (KX.f (k := 46) rfl (KX.tr (KX.f (k := 46) rfl (KX.tr (KX.f (k := 54) rfl (KX.f (k := 47) rfl (KX.f (k := 44) rfl (KX.f (k := 79) rfl (KX.f (k := 80) rfl (KX.f (k := 75) rfl (KX.f (k := 73) rfl (KX.f (k := 2) rfl hK)))))))) hK2 rfl rfl)) hK3 rfl rfl)) hK5 rfl rfl))
    · skip
      unfold mb_read_18
      refine PP.ix (fun _ => ?_)
      refine PP.ix (fun _ => ?_)
      unfold mb_read_30
      exact ihn (x1 + (1 : Int32)) F (gup G 1 x1.toNatClampNeg (G 0 x1.toNatClampNeg)) (KX.g (k := 1) rfl hK)
theorem mw_read {fu : Nat} (F : PF) (G : PG) : PP (mf_read fu F G) (fun _ F' G' => KX [2, 3, 7, 8, 13, 14, 15, 24, 35, 36, 37, 42, 43, 44, 45, 46, 47, 48, 49, 50, 51, 52, 53, 54, 55, 60, 61, 62, 63, 64, 65, 66, 70, 72, 73, 74, 75, 79, 80] [1, 4, 5, 6, 9, 10, 11, 12, 16, 17, 18, 19, 20, 21, 22, 23, 25, 26, 27, 28, 29, 30, 31, 32, 33, 34, 38, 39, 40, 41, 56, 57, 58, 59, 67, 68, 69, 71] F G F' G') := by
  unfold mf_read
  unfold mb_read_0
  unfold mb_read_8
  exact mwz_read_10 fu (0 : Int32) (fup F 3 (F 2)) G (KX.f (k := 3) rfl KX.rf)
theorem mwj_look_49 {fu : Nat} {F0 : PF} {G0 : PG} (F : PF) (G : PG) (hK : KX [] [] F0 G0 F G) : PP (mb_look_49 fu F G) (fun _ F' G' => KX [] [] F0 G0 F' G') := by
  unfold mb_look_49
  refine PP.ret ?_
  exact hK
theorem mwj_look_107 {fu : Nat} {F0 : PF} {G0 : PG} (z0 : Int32) (F : PF) (G : PG) (hK : KX [] [] F0 G0 F G) : PP (mb_look_107 fu z0 F G) (fun _ F' G' => KX [] [] F0 G0 F' G') := by
  unfold mb_look_107
  refine PP.ret ?_
  exact hK
theorem mw_look {fu : Nat} (x1 : Int32) (x2 : Int32) (F : PF) (G : PG) : PP (mf_look fu x1 x2 F G) (fun _ F' G' => KX [] [] F G F' G') := by
  unfold mf_look
  unfold mb_look_0
  refine PP.ite (fun c_1 => ?_) (fun c_1 => ?_)
  · skip
    unfold mb_look_7
    refine PP.ret ?_
    exact KX.rf
  · skip
    unfold mb_look_9
    refine PP.ite (fun c_2 => ?_) (fun c_2 => ?_)
    · skip
      unfold mb_look_13
      refine PP.ret ?_
      exact KX.rf
    · skip
      unfold mb_look_18
      refine PP.ite (fun c_3 => ?_) (fun c_3 => ?_)
      · skip
        unfold mb_look_23
        refine PP.ret ?_
        exact KX.rf
      · skip
        unfold mb_look_28
        refine PP.ite (fun c_4 => ?_) (fun c_4 => ?_)
        · skip
          exact mwj_look_49 F G KX.rf
        · skip
          unfold mb_look_32
          refine PP.ite (fun c_5 => ?_) (fun c_5 => ?_)
          · skip
            exact mwj_look_49 F G KX.rf
          · skip
            unfold mb_look_37
            refine PP.ite (fun c_6 => ?_) (fun c_6 => ?_)
            · skip
              exact mwj_look_49 F G KX.rf
            · skip
              unfold mb_look_41
              refine PP.ite (fun c_7 => ?_) (fun c_7 => ?_)
              · skip
                unfold mb_look_51
                refine PP.ite (fun c_8 => ?_) (fun c_8 => ?_)
                · skip
                  unfold mb_look_56
                  refine PP.ix (fun _ => ?_)
                  exact mwj_look_107 (G 26 x2.toNatClampNeg) F G KX.rf
                · skip
                  unfold mb_look_65
                  refine PP.ite (fun c_9 => ?_) (fun c_9 => ?_)
                  · skip
                    unfold mb_look_70
                    refine PP.ix (fun _ => ?_)
                    exact mwj_look_107 (G 27 x2.toNatClampNeg) F G KX.rf
                  · skip
                    unfold mb_look_79
                    refine PP.ite (fun c_10 => ?_) (fun c_10 => ?_)
                    · skip
                      unfold mb_look_84
                      refine PP.ix (fun _ => ?_)
                      exact mwj_look_107 (G 28 x2.toNatClampNeg) F G KX.rf
                    · skip
                      unfold mb_look_93
                      refine PP.ix (fun _ => ?_)
                      refine PP.ite (fun c_11 => ?_) (fun c_11 => ?_)
                      · skip
                        unfold mb_look_106
                        exact mwj_look_107 (1 : Int32) F G KX.rf
                      · skip
                        unfold mb_look_102
                        exact mwj_look_107 (0 : Int32) F G KX.rf
              · skip
                exact mwj_look_49 F G KX.rf
theorem mwj_give_17 {fu : Nat} {F0 : PF} {G0 : PG} (F : PF) (G : PG) (hK : KX [80] [88] F0 G0 F G) : PP (mb_give_17 fu F G) (fun _ F' G' => KX [80] [88] F0 G0 F' G') := by
  unfold mb_give_17
  refine PP.ret ?_
  exact hK
theorem mw_give {fu : Nat} (x1 : Int32) (F : PF) (G : PG) : PP (mf_give fu x1 F G) (fun _ F' G' => KX [80] [88] F G F' G') := by
  unfold mf_give
  unfold mb_give_0
  refine PP.ite (fun c_1 => ?_) (fun c_1 => ?_)
  · skip
    exact mwj_give_17 F G KX.rf
  · skip
    unfold mb_give_7
    refine PP.ite (fun c_2 => ?_) (fun c_2 => ?_)
    · skip
      exact mwj_give_17 F G KX.rf
    · skip
      unfold mb_give_19
      refine PP.ix (fun _ => ?_)
      unfold mb_give_29
      unfold mb_give_39
      refine PP.ret ?_
      exact (KX.f (k := 80) rfl (KX.g (k := 88) rfl KX.rf))
theorem mwj_begin_19 {fu : Nat} {F0 : PF} {G0 : PG} (F : PF) (G : PG) (hK : KX [72, 75, 77, 79, 81, 82, 83, 84, 85] [90] F0 G0 F G) : PP (mb_begin_19 fu F G) (fun _ F' G' => KX [72, 75, 77, 79, 81, 82, 83, 84, 85] [90] F0 G0 F' G') := by
  unfold mb_begin_19
  refine PP.ret ?_
  exact hK
theorem mwz_begin_68 {fu : Nat} {F0 : PF} {G0 : PG} : ∀ (n : Nat) (x2 : Int32) (F : PF) (G : PG) (hK : KX [72, 75, 77, 79, 81, 82, 83, 84, 85] [90] F0 G0 F G), PP (ml_begin_68 fu n x2 F G) (fun _ F' G' => KX [72, 75, 77, 79, 81, 82, 83, 84, 85] [90] F0 G0 F' G') := by
  intro n
  induction n with
  | zero =>
    intro x2 F G hK
    exact PP.no
  | succ n ihn =>
    intro x2 F G hK
    show PP (mb_begin_68 fu (ml_begin_68 fu n) x2 F G) _
    unfold mb_begin_68
    refine PP.ite (fun c_1 => ?_) (fun c_1 => ?_)
    · skip
      unfold mb_begin_94
      refine PP.ret ?_
      exact hK
    · skip
      unfold mb_begin_76
      refine PP.ix (fun _ => ?_)
      refine PP.ix (fun _ => ?_)
      unfold mb_begin_88
      exact ihn (x2 + (1 : Int32)) F (gup G 90 x2.toNatClampNeg (G 41 x2.toNatClampNeg)) (KX.g (k := 90) rfl hK)
theorem mw_begin {fu : Nat} (x1 : Int32) (F : PF) (G : PG) : PP (mf_begin fu x1 F G) (fun _ F' G' => KX [72, 75, 77, 79, 81, 82, 83, 84, 85] [90] F G F' G') := by
  unfold mf_begin
  unfold mb_begin_0
  refine PP.ite (fun c_1 => ?_) (fun c_1 => ?_)
  · skip
    exact mwj_begin_19 F G KX.rf
  · skip
    unfold mb_begin_7
    refine PP.ite (fun c_2 => ?_) (fun c_2 => ?_)
    · skip
      exact mwj_begin_19 F G KX.rf
    · skip
      unfold mb_begin_12
      refine PP.ite (fun c_3 => ?_) (fun c_3 => ?_)
      · skip
        unfold mb_begin_21
        unfold mb_begin_26
        unfold mb_begin_31
        unfold mb_begin_36
        unfold mb_begin_41
        unfold mb_begin_46
        unfold mb_begin_51
        unfold mb_begin_56
        unfold mb_begin_61
        unfold mb_begin_66
        exact mwz_begin_68 fu (0 : Int32) (fup (fup (fup (fup (fup (fup (fup (fup (fup F 84 x1) 75 (1 : Int32)) 85 (0 : Int32)) 77 (0 : Int32)) 79 (0 : Int32)) 81 (0 : Int32)) 82 (-1 : Int32)) 83 (0 : Int32)) 72 (0 : Int32)) G (KX.f (k := 72) rfl (KX.f (k := 83) rfl (KX.f (k := 82) rfl (KX.f (k := 81) rfl (KX.f (k := 79) rfl (KX.f (k := 77) rfl (KX.f (k := 85) rfl (KX.f (k := 75) rfl (KX.f (k := 84) rfl KX.rf)))))))))
      · skip
        exact mwj_begin_19 F G KX.rf
theorem mwj_calls_173 {fu : Nat} {F0 : PF} {G0 : PG} (ag_130 : Int32 → Int32 → Int32 → Int32 → Int32 → PF → PG → PR) (hag_130 : ∀ (x1 : Int32) (x3 : Int32) (x4 : Int32) (x5 : Int32) (x6 : Int32) (F : PF) (G : PG) (hK : KX [72, 75, 76, 82, 83, 85, 86, 87] [90, 91, 92, 93] F0 G0 F G), PP (ag_130 x1 x3 x4 x5 x6 F G) (fun _ F' G' => KX [72, 75, 76, 82, 83, 85, 86, 87] [90, 91, 92, 93] F0 G0 F' G')) (x1 : Int32) (x3 : Int32) (x4 : Int32) (x5 : Int32) (x6 : Int32) (z0 : Int32) (z1 : Int32) (F : PF) (G : PG) (hK : KX [72, 75, 76, 82, 83, 85, 86, 87] [90, 91, 92, 93] F0 G0 F G) : PP (mb_calls_173 fu ag_130 x1 x3 x4 x5 x6 z0 z1 F G) (fun _ F' G' => KX [72, 75, 76, 82, 83, 85, 86, 87] [90, 91, 92, 93] F0 G0 F' G') := by
  unfold mb_calls_173
  refine PP.ix (fun _ => ?_)
  unfold mb_calls_174
  exact hag_130 x1 x3 x4 x5 (x6 + (1 : Int32)) F (gup G 90 z1.toNatClampNeg z0) (KX.g (k := 90) rfl hK)
theorem mwz_calls_130 {fu : Nat} {F0 : PF} {G0 : PG} : ∀ (n : Nat) (x1 : Int32) (x3 : Int32) (x4 : Int32) (x5 : Int32) (x6 : Int32) (F : PF) (G : PG) (hK : KX [72, 75, 76, 82, 83, 85, 86, 87] [90, 91, 92, 93] F0 G0 F G), PP (ml_calls_130 fu n x1 x3 x4 x5 x6 F G) (fun _ F' G' => KX [72, 75, 76, 82, 83, 85, 86, 87] [90, 91, 92, 93] F0 G0 F' G') := by
  intro n
  induction n with
  | zero =>
    intro x1 x3 x4 x5 x6 F G hK
    exact PP.no
  | succ n ihn =>
    intro x1 x3 x4 x5 x6 F G hK
    show PP (mb_calls_130 fu (ml_calls_130 fu n) x1 x3 x4 x5 x6 F G) _
    unfold mb_calls_130
    refine PP.ix (fun _ => ?_)
    refine PP.ite (fun c_1 => ?_) (fun c_1 => ?_)
    · skip
      unfold mb_calls_180
      refine PP.ix (fun _ => ?_)
      unfold mb_calls_190
      refine PP.ix (fun _ => ?_)
      unfold mb_calls_200
      refine PP.ix (fun _ => ?_)
      unfold mb_calls_211
      unfold mb_calls_221
      unfold mb_calls_227
      refine PP.ix (fun _ => ?_)
      unfold mb_calls_240
      refine PP.ix (fun _ => ?_)
      unfold mb_calls_250
      refine PP.ret ?_
      exact (KX.f (k := 76) rfl (KX.f (k := 87) rfl (KX.f (k := 86) rfl (KX.f (k := 85) rfl (KX.g (k := 93) rfl (KX.g (k := 92) rfl (KX.g (k := 91) rfl hK)))))))
    · skip
      unfold mb_calls_141
      refine PP.ite (fun c_2 => ?_) (fun c_2 => ?_)
      · skip
        unfold mb_calls_172
        exact mwj_calls_173 (ml_calls_130 fu n) ihn x1 x3 x4 x5 x6 (0 : Int32) (x4 + x6) F G hK
      · skip
        unfold mb_calls_157
        refine PP.ix (fun _ => ?_)
        exact mwj_calls_173 (ml_calls_130 fu n) ihn x1 x3 x4 x5 x6 (G 71 ((F 72) + x6).toNatClampNeg) (x4 + x6) F G hK
theorem mwj_calls_107 {fu : Nat} {F0 : PF} {G0 : PG} (ag_72 : Int32 → Int32 → Int32 → Int32 → Int32 → PF → PG → PR) (hag_72 : ∀ (x1 : Int32) (x3 : Int32) (x4 : Int32) (x5 : Int32) (x6 : Int32) (F : PF) (G : PG) (hK : KX [72, 75, 76, 82, 83, 85, 86, 87] [90, 91, 92, 93] F0 G0 F G), PP (ag_72 x1 x3 x4 x5 x6 F G) (fun _ F' G' => KX [72, 75, 76, 82, 83, 85, 86, 87] [90, 91, 92, 93] F0 G0 F' G')) (x1 : Int32) (x3 : Int32) (x4 : Int32) (x6 : Int32) (z0 : Int32) (z1 : Int32) (F : PF) (G : PG) (hK : KX [72, 75, 76, 82, 83, 85, 86, 87] [90, 91, 92, 93] F0 G0 F G) : PP (mb_calls_107 fu ag_72 x1 x3 x4 x6 z0 z1 F G) (fun _ F' G' => KX [72, 75, 76, 82, 83, 85, 86, 87] [90, 91, 92, 93] F0 G0 F' G') := by
  unfold mb_calls_107
  exact hag_72 x1 x3 x4 (z1 + z0) (x6 + (1 : Int32)) F G hK
theorem mwz_calls_72 {fu : Nat} {F0 : PF} {G0 : PG} : ∀ (n : Nat) (x1 : Int32) (x3 : Int32) (x4 : Int32) (x5 : Int32) (x6 : Int32) (F : PF) (G : PG) (hK : KX [72, 75, 76, 82, 83, 85, 86, 87] [90, 91, 92, 93] F0 G0 F G), PP (ml_calls_72 fu n x1 x3 x4 x5 x6 F G) (fun _ F' G' => KX [72, 75, 76, 82, 83, 85, 86, 87] [90, 91, 92, 93] F0 G0 F' G') := by
  intro n
  induction n with
  | zero =>
    intro x1 x3 x4 x5 x6 F G hK
    exact PP.no
  | succ n ihn =>
    intro x1 x3 x4 x5 x6 F G hK
    show PP (mb_calls_72 fu (ml_calls_72 fu n) x1 x3 x4 x5 x6 F G) _
    unfold mb_calls_72
    refine PP.ix (fun _ => ?_)
    refine PP.ite (fun c_1 => ?_) (fun c_1 => ?_)
    · skip
      unfold mb_calls_116
      unfold mb_calls_127
      exact mwz_calls_130 fu x1 x3 x4 x5 (0 : Int32) (fup F 72 ((F 72) - x5)) G (KX.f (k := 72) rfl hK)
    · skip
      unfold mb_calls_83
      refine PP.ix (fun _ => ?_)
      refine PP.ix (fun _ => ?_)
      refine PP.ite (fun c_2 => ?_) (fun c_2 => ?_)
      · skip
        unfold mb_calls_102
        exact mwj_calls_107 (ml_calls_72 fu n) ihn x1 x3 x4 x6 (1 : Int32) x5 F G hK
      · skip
        unfold mb_calls_106
        exact mwj_calls_107 (ml_calls_72 fu n) ihn x1 x3 x4 x6 (2 : Int32) x5 F G hK
theorem mwj_calls_64 {fu : Nat} {F0 : PF} {G0 : PG} (x1 : Int32) (x3 : Int32) (z0 : Int32) (F : PF) (G : PG) (hK : KX [72, 75, 76, 82, 83, 85, 86, 87] [90, 91, 92, 93] F0 G0 F G) : PP (mb_calls_64 fu x1 x3 z0 F G) (fun _ F' G' => KX [72, 75, 76, 82, 83, 85, 86, 87] [90, 91, 92, 93] F0 G0 F' G') := by
  unfold mb_calls_64
  exact mwz_calls_72 fu x1 x3 z0 (0 : Int32) (0 : Int32) F G hK
theorem mw_calls {fu : Nat} (x1 : Int32) (x2 : Int32) (x3 : Int32) (F : PF) (G : PG) : PP (mf_calls fu x1 x2 x3 F G) (fun _ F' G' => KX [72, 75, 76, 82, 83, 85, 86, 87] [90, 91, 92, 93] F G F' G') := by
  unfold mf_calls
  unfold mb_calls_0
  refine PP.ix (fun _ => ?_)
  refine PP.ite (fun c_1 => ?_) (fun c_1 => ?_)
  · skip
    unfold mb_calls_31
    refine PP.ix (fun _ => ?_)
    unfold mb_calls_46
    refine PP.ite (fun c_2 => ?_) (fun c_2 => ?_)
    · skip
      unfold mb_calls_53
      exact mwj_calls_64 x1 x3 (F 37) (fup F 83 ((F 83) + (G 28 x1.toNatClampNeg))) G (KX.f (k := 83) rfl KX.rf)
    · skip
      unfold mb_calls_60
      exact mwj_calls_64 x1 x3 (F 87) (fup F 83 ((F 83) + (G 28 x1.toNatClampNeg))) G (KX.f (k := 83) rfl KX.rf)
  · skip
    unfold mb_calls_18
    unfold mb_calls_24
    unfold mb_calls_29
    refine PP.ret ?_
    exact (KX.f (k := 82) rfl (KX.f (k := 75) rfl KX.rf))
theorem mwj_returnsHere_67 {fu : Nat} {F0 : PF} {G0 : PG} (z0 : Int32) (F : PF) (G : PG) (hK : KX [72, 75, 76, 81, 83, 85, 86, 87] [71] F0 G0 F G) : PP (mb_returnsHere_67 fu z0 F G) (fun _ F' G' => KX [72, 75, 76, 81, 83, 85, 86, 87] [71] F0 G0 F' G') := by
  unfold mb_returnsHere_67
  unfold mb_returnsHere_70
  unfold mb_returnsHere_75
  refine PP.ret ?_
  exact (KX.f (k := 83) rfl (KX.f (k := 81) rfl hK))
theorem mw_returnsHere {fu : Nat} (F : PF) (G : PG) : PP (mf_returnsHere fu F G) (fun _ F' G' => KX [72, 75, 76, 81, 83, 85, 86, 87] [71] F G F' G') := by
  unfold mf_returnsHere
  unfold mb_returnsHere_0
  unfold mb_returnsHere_10
  refine PP.ix (fun _ => ?_)
  unfold mb_returnsHere_30
  refine PP.ix (fun _ => ?_)
  refine PP.ite (fun c_1 => ?_) (fun c_1 => ?_)
  · skip
    unfold mb_returnsHere_47
    unfold mb_returnsHere_52
    refine PP.ix (fun _ => ?_)
    refine PP.ite (fun c_2 => ?_) (fun c_2 => ?_)
    · skip
      unfold mb_returnsHere_66
      exact mwj_returnsHere_67 (G 71 ((F 72) - (1 : Int32)).toNatClampNeg) (fup (fup (fup F 72 ((F 72) - (1 : Int32))) 85 ((F 85) - (1 : Int32))) 75 (3 : Int32)) G (KX.f (k := 75) rfl (KX.f (k := 85) rfl (KX.f (k := 72) rfl KX.rf)))
    · skip
      unfold mb_returnsHere_62
      exact mwj_returnsHere_67 (0 : Int32) (fup (fup (fup F 72 ((F 72) - (1 : Int32))) 85 ((F 85) - (1 : Int32))) 75 (3 : Int32)) G (KX.f (k := 75) rfl (KX.f (k := 85) rfl (KX.f (k := 72) rfl KX.rf)))
  · skip
    unfold mb_returnsHere_76
    refine PP.ix (fun _ => ?_)
    unfold mb_returnsHere_91
    refine PP.ix (fun _ => ?_)
    unfold mb_returnsHere_104
    refine PP.ix (fun _ => ?_)
    unfold mb_returnsHere_119
    refine PP.ix (fun _ => ?_)
    unfold mb_returnsHere_132
    refine PP.ix (fun _ => ?_)
    unfold mb_returnsHere_142
    unfold mb_returnsHere_152
    refine PP.ret ?_
    exact (KX.f (k := 72) rfl (KX.g (k := 71) rfl (KX.f (k := 76) rfl (KX.f (k := 86) rfl (KX.f (k := 87) rfl (KX.f (k := 83) rfl (KX.f (k := 85) rfl (KX.f (k := 72) rfl KX.rf))))))))
theorem mwj_works_880 {fu : Nat} {F0 : PF} {G0 : PG} (F : PF) (G : PG) (hK : KX [72, 75, 76, 77, 78, 79, 80, 81, 82, 83, 85, 86, 87] [71, 88, 89, 90, 91, 92, 93] F0 G0 F G) : PP (mb_works_880 fu F G) (fun _ F' G' => KX [72, 75, 76, 77, 78, 79, 80, 81, 82, 83, 85, 86, 87] [71, 88, 89, 90, 91, 92, 93] F0 G0 F' G') := by
  unfold mb_works_880
  unfold mb_works_890
  refine PP.ret ?_
  exact (KX.f (k := 76) rfl hK)
theorem mwj_works_167 {fu : Nat} {F0 : PF} {G0 : PG} (z0 : Int32) (z2 : Int32) (F : PF) (G : PG) (hK : KX [72, 75, 76, 77, 78, 79, 80, 81, 82, 83, 85, 86, 87] [71, 88, 89, 90, 91, 92, 93] F0 G0 F G) : PP (mb_works_167 fu z0 z2 F G) (fun _ F' G' => KX [72, 75, 76, 77, 78, 79, 80, 81, 82, 83, 85, 86, 87] [71, 88, 89, 90, 91, 92, 93] F0 G0 F' G') := by
  unfold mb_works_167
  refine PP.ix (fun _ => ?_)
  refine PP.ix (fun _ => ?_)
  unfold mb_works_169
  unfold mb_works_179
  exact mwj_works_880 (fup F 72 ((F 72) + (1 : Int32))) (gup G 71 z2.toNatClampNeg (G 90 z0.toNatClampNeg)) (KX.f (k := 72) rfl (KX.g (k := 71) rfl hK))
theorem mwj_works_219 {fu : Nat} {F0 : PF} {G0 : PG} (z0 : Int32) (F : PF) (G : PG) (hK : KX [72, 75, 76, 77, 78, 79, 80, 81, 82, 83, 85, 86, 87] [71, 88, 89, 90, 91, 92, 93] F0 G0 F G) : PP (mb_works_219 fu z0 F G) (fun _ F' G' => KX [72, 75, 76, 77, 78, 79, 80, 81, 82, 83, 85, 86, 87] [71, 88, 89, 90, 91, 92, 93] F0 G0 F' G') := by
  unfold mb_works_219
  refine PP.ix (fun _ => ?_)
  refine PP.ix (fun _ => ?_)
  unfold mb_works_229
  exact mwj_works_880 F (gup G 90 z0.toNatClampNeg (G 71 (F 72).toNatClampNeg)) (KX.g (k := 90) rfl hK)
theorem mwj_works_315 {fu : Nat} {F0 : PF} {G0 : PG} (z0 : Int32) (z1 : Int32) (F : PF) (G : PG) (hK : KX [72, 75, 76, 77, 78, 79, 80, 81, 82, 83, 85, 86, 87] [71, 88, 89, 90, 91, 92, 93] F0 G0 F G) : PP (mb_works_315 fu z0 z1 F G) (fun _ F' G' => KX [72, 75, 76, 77, 78, 79, 80, 81, 82, 83, 85, 86, 87] [71, 88, 89, 90, 91, 92, 93] F0 G0 F' G') := by
  unfold mb_works_315
  refine PP.ix (fun _ => ?_)
  unfold mb_works_316
  unfold mb_works_326
  exact mwj_works_880 (fup F 72 ((F 72) + (2 : Int32))) (gup G 71 z1.toNatClampNeg z0) (KX.f (k := 72) rfl (KX.g (k := 71) rfl hK))
theorem mwj_works_282 {fu : Nat} {F0 : PF} {G0 : PG} (x1 : Int32) (x2 : Int32) (z0 : Int32) (z1 : Int32) (F : PF) (G : PG) (hK : KX [72, 75, 76, 77, 78, 79, 80, 81, 82, 83, 85, 86, 87] [71, 88, 89, 90, 91, 92, 93] F0 G0 F G) : PP (mb_works_282 fu x1 x2 z0 z1 F G) (fun _ F' G' => KX [72, 75, 76, 77, 78, 79, 80, 81, 82, 83, 85, 86, 87] [71, 88, 89, 90, 91, 92, 93] F0 G0 F' G') := by
  unfold mb_works_282
  refine PP.ix (fun _ => ?_)
  unfold mb_works_283
  refine PP.ite (fun c_1 => ?_) (fun c_1 => ?_)
  · skip
    unfold mb_works_298
    refine PP.ix (fun _ => ?_)
    exact mwj_works_315 (G 90 (((F 86) + x1) + (1 : Int32)).toNatClampNeg) ((F 72) + (1 : Int32)) F (gup G 71 z1.toNatClampNeg z0) (KX.g (k := 71) rfl hK)
  · skip
    unfold mb_works_314
    exact mwj_works_315 x2 ((F 72) + (1 : Int32)) F (gup G 71 z1.toNatClampNeg z0) (KX.g (k := 71) rfl hK)
theorem mwj_works_422 {fu : Nat} {F0 : PF} {G0 : PG} (F : PF) (G : PG) (hK : KX [72, 75, 76, 77, 78, 79, 80, 81, 82, 83, 85, 86, 87] [71, 88, 89, 90, 91, 92, 93] F0 G0 F G) : PP (mb_works_422 fu F G) (fun _ F' G' => KX [72, 75, 76, 77, 78, 79, 80, 81, 82, 83, 85, 86, 87] [71, 88, 89, 90, 91, 92, 93] F0 G0 F' G') := by
  unfold mb_works_422
  unfold mb_works_427
  refine PP.ix (fun _ => ?_)
  unfold mb_works_442
  refine PP.ret ?_
  exact (KX.f (k := 82) rfl (KX.f (k := 75) rfl hK))
theorem mwj_works_396 {fu : Nat} {F0 : PF} {G0 : PG} (x3 : Int32) (z0 : Int32) (F : PF) (G : PG) (hK : KX [72, 75, 76, 77, 78, 79, 80, 81, 82, 83, 85, 86, 87] [71, 88, 89, 90, 91, 92, 93] F0 G0 F G) : PP (mb_works_396 fu x3 z0 F G) (fun _ F' G' => KX [72, 75, 76, 77, 78, 79, 80, 81, 82, 83, 85, 86, 87] [71, 88, 89, 90, 91, 92, 93] F0 G0 F' G') := by
  unfold mb_works_396
  refine PP.ix (fun _ => ?_)
  refine PP.ite (fun c_1 => ?_) (fun c_1 => ?_)
  · skip
    exact mwj_works_422 F G hK
  · skip
    unfold mb_works_416
    refine PP.ite (fun c_2 => ?_) (fun c_2 => ?_)
    · skip
      unfold mb_works_444
      refine PP.ix (fun _ => ?_)
      unfold mb_works_460
      exact mwj_works_880 F (gup G 71 ((F 72) - (1 : Int32)).toNatClampNeg (z0 + (G 71 ((F 72) - (1 : Int32)).toNatClampNeg))) (KX.g (k := 71) rfl hK)
    · skip
      exact mwj_works_422 F G hK
theorem mwj_works_351 {fu : Nat} {F0 : PF} {G0 : PG} (x1 : Int32) (x2 : Int32) (z0 : Int32) (F : PF) (G : PG) (hK : KX [72, 75, 76, 77, 78, 79, 80, 81, 82, 83, 85, 86, 87] [71, 88, 89, 90, 91, 92, 93] F0 G0 F G) : PP (mb_works_351 fu x1 x2 z0 F G) (fun _ F' G' => KX [72, 75, 76, 77, 78, 79, 80, 81, 82, 83, 85, 86, 87] [71, 88, 89, 90, 91, 92, 93] F0 G0 F' G') := by
  unfold mb_works_351
  refine PP.ite (fun c_1 => ?_) (fun c_1 => ?_)
  · skip
    unfold mb_works_357
    refine PP.ix (fun _ => ?_)
    exact mwj_works_396 z0 (G 90 ((F 86) + x1).toNatClampNeg) F G hK
  · skip
    unfold mb_works_371
    refine PP.ix (fun _ => ?_)
    refine PP.ite (fun c_2 => ?_) (fun c_2 => ?_)
    · skip
      unfold mb_works_386
      exact mwj_works_396 z0 ((F 86) + x1) F G hK
    · skip
      unfold mb_works_395
      exact mwj_works_396 z0 x1 F G hK
theorem mwj_works_550 {fu : Nat} {F0 : PF} {G0 : PG} (z0 : Int32) (z1 : Int32) (F : PF) (G : PG) (hK : KX [72, 75, 76, 77, 78, 79, 80, 81, 82, 83, 85, 86, 87] [71, 88, 89, 90, 91, 92, 93] F0 G0 F G) : PP (mb_works_550 fu z0 z1 F G) (fun _ F' G' => KX [72, 75, 76, 77, 78, 79, 80, 81, 82, 83, 85, 86, 87] [71, 88, 89, 90, 91, 92, 93] F0 G0 F' G') := by
  unfold mb_works_550
  refine PP.ix (fun _ => ?_)
  unfold mb_works_551
  exact mwj_works_880 F (gup G 90 z1.toNatClampNeg z0) (KX.g (k := 90) rfl hK)
theorem mwj_works_649 {fu : Nat} {F0 : PF} {G0 : PG} (z0 : Int32) (F : PF) (G : PG) (hK : KX [72, 75, 76, 77, 78, 79, 80, 81, 82, 83, 85, 86, 87] [71, 88, 89, 90, 91, 92, 93] F0 G0 F G) : PP (mb_works_649 fu z0 F G) (fun _ F' G' => KX [72, 75, 76, 77, 78, 79, 80, 81, 82, 83, 85, 86, 87] [71, 88, 89, 90, 91, 92, 93] F0 G0 F' G') := by
  unfold mb_works_649
  refine PP.bz (fun _ => ?_)
  refine PP.ret ?_
  exact hK
theorem mwj_works_701 {fu : Nat} {F0 : PF} {G0 : PG} (F : PF) (G : PG) (hK : KX [72, 75, 76, 77, 78, 79, 80, 81, 82, 83, 85, 86, 87] [71, 88, 89, 90, 91, 92, 93] F0 G0 F G) : PP (mb_works_701 fu F G) (fun _ F' G' => KX [72, 75, 76, 77, 78, 79, 80, 81, 82, 83, 85, 86, 87] [71, 88, 89, 90, 91, 92, 93] F0 G0 F' G') := by
  unfold mb_works_701
  refine PP.ite (fun c_1 => ?_) (fun c_1 => ?_)
  · skip
    exact mwj_works_880 F G hK
  · skip
    unfold mb_works_711
    unfold mb_works_721
    exact mwj_works_880 (fup F 79 ((F 79) + (1 : Int32))) G (KX.f (k := 79) rfl hK)
theorem mwz_works_805 {fu : Nat} {F0 : PF} {G0 : PG} : ∀ (n : Nat) (x3 : Int32) (F : PF) (G : PG) (hK : KX [72, 75, 76, 77, 78, 79, 80, 81, 82, 83, 85, 86, 87] [71, 88, 89, 90, 91, 92, 93] F0 G0 F G), PP (ml_works_805 fu n x3 F G) (fun _ F' G' => KX [72, 75, 76, 77, 78, 79, 80, 81, 82, 83, 85, 86, 87] [71, 88, 89, 90, 91, 92, 93] F0 G0 F' G') := by
  intro n
  induction n with
  | zero =>
    intro x3 F G hK
    exact PP.no
  | succ n ihn =>
    intro x3 F G hK
    show PP (mb_works_805 fu (ml_works_805 fu n) x3 F G) _
    unfold mb_works_805
    refine PP.ite (fun c_1 => ?_) (fun c_1 => ?_)
    · skip
      unfold mb_works_833
      exact mwj_works_880 F G hK
    · skip
      unfold mb_works_813
      refine PP.ix (fun _ => ?_)
      refine PP.ix (fun _ => ?_)
      unfold mb_works_827
      exact ihn (x3 + (1 : Int32)) F (gup G 88 x3.toNatClampNeg (G 88 (x3 + (1 : Int32)).toNatClampNeg)) (KX.g (k := 88) rfl hK)
theorem mwz_works_838 {fu : Nat} {F0 : PF} {G0 : PG} : ∀ (n : Nat) (x1 : Int32) (x2 : Int32) (x3 : Int32) (F : PF) (G : PG) (hK : KX [72, 75, 76, 77, 78, 79, 80, 81, 82, 83, 85, 86, 87] [71, 88, 89, 90, 91, 92, 93] F0 G0 F G), PP (ml_works_838 fu n x1 x2 x3 F G) (fun _ F' G' => KX [72, 75, 76, 77, 78, 79, 80, 81, 82, 83, 85, 86, 87] [71, 88, 89, 90, 91, 92, 93] F0 G0 F' G') := by
  intro n
  induction n with
  | zero =>
    intro x1 x2 x3 F G hK
    exact PP.no
  | succ n ihn =>
    intro x1 x2 x3 F G hK
    show PP (mb_works_838 fu (ml_works_838 fu n) x1 x2 x3 F G) _
    unfold mb_works_838
    refine PP.ite (fun c_1 => ?_) (fun c_1 => ?_)
    · skip
      unfold mb_works_863
      exact mwj_works_880 F G hK
    · skip
      unfold mb_works_843
      refine PP.ix (fun _ => ?_)
      unfold mb_works_857
      exact ihn x1 x2 (x3 + (1 : Int32)) F (gup G 90 (((F 86) + x1) + x3).toNatClampNeg (0 : Int32)) (KX.g (k := 90) rfl hK)
theorem mw_works {fu : Nat} (F : PF) (G : PG) : PP (mf_works fu F G) (fun _ F' G' => KX [72, 75, 76, 77, 78, 79, 80, 81, 82, 83, 85, 86, 87] [71, 88, 89, 90, 91, 92, 93] F G F' G') := by
  unfold mf_works
  unfold mb_works_0
  refine PP.ix (fun _ => ?_)
  refine PP.ix (fun _ => ?_)
  refine PP.ix (fun _ => ?_)
  refine PP.ite (fun c_1 => ?_) (fun c_1 => ?_)
  · have e_2 : (G 56 (F 76).toNatClampNeg).toInt < 1 ∨ 22 < (G 56 (F 76).toNatClampNeg).toInt := c_1
    unfold mb_works_866
    refine PP.bind (mw_plainly (F 76) F G) ?_
    intro r3 F3 G3 hK3
    dsimp only
    unfold mb_works_875
    unfold mb_works_878
    refine PP.ret ?_
    exact (KX.f (k := 76) rfl (KX.tr KX.rf hK3 rfl rfl))
  have e_4 : ¬ ((G 56 (F 76).toNatClampNeg).toInt < 1 ∨ 22 < (G 56 (F 76).toNatClampNeg).toInt) := c_1
  refine PP.ite (fun c_5 => ?_) (fun c_5 => ?_)
  · skip
    unfold mb_works_132
    refine PP.ix (fun _ => ?_)
    refine PP.ite (fun c_6 => ?_) (fun c_6 => ?_)
    · skip
      unfold mb_works_157
      exact mwj_works_167 ((F 86) + (G 57 (F 76).toNatClampNeg)) (F 72) F G KX.rf
    · skip
      unfold mb_works_166
      exact mwj_works_167 (G 57 (F 76).toNatClampNeg) (F 72) F G KX.rf
  refine PP.ite (fun c_7 => ?_) (fun c_7 => ?_)
  · skip
    unfold mb_works_182
    unfold mb_works_192
    refine PP.ix (fun _ => ?_)
    refine PP.ite (fun c_8 => ?_) (fun c_8 => ?_)
    · skip
      unfold mb_works_209
      exact mwj_works_219 ((F 86) + (G 57 (F 76).toNatClampNeg)) (fup F 72 ((F 72) - (1 : Int32))) G (KX.f (k := 72) rfl KX.rf)
    · skip
      unfold mb_works_218
      exact mwj_works_219 (G 57 (F 76).toNatClampNeg) (fup F 72 ((F 72) - (1 : Int32))) G (KX.f (k := 72) rfl KX.rf)
  refine PP.ite (fun c_9 => ?_) (fun c_9 => ?_)
  · skip
    unfold mb_works_132
    refine PP.ix (fun _ => ?_)
    refine PP.ite (fun c_10 => ?_) (fun c_10 => ?_)
    · skip
      unfold mb_works_157
      exact mwj_works_167 ((F 86) + (G 57 (F 76).toNatClampNeg)) (F 72) F G KX.rf
    · skip
      unfold mb_works_166
      exact mwj_works_167 (G 57 (F 76).toNatClampNeg) (F 72) F G KX.rf
  refine PP.ite (fun c_11 => ?_) (fun c_11 => ?_)
  · skip
    unfold mb_works_182
    unfold mb_works_192
    refine PP.ix (fun _ => ?_)
    refine PP.ite (fun c_12 => ?_) (fun c_12 => ?_)
    · skip
      unfold mb_works_209
      exact mwj_works_219 ((F 86) + (G 57 (F 76).toNatClampNeg)) (fup F 72 ((F 72) - (1 : Int32))) G (KX.f (k := 72) rfl KX.rf)
    · skip
      unfold mb_works_218
      exact mwj_works_219 (G 57 (F 76).toNatClampNeg) (fup F 72 ((F 72) - (1 : Int32))) G (KX.f (k := 72) rfl KX.rf)
  refine PP.ite (fun c_13 => ?_) (fun c_13 => ?_)
  · skip
    unfold mb_works_232
    refine PP.ite (fun c_14 => ?_) (fun c_14 => ?_)
    · skip
      unfold mb_works_245
      refine PP.ix (fun _ => ?_)
      exact mwj_works_282 (G 57 (F 76).toNatClampNeg) (G 58 (F 76).toNatClampNeg) (G 90 ((F 86) + (G 57 (F 76).toNatClampNeg)).toNatClampNeg) (F 72) F G KX.rf
    · skip
      unfold mb_works_259
      refine PP.ix (fun _ => ?_)
      refine PP.ite (fun c_15 => ?_) (fun c_15 => ?_)
      · skip
        unfold mb_works_272
        exact mwj_works_282 (G 57 (F 76).toNatClampNeg) (G 58 (F 76).toNatClampNeg) ((F 86) + (G 57 (F 76).toNatClampNeg)) (F 72) F G KX.rf
      · skip
        unfold mb_works_281
        exact mwj_works_282 (G 57 (F 76).toNatClampNeg) (G 58 (F 76).toNatClampNeg) (G 57 (F 76).toNatClampNeg) (F 72) F G KX.rf
  refine PP.ite (fun c_16 => ?_) (fun c_16 => ?_)
  · skip
    unfold mb_works_329
    refine PP.ite (fun c_17 => ?_) (fun c_17 => ?_)
    · skip
      unfold mb_works_334
      refine PP.ix (fun _ => ?_)
      exact mwj_works_351 (G 57 (F 76).toNatClampNeg) (G 58 (F 76).toNatClampNeg) (G 90 (((F 86) + (G 57 (F 76).toNatClampNeg)) + (1 : Int32)).toNatClampNeg) F G KX.rf
    · skip
      unfold mb_works_350
      exact mwj_works_351 (G 57 (F 76).toNatClampNeg) (G 58 (F 76).toNatClampNeg) (G 58 (F 76).toNatClampNeg) F G KX.rf
  refine PP.ite (fun c_18 => ?_) (fun c_18 => ?_)
  · skip
    unfold mb_works_463
    refine PP.ix (fun _ => ?_)
    refine PP.ix (fun _ => ?_)
    refine PP.ix (fun _ => ?_)
    unfold mb_works_490
    exact mwj_works_880 F (gup G 71 ((F 72) - (1 : Int32)).toNatClampNeg (G 90 (G 71 ((F 72) - (1 : Int32)).toNatClampNeg).toNatClampNeg)) (KX.g (k := 71) rfl KX.rf)
  refine PP.ite (fun c_19 => ?_) (fun c_19 => ?_)
  · skip
    unfold mb_works_493
    unfold mb_works_503
    refine PP.ix (fun _ => ?_)
    refine PP.ite (fun c_20 => ?_) (fun c_20 => ?_)
    · skip
      unfold mb_works_521
      refine PP.ix (fun _ => ?_)
      exact mwj_works_550 ((G 71 (((F 72) - (2 : Int32)) + (1 : Int32)).toNatClampNeg) &&& (255 : Int32)) (G 71 ((F 72) - (2 : Int32)).toNatClampNeg) (fup F 72 ((F 72) - (2 : Int32))) G (KX.f (k := 72) rfl KX.rf)
    · skip
      unfold mb_works_539
      refine PP.ix (fun _ => ?_)
      exact mwj_works_550 (G 71 (((F 72) - (2 : Int32)) + (1 : Int32)).toNatClampNeg) (G 71 ((F 72) - (2 : Int32)).toNatClampNeg) (fup F 72 ((F 72) - (2 : Int32))) G (KX.f (k := 72) rfl KX.rf)
  refine PP.ite (fun c_21 => ?_) (fun c_21 => ?_)
  · skip
    unfold mb_works_554
    refine PP.ix (fun _ => ?_)
    refine PP.ix (fun _ => ?_)
    unfold mb_works_574
    unfold mb_works_584
    exact mwj_works_880 (fup F 72 ((F 72) + (1 : Int32))) (gup G 71 (F 72).toNatClampNeg (G 71 ((F 72) - (1 : Int32)).toNatClampNeg)) (KX.f (k := 72) rfl (KX.g (k := 71) rfl KX.rf))
  refine PP.ite (fun c_22 => ?_) (fun c_22 => ?_)
  · skip
    unfold mb_works_866
    refine PP.bind (mw_plainly (F 76) F G) ?_
    intro r23 F23 G23 hK23
    dsimp only
    unfold mb_works_875
    unfold mb_works_878
    refine PP.ret ?_
    exact (KX.f (k := 76) rfl (KX.tr KX.rf hK23 rfl rfl))
  refine PP.ite (fun c_24 => ?_) (fun c_24 => ?_)
  · skip
    unfold mb_works_866
    refine PP.bind (mw_plainly (F 76) F G) ?_
    intro r25 F25 G25 hK25
    dsimp only
    unfold mb_works_875
    unfold mb_works_878
    refine PP.ret ?_
    exact (KX.f (k := 76) rfl (KX.tr KX.rf hK25 rfl rfl))
  refine PP.ite (fun c_26 => ?_) (fun c_26 => ?_)
  · skip
    unfold mb_works_866
    refine PP.bind (mw_plainly (F 76) F G) ?_
    intro r27 F27 G27 hK27
    dsimp only
    unfold mb_works_875
    unfold mb_works_878
    refine PP.ret ?_
    exact (KX.f (k := 76) rfl (KX.tr KX.rf hK27 rfl rfl))
  refine PP.ite (fun c_28 => ?_) (fun c_28 => ?_)
  · skip
    unfold mb_works_866
    refine PP.bind (mw_plainly (F 76) F G) ?_
    intro r29 F29 G29 hK29
    dsimp only
    unfold mb_works_875
    unfold mb_works_878
    refine PP.ret ?_
    exact (KX.f (k := 76) rfl (KX.tr KX.rf hK29 rfl rfl))
  refine PP.ite (fun c_30 => ?_) (fun c_30 => ?_)
  · skip
    unfold mb_works_866
    refine PP.bind (mw_plainly (F 76) F G) ?_
    intro r31 F31 G31 hK31
    dsimp only
    unfold mb_works_875
    unfold mb_works_878
    refine PP.ret ?_
    exact (KX.f (k := 76) rfl (KX.tr KX.rf hK31 rfl rfl))
  refine PP.ite (fun c_32 => ?_) (fun c_32 => ?_)
  · skip
    unfold mb_works_587
    refine PP.ite (fun c_33 => ?_) (fun c_33 => ?_)
    · skip
      unfold mb_works_594
      refine PP.ret ?_
      exact KX.rf
    · skip
      unfold mb_works_596
      unfold mb_works_606
      unfold mb_works_616
      exact mwj_works_880 (fup (fup F 78 ((F 78) - (1 : Int32))) 77 ((F 77) + (1 : Int32))) G (KX.f (k := 77) rfl (KX.f (k := 78) rfl KX.rf))
  refine PP.ite (fun c_34 => ?_) (fun c_34 => ?_)
  · skip
    unfold mb_works_619
    refine PP.bind (mw_calls (G 57 (F 76).toNatClampNeg) (G 58 (F 76).toNatClampNeg) ((F 76) + (1 : Int32)) F G) ?_
    intro r35 F35 G35 hK35
    dsimp only
    unfold mb_works_631
    refine PP.bz (fun _ => ?_)
    refine PP.ret ?_
    exact (KX.tr KX.rf hK35 rfl rfl)
  refine PP.ite (fun c_36 => ?_) (fun c_36 => ?_)
  · skip
    unfold mb_works_632
    refine PP.bind (mw_returnsHere F G) ?_
    intro r37 F37 G37 hK37
    dsimp only
    unfold mb_works_636
    refine PP.ite (fun c_38 => ?_) (fun c_38 => ?_)
    · skip
      unfold mb_works_644
      exact mwj_works_649 (1 : Int32) F37 G37 (KX.tr KX.rf hK37 rfl rfl)
    · skip
      unfold mb_works_648
      exact mwj_works_649 (0 : Int32) F37 G37 (KX.tr KX.rf hK37 rfl rfl)
  refine PP.ite (fun c_39 => ?_) (fun c_39 => ?_)
  · skip
    unfold mb_works_650
    unfold mb_works_660
    exact mwj_works_880 (fup F 72 ((F 72) - (1 : Int32))) G (KX.f (k := 72) rfl KX.rf)
  refine PP.ite (fun c_40 => ?_) (fun c_40 => ?_)
  · skip
    unfold mb_works_663
    unfold mb_works_673
    refine PP.ite (fun c_41 => ?_) (fun c_41 => ?_)
    · skip
      exact mwj_works_701 (fup F 72 ((F 72) - (1 : Int32))) G (KX.f (k := 72) rfl KX.rf)
    · skip
      unfold mb_works_683
      refine PP.ix (fun _ => ?_)
      refine PP.ix (fun _ => ?_)
      exact mwj_works_701 (fup F 72 ((F 72) - (1 : Int32))) (gup G 89 (F 79).toNatClampNeg (G 71 ((F 72) - (1 : Int32)).toNatClampNeg)) (KX.g (k := 89) rfl (KX.f (k := 72) rfl KX.rf))
  refine PP.ite (fun c_42 => ?_) (fun c_42 => ?_)
  · skip
    unfold mb_works_724
    unfold mb_works_734
    unfold mb_works_739
    refine PP.ix (fun _ => ?_)
    unfold mb_works_752
    refine PP.ret ?_
    exact (KX.f (k := 81) rfl (KX.f (k := 75) rfl (KX.f (k := 72) rfl KX.rf)))
  refine PP.ite (fun c_43 => ?_) (fun c_43 => ?_)
  · skip
    unfold mb_works_754
    refine PP.ite (fun c_44 => ?_) (fun c_44 => ?_)
    · skip
      unfold mb_works_761
      unfold mb_works_766
      refine PP.ret ?_
      exact (KX.f (k := 75) rfl KX.rf)
    · skip
      unfold mb_works_768
      refine PP.ix (fun _ => ?_)
      refine PP.ix (fun _ => ?_)
      unfold mb_works_783
      unfold mb_works_793
      unfold mb_works_803
      exact mwz_works_805 fu (0 : Int32) (fup (fup F 72 ((F 72) + (1 : Int32))) 80 ((F 80) - (1 : Int32))) (gup G 71 (F 72).toNatClampNeg (G 88 (0 : Int32).toNatClampNeg)) (KX.f (k := 80) rfl (KX.f (k := 72) rfl (KX.g (k := 71) rfl KX.rf)))
  unfold mb_works_836
  exact mwz_works_838 fu (G 57 (F 76).toNatClampNeg) (G 58 (F 76).toNatClampNeg) (0 : Int32) F G KX.rf
theorem mwj_run_18 {fu : Nat} {F0 : PF} {G0 : PG} (F : PF) (G : PG) (hK : KX [72, 75, 76, 77, 78, 79, 80, 81, 82, 83, 85, 86, 87] [71, 88, 89, 90, 91, 92, 93] F0 G0 F G) : PP (mb_run_18 fu F G) (fun _ F' G' => KX [72, 75, 76, 77, 78, 79, 80, 81, 82, 83, 85, 86, 87] [71, 88, 89, 90, 91, 92, 93] F0 G0 F' G') := by
  unfold mb_run_18
  refine PP.ret ?_
  exact hK
theorem mwj_run_97 {fu : Nat} {F0 : PF} {G0 : PG} (F : PF) (G : PG) (hK : KX [72, 75, 76, 77, 78, 79, 80, 81, 82, 83, 85, 86, 87] [71, 88, 89, 90, 91, 92, 93] F0 G0 F G) : PP (mb_run_97 fu F G) (fun _ F' G' => KX [72, 75, 76, 77, 78, 79, 80, 81, 82, 83, 85, 86, 87] [71, 88, 89, 90, 91, 92, 93] F0 G0 F' G') := by
  unfold mb_run_97
  refine PP.ret ?_
  exact hK
theorem mwz_run_77 {fu : Nat} {F0 : PF} {G0 : PG} : ∀ (n : Nat) (x2 : Int32) (F : PF) (G : PG) (hK : KX [72, 75, 76, 77, 78, 79, 80, 81, 82, 83, 85, 86, 87] [71, 88, 89, 90, 91, 92, 93] F0 G0 F G), PP (ml_run_77 fu n x2 F G) (fun _ F' G' => KX [72, 75, 76, 77, 78, 79, 80, 81, 82, 83, 85, 86, 87] [71, 88, 89, 90, 91, 92, 93] F0 G0 F' G') := by
  intro n
  induction n with
  | zero =>
    intro x2 F G hK
    exact PP.no
  | succ n ihn =>
    intro x2 F G hK
    show PP (mb_run_77 fu (ml_run_77 fu n) x2 F G) _
    unfold mb_run_77
    refine PP.ite (fun c_1 => ?_) (fun c_1 => ?_)
    · skip
      exact mwj_run_97 F G hK
    · skip
      unfold mb_run_81
      refine PP.ite (fun c_2 => ?_) (fun c_2 => ?_)
      · skip
        unfold mb_run_89
        refine PP.bind (mw_works F G) ?_
        intro r3 F3 G3 hK3
        dsimp only
        unfold mb_run_93
        exact ihn r3 F3 G3 (KX.tr hK hK3 rfl rfl)
      · skip
        exact mwj_run_97 F G hK
theorem mwj_run_76 {fu : Nat} {F0 : PF} {G0 : PG} (z0 : Int32) (F : PF) (G : PG) (hK : KX [72, 75, 76, 77, 78, 79, 80, 81, 82, 83, 85, 86, 87] [71, 88, 89, 90, 91, 92, 93] F0 G0 F G) : PP (mb_run_76 fu z0 F G) (fun _ F' G' => KX [72, 75, 76, 77, 78, 79, 80, 81, 82, 83, 85, 86, 87] [71, 88, 89, 90, 91, 92, 93] F0 G0 F' G') := by
  unfold mb_run_76
  exact mwz_run_77 fu z0 F G hK
theorem mwj_run_71 {fu : Nat} {F0 : PF} {G0 : PG} (F : PF) (G : PG) (hK : KX [72, 75, 76, 77, 78, 79, 80, 81, 82, 83, 85, 86, 87] [71, 88, 89, 90, 91, 92, 93] F0 G0 F G) : PP (mb_run_71 fu F G) (fun _ F' G' => KX [72, 75, 76, 77, 78, 79, 80, 81, 82, 83, 85, 86, 87] [71, 88, 89, 90, 91, 92, 93] F0 G0 F' G') := by
  unfold mb_run_71
  exact mwj_run_76 (1 : Int32) F G hK
theorem mw_run {fu : Nat} (x1 : Int32) (F : PF) (G : PG) : PP (mf_run fu x1 F G) (fun _ F' G' => KX [72, 75, 76, 77, 78, 79, 80, 81, 82, 83, 85, 86, 87] [71, 88, 89, 90, 91, 92, 93] F G F' G') := by
  unfold mf_run
  unfold mb_run_0
  refine PP.ite (fun c_1 => ?_) (fun c_1 => ?_)
  · skip
    exact mwj_run_18 F G KX.rf
  · skip
    unfold mb_run_4
    refine PP.ite (fun c_2 => ?_) (fun c_2 => ?_)
    · skip
      exact mwj_run_18 F G KX.rf
    · skip
      unfold mb_run_11
      refine PP.ite (fun c_3 => ?_) (fun c_3 => ?_)
      · skip
        exact mwj_run_18 F G KX.rf
      · skip
        unfold mb_run_20
        refine PP.ite (fun c_4 => ?_) (fun c_4 => ?_)
        · skip
          unfold mb_run_33
          unfold mb_run_38
          unfold mb_run_43
          refine PP.ite (fun c_5 => ?_) (fun c_5 => ?_)
          · skip
            exact mwj_run_71 (fup (fup F 78 x1) 75 (1 : Int32)) G (KX.f (k := 75) rfl (KX.f (k := 78) rfl KX.rf))
          · skip
            unfold mb_run_50
            refine PP.ix (fun _ => ?_)
            refine PP.bind (mw_calls (F 74) (G 26 (F 74).toNatClampNeg) (0 : Int32) (fup (fup F 78 x1) 75 (1 : Int32)) G) ?_
            intro r6 F6 G6 hK6
            dsimp only
            unfold mb_run_68
            refine PP.ite (fun c_7 => ?_) (fun c_7 => ?_)
            · skip
              unfold mb_run_75
              exact mwj_run_76 (0 : Int32) F6 G6 (KX.tr (KX.f (k := 75) rfl (KX.f (k := 78) rfl KX.rf)) hK6 rfl rfl)
            · skip
              exact mwj_run_71 F6 G6 (KX.tr (KX.f (k := 75) rfl (KX.f (k := 78) rfl KX.rf)) hK6 rfl rfl)
        · skip
          unfold mb_run_28
          refine PP.ret ?_
          exact KX.rf
theorem mwj_output_29 {fu : Nat} {F0 : PF} {G0 : PG} (z0 : Int32) (F : PF) (G : PG) (hK : KX [] [] F0 G0 F G) : PP (mb_output_29 fu z0 F G) (fun _ F' G' => KX [] [] F0 G0 F' G') := by
  unfold mb_output_29
  refine PP.ret ?_
  exact hK
theorem mwj_output_19 {fu : Nat} {F0 : PF} {G0 : PG} (F : PF) (G : PG) (hK : KX [] [] F0 G0 F G) : PP (mb_output_19 fu F G) (fun _ F' G' => KX [] [] F0 G0 F' G') := by
  unfold mb_output_19
  exact mwj_output_29 (0 : Int32) F G hK
theorem mw_output {fu : Nat} (x1 : Int32) (F : PF) (G : PG) : PP (mf_output fu x1 F G) (fun _ F' G' => KX [] [] F G F' G') := by
  unfold mf_output
  unfold mb_output_0
  refine PP.ite (fun c_1 => ?_) (fun c_1 => ?_)
  · skip
    exact mwj_output_19 F G KX.rf
  · skip
    unfold mb_output_4
    refine PP.ite (fun c_2 => ?_) (fun c_2 => ?_)
    · skip
      exact mwj_output_19 F G KX.rf
    · skip
      unfold mb_output_12
      refine PP.ite (fun c_3 => ?_) (fun c_3 => ?_)
      · skip
        unfold mb_output_23
        refine PP.ix (fun _ => ?_)
        exact mwj_output_29 (G 89 x1.toNatClampNeg) F G KX.rf
      · skip
        exact mwj_output_19 F G KX.rf
theorem mwj_world_68 {fu : Nat} {F0 : PF} {G0 : PG} (z0 : Int32) (F : PF) (G : PG) (hK : KX [] [] F0 G0 F G) : PP (mb_world_68 fu z0 F G) (fun _ F' G' => KX [] [] F0 G0 F' G') := by
  unfold mb_world_68
  refine PP.ret ?_
  exact hK
theorem mwj_world_103 {fu : Nat} {F0 : PF} {G0 : PG} (z0 : Int32) (F : PF) (G : PG) (hK : KX [] [] F0 G0 F G) : PP (mb_world_103 fu z0 F G) (fun _ F' G' => KX [] [] F0 G0 F' G') := by
  unfold mb_world_103
  refine PP.ret ?_
  exact hK
theorem mwj_world_95 {fu : Nat} {F0 : PF} {G0 : PG} (F : PF) (G : PG) (hK : KX [] [] F0 G0 F G) : PP (mb_world_95 fu F G) (fun _ F' G' => KX [] [] F0 G0 F' G') := by
  unfold mb_world_95
  exact mwj_world_103 (F 81) F G hK
theorem mwj_world_129 {fu : Nat} {F0 : PF} {G0 : PG} (z0 : Int32) (F : PF) (G : PG) (hK : KX [] [] F0 G0 F G) : PP (mb_world_129 fu z0 F G) (fun _ F' G' => KX [] [] F0 G0 F' G') := by
  unfold mb_world_129
  refine PP.ret ?_
  exact hK
theorem mwj_world_121 {fu : Nat} {F0 : PF} {G0 : PG} (F : PF) (G : PG) (hK : KX [] [] F0 G0 F G) : PP (mb_world_121 fu F G) (fun _ F' G' => KX [] [] F0 G0 F' G') := by
  unfold mb_world_121
  exact mwj_world_129 (F 82) F G hK
theorem mwj_world_145 {fu : Nat} {F0 : PF} {G0 : PG} (z0 : Int32) (F : PF) (G : PG) (hK : KX [] [] F0 G0 F G) : PP (mb_world_145 fu z0 F G) (fun _ F' G' => KX [] [] F0 G0 F' G') := by
  unfold mb_world_145
  refine PP.ret ?_
  exact hK
theorem mwj_world_161 {fu : Nat} {F0 : PF} {G0 : PG} (z0 : Int32) (F : PF) (G : PG) (hK : KX [] [] F0 G0 F G) : PP (mb_world_161 fu z0 F G) (fun _ F' G' => KX [] [] F0 G0 F' G') := by
  unfold mb_world_161
  refine PP.ret ?_
  exact hK
theorem mw_world {fu : Nat} (x1 : Int32) (F : PF) (G : PG) : PP (mf_world fu x1 F G) (fun _ F' G' => KX [] [] F G F' G') := by
  unfold mf_world
  unfold mb_world_0
  refine PP.ite (fun c_1 => ?_) (fun c_1 => ?_)
  · have e_2 : x1.toInt < 0 ∨ 7 < x1.toInt := c_1
    unfold mb_world_162
    refine PP.ret ?_
    exact KX.rf
  have e_3 : ¬ (x1.toInt < 0 ∨ 7 < x1.toInt) := c_1
  refine PP.ite (fun c_4 => ?_) (fun c_4 => ?_)
  · skip
    unfold mb_world_48
    refine PP.ret ?_
    exact KX.rf
  refine PP.ite (fun c_5 => ?_) (fun c_5 => ?_)
  · skip
    unfold mb_world_53
    refine PP.ite (fun c_6 => ?_) (fun c_6 => ?_)
    · skip
      unfold mb_world_60
      exact mwj_world_68 (0 : Int32) F G KX.rf
    · skip
      unfold mb_world_64
      exact mwj_world_68 (F 77) F G KX.rf
  refine PP.ite (fun c_7 => ?_) (fun c_7 => ?_)
  · skip
    unfold mb_world_69
    refine PP.ret ?_
    exact KX.rf
  refine PP.ite (fun c_8 => ?_) (fun c_8 => ?_)
  · skip
    unfold mb_world_74
    refine PP.ret ?_
    exact KX.rf
  refine PP.ite (fun c_9 => ?_) (fun c_9 => ?_)
  · skip
    unfold mb_world_79
    refine PP.ite (fun c_10 => ?_) (fun c_10 => ?_)
    · skip
      exact mwj_world_95 F G KX.rf
    · skip
      unfold mb_world_87
      refine PP.ite (fun c_11 => ?_) (fun c_11 => ?_)
      · skip
        exact mwj_world_95 F G KX.rf
      · skip
        unfold mb_world_102
        exact mwj_world_103 (0 : Int32) F G KX.rf
  refine PP.ite (fun c_12 => ?_) (fun c_12 => ?_)
  · skip
    unfold mb_world_104
    refine PP.ite (fun c_13 => ?_) (fun c_13 => ?_)
    · skip
      exact mwj_world_121 F G KX.rf
    · skip
      unfold mb_world_112
      refine PP.ite (fun c_14 => ?_) (fun c_14 => ?_)
      · skip
        exact mwj_world_121 F G KX.rf
      · skip
        unfold mb_world_128
        exact mwj_world_129 (-1 : Int32) F G KX.rf
  refine PP.ite (fun c_15 => ?_) (fun c_15 => ?_)
  · skip
    unfold mb_world_130
    refine PP.ite (fun c_16 => ?_) (fun c_16 => ?_)
    · skip
      unfold mb_world_137
      exact mwj_world_145 (0 : Int32) F G KX.rf
    · skip
      unfold mb_world_141
      exact mwj_world_145 (F 83) F G KX.rf
  unfold mb_world_146
  refine PP.ite (fun c_17 => ?_) (fun c_17 => ?_)
  · skip
    unfold mb_world_153
    exact mwj_world_161 (0 : Int32) F G KX.rf
  · skip
    unfold mb_world_157
    exact mwj_world_161 (F 84) F G KX.rf
theorem mwj_global_19 {fu : Nat} {F0 : PF} {G0 : PG} (F : PF) (G : PG) (hK : KX [] [] F0 G0 F G) : PP (mb_global_19 fu F G) (fun _ F' G' => KX [] [] F0 G0 F' G') := by
  unfold mb_global_19
  refine PP.ret ?_
  exact hK
theorem mwj_global_99 {fu : Nat} {F0 : PF} {G0 : PG} (ag_32 : Int32 → Int32 → Int32 → PF → PG → PR) (hag_32 : ∀ (x1 : Int32) (x2 : Int32) (x3 : Int32) (F : PF) (G : PG) (hK : KX [] [] F0 G0 F G), PP (ag_32 x1 x2 x3 F G) (fun _ F' G' => KX [] [] F0 G0 F' G')) (x1 : Int32) (x3 : Int32) (z0 : Int32) (F : PF) (G : PG) (hK : KX [] [] F0 G0 F G) : PP (mb_global_99 fu ag_32 x1 x3 z0 F G) (fun _ F' G' => KX [] [] F0 G0 F' G') := by
  unfold mb_global_99
  exact hag_32 x1 z0 (x3 + (-1 : Int32)) F G hK
theorem mwj_global_72 {fu : Nat} {F0 : PF} {G0 : PG} (ag_32 : Int32 → Int32 → Int32 → PF → PG → PR) (hag_32 : ∀ (x1 : Int32) (x2 : Int32) (x3 : Int32) (F : PF) (G : PG) (hK : KX [] [] F0 G0 F G), PP (ag_32 x1 x2 x3 F G) (fun _ F' G' => KX [] [] F0 G0 F' G')) (x1 : Int32) (x2 : Int32) (x3 : Int32) (z0 : Int32) (F : PF) (G : PG) (hK : KX [] [] F0 G0 F G) : PP (mb_global_72 fu ag_32 x1 x2 x3 z0 F G) (fun _ F' G' => KX [] [] F0 G0 F' G') := by
  unfold mb_global_72
  refine PP.ix (fun _ => ?_)
  refine PP.ite (fun c_1 => ?_) (fun c_1 => ?_)
  · skip
    unfold mb_global_97
    exact mwj_global_99 ag_32 hag_32 x1 x3 z0 F G hK
  · skip
    unfold mb_global_83
    exact mwj_global_99 ag_32 hag_32 x1 x3 ((x2 <<< ((8 : Int32) &&& 31)) ||| (z0 &&& (255 : Int32))) F G hK
theorem mwz_global_32 {fu : Nat} {F0 : PF} {G0 : PG} : ∀ (n : Nat) (x1 : Int32) (x2 : Int32) (x3 : Int32) (F : PF) (G : PG) (hK : KX [] [] F0 G0 F G), PP (ml_global_32 fu n x1 x2 x3 F G) (fun _ F' G' => KX [] [] F0 G0 F' G') := by
  intro n
  induction n with
  | zero =>
    intro x1 x2 x3 F G hK
    exact PP.no
  | succ n ihn =>
    intro x1 x2 x3 F G hK
    show PP (mb_global_32 fu (ml_global_32 fu n) x1 x2 x3 F G) _
    unfold mb_global_32
    refine PP.ite (fun c_1 => ?_) (fun c_1 => ?_)
    · skip
      unfold mb_global_106
      refine PP.ret ?_
      exact hK
    · skip
      unfold mb_global_36
      refine PP.ite (fun c_2 => ?_) (fun c_2 => ?_)
      · skip
        unfold mb_global_43
        refine PP.ix (fun _ => ?_)
        refine PP.ix (fun _ => ?_)
        exact mwj_global_72 (ml_global_32 fu n) ihn x1 x2 x3 (G 41 ((G 39 x1.toNatClampNeg) + x3).toNatClampNeg) F G hK
      · skip
        unfold mb_global_59
        refine PP.ix (fun _ => ?_)
        refine PP.ix (fun _ => ?_)
        exact mwj_global_72 (ml_global_32 fu n) ihn x1 x2 x3 (G 90 ((G 39 x1.toNatClampNeg) + x3).toNatClampNeg) F G hK
theorem mw_global {fu : Nat} (x1 : Int32) (F : PF) (G : PG) : PP (mf_global fu x1 F G) (fun _ F' G' => KX [] [] F G F' G') := by
  unfold mf_global
  unfold mb_global_0
  refine PP.ite (fun c_1 => ?_) (fun c_1 => ?_)
  · skip
    exact mwj_global_19 F G KX.rf
  · skip
    unfold mb_global_7
    refine PP.ite (fun c_2 => ?_) (fun c_2 => ?_)
    · skip
      exact mwj_global_19 F G KX.rf
    · skip
      unfold mb_global_11
      refine PP.ite (fun c_3 => ?_) (fun c_3 => ?_)
      · skip
        unfold mb_global_21
        refine PP.ix (fun _ => ?_)
        exact mwz_global_32 fu x1 (0 : Int32) ((G 38 x1.toNatClampNeg) - (1 : Int32)) F G KX.rf
      · skip
        exact mwj_global_19 F G KX.rf
theorem mwj_put_17 {fu : Nat} {F0 : PF} {G0 : PG} (F : PF) (G : PG) (hK : KX [] [94] F0 G0 F G) : PP (mb_put_17 fu F G) (fun _ F' G' => KX [] [94] F0 G0 F' G') := by
  unfold mb_put_17
  refine PP.ret ?_
  exact hK
theorem mw_put {fu : Nat} (x1 : Int32) (x2 : Int32) (F : PF) (G : PG) : PP (mf_put fu x1 x2 F G) (fun _ F' G' => KX [] [94] F G F' G') := by
  unfold mf_put
  unfold mb_put_0
  refine PP.ite (fun c_1 => ?_) (fun c_1 => ?_)
  · skip
    unfold mb_put_6
    refine PP.ite (fun c_2 => ?_) (fun c_2 => ?_)
    · skip
      exact mwj_put_17 F G KX.rf
    · skip
      unfold mb_put_10
      refine PP.ite (fun c_3 => ?_) (fun c_3 => ?_)
      · skip
        unfold mb_put_19
        refine PP.ix (fun _ => ?_)
        unfold mb_put_28
        refine PP.ret ?_
        exact (KX.g (k := 94) rfl KX.rf)
      · skip
        exact mwj_put_17 F G KX.rf
  · skip
    exact mwj_put_17 F G KX.rf
theorem mwj_set_11 {fu : Nat} {F0 : PF} {G0 : PG} (F : PF) (G : PG) (hK : KX [] [95] F0 G0 F G) : PP (mb_set_11 fu F G) (fun _ F' G' => KX [] [95] F0 G0 F' G') := by
  unfold mb_set_11
  refine PP.ret ?_
  exact hK
theorem mw_set {fu : Nat} (x1 : Int32) (x2 : Int32) (F : PF) (G : PG) : PP (mf_set fu x1 x2 F G) (fun _ F' G' => KX [] [95] F G F' G') := by
  unfold mf_set
  unfold mb_set_0
  refine PP.ite (fun c_1 => ?_) (fun c_1 => ?_)
  · skip
    exact mwj_set_11 F G KX.rf
  · skip
    unfold mb_set_5
    refine PP.ite (fun c_2 => ?_) (fun c_2 => ?_)
    · skip
      unfold mb_set_13
      refine PP.ix (fun _ => ?_)
      unfold mb_set_20
      refine PP.ret ?_
      exact (KX.g (k := 95) rfl KX.rf)
    · skip
      exact mwj_set_11 F G KX.rf
theorem mwj_board_58 {fu : Nat} {F0 : PF} {G0 : PG} (z0 : Int32) (F : PF) (G : PG) (hK : KX [] [] F0 G0 F G) : PP (mb_board_58 fu z0 F G) (fun _ F' G' => KX [] [] F0 G0 F' G') := by
  unfold mb_board_58
  refine PP.ret ?_
  exact hK
theorem mwj_board_57 {fu : Nat} {F0 : PF} {G0 : PG} (F : PF) (G : PG) (hK : KX [] [] F0 G0 F G) : PP (mb_board_57 fu F G) (fun _ F' G' => KX [] [] F0 G0 F' G') := by
  unfold mb_board_57
  exact mwj_board_58 (-1 : Int32) F G hK
theorem mwj_board_19 {fu : Nat} {F0 : PF} {G0 : PG} (x1 : Int32) (F : PF) (G : PG) (hK : KX [] [] F0 G0 F G) : PP (mb_board_19 fu x1 F G) (fun _ F' G' => KX [] [] F0 G0 F' G') := by
  unfold mb_board_19
  refine PP.ite (fun c_1 => ?_) (fun c_1 => ?_)
  · skip
    unfold mb_board_25
    exact mwj_board_58 (F 96) F G hK
  · skip
    unfold mb_board_32
    refine PP.ite (fun c_2 => ?_) (fun c_2 => ?_)
    · skip
      exact mwj_board_57 F G hK
    · skip
      unfold mb_board_38
      refine PP.ite (fun c_3 => ?_) (fun c_3 => ?_)
      · skip
        exact mwj_board_57 F G hK
      · skip
        unfold mb_board_45
        refine PP.ix (fun _ => ?_)
        exact mwj_board_58 (G 94 (x1 - (100 : Int32)).toNatClampNeg) F G hK
theorem mw_board {fu : Nat} (x1 : Int32) (F : PF) (G : PG) : PP (mf_board fu x1 F G) (fun _ F' G' => KX [] [] F G F' G') := by
  unfold mf_board
  unfold mb_board_0
  refine PP.ite (fun c_1 => ?_) (fun c_1 => ?_)
  · skip
    exact mwj_board_19 x1 F G KX.rf
  · skip
    unfold mb_board_4
    refine PP.ite (fun c_2 => ?_) (fun c_2 => ?_)
    · skip
      exact mwj_board_19 x1 F G KX.rf
    · skip
      unfold mb_board_10
      refine PP.ix (fun _ => ?_)
      exact mwj_board_58 (G 95 x1.toNatClampNeg) F G KX.rf
theorem mwj_gives_11 {fu : Nat} {F0 : PF} {G0 : PG} (F : PF) (G : PG) (hK : KX [] [95] F0 G0 F G) : PP (mb_gives_11 fu F G) (fun _ F' G' => KX [] [95] F0 G0 F' G') := by
  unfold mb_gives_11
  refine PP.ret ?_
  exact hK
theorem mw_gives {fu : Nat} (x1 : Int32) (x2 : Int32) (F : PF) (G : PG) : PP (mf_gives fu x1 x2 F G) (fun _ F' G' => KX [] [95] F G F' G') := by
  unfold mf_gives
  unfold mb_gives_0
  refine PP.ite (fun c_1 => ?_) (fun c_1 => ?_)
  · skip
    exact mwj_gives_11 F G KX.rf
  · skip
    unfold mb_gives_4
    refine PP.ix (fun _ => ?_)
    exact mwj_gives_11 F (gup G 95 x1.toNatClampNeg x2) (KX.g (k := 95) rfl KX.rf)
theorem mw_goesOn {fu : Nat} (x1 : Int32) (F : PF) (G : PG) : PP (mf_goesOn fu x1 F G) (fun _ F' G' => KX [96] [95] F G F' G') := by
  unfold mf_goesOn
  unfold mb_goesOn_0
  refine PP.ix (fun _ => ?_)
  unfold mb_goesOn_8
  unfold mb_goesOn_18
  refine PP.ret ?_
  exact (KX.f (k := 96) rfl (KX.g (k := 95) rfl KX.rf))
theorem mw_jumps {fu : Nat} (x1 : Int32) (x2 : Int32) (x3 : Int32) (F : PF) (G : PG) : PP (mf_jumps fu x1 x2 x3 F G) (fun _ F' G' => KX [96] [95] F G F' G') := by
  unfold mf_jumps
  unfold mb_jumps_0
  refine PP.ite (fun c_1 => ?_) (fun c_1 => ?_)
  · skip
    unfold mb_jumps_8
    refine PP.bind (mw_gives x1 (x3 + (4 : Int32)) F G) ?_
    intro r2 F2 G2 hK2
    dsimp only
    unfold mb_jumps_16
    refine PP.bind (mw_goesOn x2 F2 G2) ?_
    intro r3 F3 G3 hK3
    dsimp only
    unfold mb_jumps_21
    refine PP.ret ?_
    exact (KX.tr (KX.tr KX.rf hK2 rfl rfl) hK3 rfl rfl)
  · skip
    unfold mb_jumps_6
    refine PP.ret ?_
    exact KX.rf
theorem mwj_isOut_16 {fu : Nat} {F0 : PF} {G0 : PG} (z0 : Int32) (F : PF) (G : PG) (hK : KX [] [] F0 G0 F G) : PP (mb_isOut_16 fu z0 F G) (fun _ F' G' => KX [] [] F0 G0 F' G') := by
  unfold mb_isOut_16
  refine PP.bz (fun _ => ?_)
  refine PP.ret ?_
  exact hK
theorem mwj_isOut_11 {fu : Nat} {F0 : PF} {G0 : PG} (F : PF) (G : PG) (hK : KX [] [] F0 G0 F G) : PP (mb_isOut_11 fu F G) (fun _ F' G' => KX [] [] F0 G0 F' G') := by
  unfold mb_isOut_11
  exact mwj_isOut_16 (1 : Int32) F G hK
theorem mw_isOut {fu : Nat} (x0 : Int32) (F : PF) (G : PG) : PP (mf_isOut fu x0 F G) (fun _ F' G' => KX [] [] F G F' G') := by
  unfold mf_isOut
  unfold mb_isOut_0
  refine PP.ite (fun c_1 => ?_) (fun c_1 => ?_)
  · skip
    exact mwj_isOut_11 F G KX.rf
  · skip
    unfold mb_isOut_4
    refine PP.ite (fun c_2 => ?_) (fun c_2 => ?_)
    · skip
      unfold mb_isOut_15
      exact mwj_isOut_16 (0 : Int32) F G KX.rf
    · skip
      exact mwj_isOut_11 F G KX.rf
theorem mw_part {fu : Nat} (x0 : Int32) (x1 : Int32) (x2 : Int32) (F : PF) (G : PG) : PP (mf_part fu x0 x1 x2 F G) (fun _ F' G' => KX [] [] F G F' G') := by
  unfold mf_part
  unfold mb_part_0
  refine PP.ret ?_
  exact KX.rf
theorem mw_putByte {fu : Nat} (x1 : Int32) (x2 : Int32) (F : PF) (G : PG) : PP (mf_putByte fu x1 x2 F G) (fun _ F' G' => KX [] [94] F G F' G') := by
  unfold mf_putByte
  unfold mb_putByte_0
  refine PP.ix (fun _ => ?_)
  refine PP.ix (fun _ => ?_)
  unfold mb_putByte_39
  refine PP.ret ?_
  exact (KX.g (k := 94) rfl KX.rf)
theorem mwz_stores_35 {fu : Nat} {F0 : PF} {G0 : PG} : ∀ (n : Nat) (x2 : Int32) (x3 : Int32) (x4 : Int32) (x5 : Int32) (x6 : Int32) (F : PF) (G : PG) (hK : KX [96] [94, 95] F0 G0 F G), PP (ml_stores_35 fu n x2 x3 x4 x5 x6 F G) (fun _ F' G' => KX [96] [94, 95] F0 G0 F' G') := by
  intro n
  induction n with
  | zero =>
    intro x2 x3 x4 x5 x6 F G hK
    exact PP.no
  | succ n ihn =>
    intro x2 x3 x4 x5 x6 F G hK
    show PP (mb_stores_35 fu (ml_stores_35 fu n) x2 x3 x4 x5 x6 F G) _
    unfold mb_stores_35
    refine PP.ite (fun c_1 => ?_) (fun c_1 => ?_)
    · skip
      unfold mb_stores_63
      refine PP.bind (mw_goesOn (x4 + (4 : Int32)) F G) ?_
      intro r2 F2 G2 hK2
      dsimp only
      unfold mb_stores_71
      refine PP.ret ?_
      exact (KX.tr hK hK2 rfl rfl)
    · skip
      unfold mb_stores_42
      refine PP.bind (mw_putByte (x2 + x6) (x3 >>> (((8 : Int32) * x6) &&& 31)) F G) ?_
      intro r3 F3 G3 hK3
      dsimp only
      unfold mb_stores_57
      exact ihn x2 x3 x4 x5 (x6 + (1 : Int32)) F3 G3 (KX.tr hK hK3 rfl rfl)
theorem mw_stores {fu : Nat} (x1 : Int32) (x2 : Int32) (x3 : Int32) (x4 : Int32) (F : PF) (G : PG) : PP (mf_stores fu x1 x2 x3 x4 F G) (fun _ F' G' => KX [96] [94, 95] F G F' G') := by
  unfold mf_stores
  unfold mb_stores_0
  refine PP.ite (fun c_1 => ?_) (fun c_1 => ?_)
  · skip
    unfold mb_stores_7
    refine PP.ite (fun c_2 => ?_) (fun c_2 => ?_)
    · skip
      unfold mb_stores_23
      refine PP.bind (mw_isOut x2 F G) ?_
      intro r3 F3 G3 hK3
      dsimp only
      unfold mb_stores_27
      refine PP.ite (fun c_4 => ?_) (fun c_4 => ?_)
      · skip
        unfold mb_stores_32
        exact mwz_stores_35 fu x2 x3 x4 ((1 : Int32) <<< (x1 &&& 31)) (0 : Int32) F3 G3 (KX.tr KX.rf hK3 rfl rfl)
      · skip
        unfold mb_stores_30
        refine PP.ret ?_
        exact (KX.tr KX.rf hK3 rfl rfl)
    · skip
      unfold mb_stores_21
      refine PP.ret ?_
      exact KX.rf
  · skip
    unfold mb_stores_5
    refine PP.ret ?_
    exact KX.rf
theorem mwj_product_137 {fu : Nat} {F0 : PF} {G0 : PG} (z0 : Int32) (F : PF) (G : PG) (hK : KX [] [] F0 G0 F G) : PP (mb_product_137 fu z0 F G) (fun _ F' G' => KX [] [] F0 G0 F' G') := by
  unfold mb_product_137
  refine PP.ret ?_
  exact hK
theorem mwj_product_116 {fu : Nat} {F0 : PF} {G0 : PG} (z0 : Int32) (F : PF) (G : PG) (hK : KX [] [] F0 G0 F G) : PP (mb_product_116 fu z0 F G) (fun _ F' G' => KX [] [] F0 G0 F' G') := by
  unfold mb_product_116
  refine PP.ret ?_
  exact hK
theorem mw_product {fu : Nat} (x0 : Int32) (x1 : Int32) (x2 : Int32) (F : PF) (G : PG) : PP (mf_product fu x0 x1 x2 F G) (fun _ F' G' => KX [] [] F G F' G') := by
  unfold mf_product
  unfold mb_product_0
  refine PP.ite (fun c_1 => ?_) (fun c_1 => ?_)
  · have e_2 : x0.toInt < 0 ∨ 6 < x0.toInt := c_1
    unfold mb_product_123
    refine PP.ite (fun c_3 => ?_) (fun c_3 => ?_)
    · skip
      unfold mb_product_127
      exact mwj_product_137 x1 F G KX.rf
    · skip
      unfold mb_product_131
      refine PP.nz (fun _ => ?_)
      exact mwj_product_137 ((((x1.toInt64) &&& (4294967295 : Int64)) - ((x1.toInt64) &&& (4294967295 : Int64)) / ((x2.toInt64) &&& (4294967295 : Int64)) * ((x2.toInt64) &&& (4294967295 : Int64))).toInt32) F G KX.rf
  have e_4 : ¬ (x0.toInt < 0 ∨ 6 < x0.toInt) := c_1
  refine PP.ite (fun c_5 => ?_) (fun c_5 => ?_)
  · skip
    unfold mb_product_64
    refine PP.ret ?_
    exact KX.rf
  refine PP.ite (fun c_6 => ?_) (fun c_6 => ?_)
  · skip
    unfold mb_product_68
    refine PP.ret ?_
    exact KX.rf
  refine PP.ite (fun c_7 => ?_) (fun c_7 => ?_)
  · skip
    unfold mb_product_77
    refine PP.ret ?_
    exact KX.rf
  refine PP.ite (fun c_8 => ?_) (fun c_8 => ?_)
  · skip
    unfold mb_product_86
    refine PP.ret ?_
    exact KX.rf
  refine PP.ite (fun c_9 => ?_) (fun c_9 => ?_)
  · skip
    unfold mb_product_96
    refine PP.bind (mw_over x1 x2 F G) ?_
    intro r10 F10 G10 hK10
    dsimp only
    unfold mb_product_101
    refine PP.ret ?_
    exact (KX.tr KX.rf hK10 rfl rfl)
  refine PP.ite (fun c_11 => ?_) (fun c_11 => ?_)
  · skip
    unfold mb_product_102
    refine PP.ite (fun c_12 => ?_) (fun c_12 => ?_)
    · skip
      unfold mb_product_106
      exact mwj_product_116 (-1 : Int32) F G KX.rf
    · skip
      unfold mb_product_110
      refine PP.nz (fun _ => ?_)
      exact mwj_product_116 ((((x1.toInt64) &&& (4294967295 : Int64)) / ((x2.toInt64) &&& (4294967295 : Int64))).toInt32) F G KX.rf
  unfold mb_product_117
  refine PP.bind (mw_rest x1 x2 F G) ?_
  intro r13 F13 G13 hK13
  dsimp only
  unfold mb_product_122
  refine PP.ret ?_
  exact (KX.tr KX.rf hK13 rfl rfl)
theorem mwj_both_191 {fu : Nat} {F0 : PF} {G0 : PG} (x6 : Int32) (z0 : Int32) (z1 : Int32) (F : PF) (G : PG) (hK : KX [96] [95] F0 G0 F G) : PP (mb_both_191 fu x6 z0 z1 F G) (fun _ F' G' => KX [96] [95] F0 G0 F' G') := by
  unfold mb_both_191
  refine PP.bind (mw_gives z1 z0 F G) ?_
  intro r1 F1 G1 hK1
  dsimp only
  unfold mb_both_194
  refine PP.bind (mw_goesOn (x6 + (4 : Int32)) F1 G1) ?_
  intro r2 F2 G2 hK2
  dsimp only
  unfold mb_both_202
  refine PP.ret ?_
  exact (KX.tr (KX.tr hK hK1 rfl rfl) hK2 rfl rfl)
theorem mwj_both_26 {fu : Nat} {F0 : PF} {G0 : PG} (x1 : Int32) (x2 : Int32) (x3 : Int32) (x4 : Int32) (x5 : Int32) (x6 : Int32) (F : PF) (G : PG) (hK : KX [96] [95] F0 G0 F G) : PP (mb_both_26 fu x1 x2 x3 x4 x5 x6 F G) (fun _ F' G' => KX [96] [95] F0 G0 F' G') := by
  unfold mb_both_26
  refine PP.ite (fun c_1 => ?_) (fun c_1 => ?_)
  · skip
    unfold mb_both_33
    refine PP.bind (mw_product x1 x4 x5 F G) ?_
    intro r2 F2 G2 hK2
    dsimp only
    unfold mb_both_41
    exact mwj_both_191 x6 r2 x3 F2 G2 (KX.tr hK hK2 rfl rfl)
  · skip
    unfold mb_both_44
    refine PP.ite (fun c_3 => ?_) (fun c_3 => ?_)
    · skip
      unfold mb_both_50
      refine PP.ite (fun c_4 => ?_) (fun c_4 => ?_)
      · skip
        unfold mb_both_54
        exact mwj_both_191 x6 (x4 - x5) x3 F G hK
      · skip
        unfold mb_both_62
        exact mwj_both_191 x6 (x4 >>> ((x5 &&& (31 : Int32)) &&& 31)) x3 F G hK
    · skip
      unfold mb_both_73
      refine PP.ite (fun c_5 => ?_) (fun c_5 => ?_)
      · skip
        unfold mb_both_77
        exact mwj_both_191 x6 (x4 + x5) x3 F G hK
      · skip
        unfold mb_both_85
        refine PP.ite (fun c_6 => ?_) (fun c_6 => ?_)
        · skip
          unfold mb_both_90
          exact mwj_both_191 x6 (x4 <<< ((x5 &&& (31 : Int32)) &&& 31)) x3 F G hK
        · skip
          unfold mb_both_101
          refine PP.ite (fun c_7 => ?_) (fun c_7 => ?_)
          · skip
            unfold mb_both_106
            refine PP.bind (mw_doing (36 : Int32) x4 x5 F G) ?_
            intro r8 F8 G8 hK8
            dsimp only
            unfold mb_both_115
            exact mwj_both_191 x6 r8 x3 F8 G8 (KX.tr hK hK8 rfl rfl)
          · skip
            unfold mb_both_118
            refine PP.ite (fun c_9 => ?_) (fun c_9 => ?_)
            · skip
              unfold mb_both_123
              refine PP.bind (mw_doing (36 : Int32) (x4 + (-2147483648 : Int32)) (x5 + (-2147483648 : Int32)) F G) ?_
              intro r10 F10 G10 hK10
              dsimp only
              unfold mb_both_140
              exact mwj_both_191 x6 r10 x3 F10 G10 (KX.tr hK hK10 rfl rfl)
            · skip
              unfold mb_both_143
              refine PP.ite (fun c_11 => ?_) (fun c_11 => ?_)
              · skip
                unfold mb_both_148
                exact mwj_both_191 x6 (x4 ^^^ x5) x3 F G hK
              · skip
                unfold mb_both_156
                refine PP.ite (fun c_12 => ?_) (fun c_12 => ?_)
                · skip
                  unfold mb_both_161
                  exact mwj_both_191 x6 ((x4.toUInt32 >>> ((x5 &&& (31 : Int32)).toUInt32 &&& Int32.toUInt32 31)).toInt32) x3 F G hK
                · skip
                  unfold mb_both_172
                  refine PP.ite (fun c_13 => ?_) (fun c_13 => ?_)
                  · skip
                    unfold mb_both_178
                    exact mwj_both_191 x6 (x4 ||| x5) x3 F G hK
                  · skip
                    unfold mb_both_186
                    exact mwj_both_191 x6 (x4 &&& x5) x3 F G hK
theorem mwj_both_24 {fu : Nat} {F0 : PF} {G0 : PG} (F : PF) (G : PG) (hK : KX [96] [95] F0 G0 F G) : PP (mb_both_24 fu F G) (fun _ F' G' => KX [96] [95] F0 G0 F' G') := by
  unfold mb_both_24
  refine PP.ret ?_
  exact hK
theorem mw_both {fu : Nat} (x1 : Int32) (x2 : Int32) (x3 : Int32) (x4 : Int32) (x5 : Int32) (x6 : Int32) (F : PF) (G : PG) : PP (mf_both fu x1 x2 x3 x4 x5 x6 F G) (fun _ F' G' => KX [96] [95] F G F' G') := by
  unfold mf_both
  unfold mb_both_0
  refine PP.ite (fun c_1 => ?_) (fun c_1 => ?_)
  · skip
    exact mwj_both_26 x1 x2 x3 x4 x5 x6 F G KX.rf
  · skip
    unfold mb_both_4
    refine PP.ite (fun c_2 => ?_) (fun c_2 => ?_)
    · skip
      exact mwj_both_26 x1 x2 x3 x4 x5 x6 F G KX.rf
    · skip
      unfold mb_both_9
      refine PP.ite (fun c_3 => ?_) (fun c_3 => ?_)
      · skip
        unfold mb_both_15
        refine PP.ite (fun c_4 => ?_) (fun c_4 => ?_)
        · skip
          exact mwj_both_26 x1 x2 x3 x4 x5 x6 F G KX.rf
        · skip
          unfold mb_both_19
          refine PP.ite (fun c_5 => ?_) (fun c_5 => ?_)
          · skip
            exact mwj_both_26 x1 x2 x3 x4 x5 x6 F G KX.rf
          · skip
            exact mwj_both_24 F G KX.rf
      · skip
        exact mwj_both_24 F G KX.rf
theorem mw_byteAt {fu : Nat} (x1 : Int32) (F : PF) (G : PG) : PP (mf_byteAt fu x1 F G) (fun _ F' G' => KX [] [] F G F' G') := by
  unfold mf_byteAt
  unfold mb_byteAt_0
  refine PP.ix (fun _ => ?_)
  refine PP.ret ?_
  exact KX.rf
theorem mwj_loads_10 {fu : Nat} {F0 : PF} {G0 : PG} (F : PF) (G : PG) (hK : KX [96] [95] F0 G0 F G) : PP (mb_loads_10 fu F G) (fun _ F' G' => KX [96] [95] F0 G0 F' G') := by
  unfold mb_loads_10
  refine PP.ret ?_
  exact hK
theorem mwj_loads_116 {fu : Nat} {F0 : PF} {G0 : PG} (x4 : Int32) (z0 : Int32) (z1 : Int32) (F : PF) (G : PG) (hK : KX [96] [95] F0 G0 F G) : PP (mb_loads_116 fu x4 z0 z1 F G) (fun _ F' G' => KX [96] [95] F0 G0 F' G') := by
  unfold mb_loads_116
  refine PP.bind (mw_gives z1 z0 F G) ?_
  intro r1 F1 G1 hK1
  dsimp only
  unfold mb_loads_119
  refine PP.bind (mw_goesOn (x4 + (4 : Int32)) F1 G1) ?_
  intro r2 F2 G2 hK2
  dsimp only
  unfold mb_loads_127
  refine PP.ret ?_
  exact (KX.tr (KX.tr hK hK1 rfl rfl) hK2 rfl rfl)
theorem mwz_loads_64 {fu : Nat} {F0 : PF} {G0 : PG} : ∀ (n : Nat) (x1 : Int32) (x2 : Int32) (x3 : Int32) (x4 : Int32) (x6 : Int32) (x7 : Int32) (F : PF) (G : PG) (hK : KX [96] [95] F0 G0 F G), PP (ml_loads_64 fu n x1 x2 x3 x4 x6 x7 F G) (fun _ F' G' => KX [96] [95] F0 G0 F' G') := by
  intro n
  induction n with
  | zero =>
    intro x1 x2 x3 x4 x6 x7 F G hK
    exact PP.no
  | succ n ihn =>
    intro x1 x2 x3 x4 x6 x7 F G hK
    show PP (mb_loads_64 fu (ml_loads_64 fu n) x1 x2 x3 x4 x6 x7 F G) _
    unfold mb_loads_64
    refine PP.ite (fun c_1 => ?_) (fun c_1 => ?_)
    · skip
      unfold mb_loads_91
      refine PP.ite (fun c_2 => ?_) (fun c_2 => ?_)
      · skip
        unfold mb_loads_97
        exact mwj_loads_116 x4 (x6.toInt8.toInt32) x2 F G hK
      · skip
        unfold mb_loads_103
        refine PP.ite (fun c_3 => ?_) (fun c_3 => ?_)
        · skip
          unfold mb_loads_108
          exact mwj_loads_116 x4 (x6.toInt16.toInt32) x2 F G hK
        · skip
          unfold mb_loads_114
          exact mwj_loads_116 x4 x6 x2 F G hK
    · skip
      unfold mb_loads_69
      refine PP.bind (mw_byteAt (x3 + x7) F G) ?_
      intro r4 F4 G4 hK4
      dsimp only
      unfold mb_loads_82
      exact ihn x1 x2 x3 x4 ((x6 <<< ((8 : Int32) &&& 31)) ||| r4) (x7 + (-1 : Int32)) F4 G4 (KX.tr hK hK4 rfl rfl)
theorem mwj_loads_33 {fu : Nat} {F0 : PF} {G0 : PG} (x1 : Int32) (x2 : Int32) (x3 : Int32) (x4 : Int32) (z0 : Int32) (F : PF) (G : PG) (hK : KX [96] [95] F0 G0 F G) : PP (mb_loads_33 fu x1 x2 x3 x4 z0 F G) (fun _ F' G' => KX [96] [95] F0 G0 F' G') := by
  unfold mb_loads_33
  refine PP.ite (fun c_1 => ?_) (fun c_1 => ?_)
  · skip
    unfold mb_loads_46
    refine PP.bind (mw_isOut x3 F G) ?_
    intro r2 F2 G2 hK2
    dsimp only
    unfold mb_loads_50
    refine PP.ite (fun c_3 => ?_) (fun c_3 => ?_)
    · skip
      unfold mb_loads_55
      exact mwz_loads_64 fu x1 x2 x3 x4 (0 : Int32) (z0 - (1 : Int32)) F2 G2 (KX.tr hK hK2 rfl rfl)
    · skip
      unfold mb_loads_53
      refine PP.ret ?_
      exact (KX.tr hK hK2 rfl rfl)
  · skip
    unfold mb_loads_44
    refine PP.ret ?_
    exact hK
theorem mw_loads {fu : Nat} (x1 : Int32) (x2 : Int32) (x3 : Int32) (x4 : Int32) (F : PF) (G : PG) : PP (mf_loads fu x1 x2 x3 x4 F G) (fun _ F' G' => KX [96] [95] F G F' G') := by
  unfold mf_loads
  unfold mb_loads_0
  refine PP.ite (fun c_1 => ?_) (fun c_1 => ?_)
  · skip
    exact mwj_loads_10 F G KX.rf
  · skip
    unfold mb_loads_5
    refine PP.ite (fun c_2 => ?_) (fun c_2 => ?_)
    · skip
      unfold mb_loads_12
      refine PP.ite (fun c_3 => ?_) (fun c_3 => ?_)
      · skip
        unfold mb_loads_17
        exact mwj_loads_33 x1 x2 x3 x4 (4 : Int32) F G KX.rf
      · skip
        unfold mb_loads_21
        refine PP.ite (fun c_4 => ?_) (fun c_4 => ?_)
        · skip
          unfold mb_loads_28
          exact mwj_loads_33 x1 x2 x3 x4 (2 : Int32) F G KX.rf
        · skip
          unfold mb_loads_32
          exact mwj_loads_33 x1 x2 x3 x4 (1 : Int32) F G KX.rf
    · skip
      exact mwj_loads_10 F G KX.rf
theorem mwj_immediate_179 {fu : Nat} {F0 : PF} {G0 : PG} (x3 : Int32) (x7 : Int32) (x8 : Int32) (F : PF) (G : PG) (hK : KX [96] [95] F0 G0 F G) : PP (mb_immediate_179 fu x3 x7 x8 F G) (fun _ F' G' => KX [96] [95] F0 G0 F' G') := by
  unfold mb_immediate_179
  refine PP.bind (mw_gives x3 x8 F G) ?_
  intro r1 F1 G1 hK1
  dsimp only
  unfold mb_immediate_186
  refine PP.bind (mw_goesOn (x7 + (4 : Int32)) F1 G1) ?_
  intro r2 F2 G2 hK2
  dsimp only
  unfold mb_immediate_194
  refine PP.ret ?_
  exact (KX.tr (KX.tr hK hK1 rfl rfl) hK2 rfl rfl)
theorem mwj_immediate_100 {fu : Nat} {F0 : PF} {G0 : PG} (x3 : Int32) (x7 : Int32) (z0 : Int32) (F : PF) (G : PG) (hK : KX [96] [95] F0 G0 F G) : PP (mb_immediate_100 fu x3 x7 z0 F G) (fun _ F' G' => KX [96] [95] F0 G0 F' G') := by
  unfold mb_immediate_100
  exact mwj_immediate_179 x3 x7 z0 F G hK
theorem mwj_immediate_125 {fu : Nat} {F0 : PF} {G0 : PG} (x3 : Int32) (x7 : Int32) (z0 : Int32) (F : PF) (G : PG) (hK : KX [96] [95] F0 G0 F G) : PP (mb_immediate_125 fu x3 x7 z0 F G) (fun _ F' G' => KX [96] [95] F0 G0 F' G') := by
  unfold mb_immediate_125
  exact mwj_immediate_179 x3 x7 z0 F G hK
theorem mwj_immediate_157 {fu : Nat} {F0 : PF} {G0 : PG} (x3 : Int32) (x7 : Int32) (z0 : Int32) (F : PF) (G : PG) (hK : KX [96] [95] F0 G0 F G) : PP (mb_immediate_157 fu x3 x7 z0 F G) (fun _ F' G' => KX [96] [95] F0 G0 F' G') := by
  unfold mb_immediate_157
  exact mwj_immediate_179 x3 x7 z0 F G hK
theorem mwj_immediate_26 {fu : Nat} {F0 : PF} {G0 : PG} (x1 : Int32) (x2 : Int32) (x3 : Int32) (x4 : Int32) (x5 : Int32) (x6 : Int32) (x7 : Int32) (F : PF) (G : PG) (hK : KX [96] [95] F0 G0 F G) : PP (mb_immediate_26 fu x1 x2 x3 x4 x5 x6 x7 F G) (fun _ F' G' => KX [96] [95] F0 G0 F' G') := by
  unfold mb_immediate_26
  refine PP.ite (fun c_1 => ?_) (fun c_1 => ?_)
  · have e_2 : x1.toInt < 0 ∨ 6 < x1.toInt := c_1
    unfold mb_immediate_172
    exact mwj_immediate_179 x3 x7 (x4 &&& x5) F G hK
  have e_3 : ¬ (x1.toInt < 0 ∨ 6 < x1.toInt) := c_1
  refine PP.ite (fun c_4 => ?_) (fun c_4 => ?_)
  · skip
    unfold mb_immediate_68
    exact mwj_immediate_179 x3 x7 (x4 + x5) F G hK
  refine PP.ite (fun c_5 => ?_) (fun c_5 => ?_)
  · skip
    unfold mb_immediate_78
    exact mwj_immediate_179 x3 x7 (x4 <<< (x6 &&& 31)) F G hK
  refine PP.ite (fun c_6 => ?_) (fun c_6 => ?_)
  · skip
    unfold mb_immediate_88
    refine PP.ite (fun c_7 => ?_) (fun c_7 => ?_)
    · skip
      unfold mb_immediate_99
      exact mwj_immediate_100 x3 x7 (0 : Int32) F G hK
    · skip
      unfold mb_immediate_95
      exact mwj_immediate_100 x3 x7 (1 : Int32) F G hK
  refine PP.ite (fun c_8 => ?_) (fun c_8 => ?_)
  · skip
    unfold mb_immediate_105
    refine PP.ite (fun c_9 => ?_) (fun c_9 => ?_)
    · skip
      unfold mb_immediate_124
      exact mwj_immediate_125 x3 x7 (0 : Int32) F G hK
    · skip
      unfold mb_immediate_120
      exact mwj_immediate_125 x3 x7 (1 : Int32) F G hK
  refine PP.ite (fun c_10 => ?_) (fun c_10 => ?_)
  · skip
    unfold mb_immediate_130
    exact mwj_immediate_179 x3 x7 (x4 ^^^ x5) F G hK
  refine PP.ite (fun c_11 => ?_) (fun c_11 => ?_)
  · skip
    unfold mb_immediate_140
    refine PP.ite (fun c_12 => ?_) (fun c_12 => ?_)
    · skip
      unfold mb_immediate_144
      exact mwj_immediate_157 x3 x7 ((x4.toUInt32 >>> (x6.toUInt32 &&& Int32.toUInt32 31)).toInt32) F G hK
    · skip
      unfold mb_immediate_152
      exact mwj_immediate_157 x3 x7 (x4 >>> (x6 &&& 31)) F G hK
  unfold mb_immediate_162
  exact mwj_immediate_179 x3 x7 (x4 ||| x5) F G hK
theorem mwj_immediate_24 {fu : Nat} {F0 : PF} {G0 : PG} (F : PF) (G : PG) (hK : KX [96] [95] F0 G0 F G) : PP (mb_immediate_24 fu F G) (fun _ F' G' => KX [96] [95] F0 G0 F' G') := by
  unfold mb_immediate_24
  refine PP.ret ?_
  exact hK
theorem mwj_immediate_9 {fu : Nat} {F0 : PF} {G0 : PG} (x1 : Int32) (x2 : Int32) (x3 : Int32) (x4 : Int32) (x5 : Int32) (x6 : Int32) (x7 : Int32) (F : PF) (G : PG) (hK : KX [96] [95] F0 G0 F G) : PP (mb_immediate_9 fu x1 x2 x3 x4 x5 x6 x7 F G) (fun _ F' G' => KX [96] [95] F0 G0 F' G') := by
  unfold mb_immediate_9
  refine PP.ite (fun c_1 => ?_) (fun c_1 => ?_)
  · skip
    unfold mb_immediate_14
    refine PP.ite (fun c_2 => ?_) (fun c_2 => ?_)
    · skip
      exact mwj_immediate_26 x1 x2 x3 x4 x5 x6 x7 F G hK
    · skip
      unfold mb_immediate_18
      refine PP.ite (fun c_3 => ?_) (fun c_3 => ?_)
      · skip
        exact mwj_immediate_26 x1 x2 x3 x4 x5 x6 x7 F G hK
      · skip
        exact mwj_immediate_24 F G hK
  · skip
    exact mwj_immediate_26 x1 x2 x3 x4 x5 x6 x7 F G hK
theorem mw_immediate {fu : Nat} (x1 : Int32) (x2 : Int32) (x3 : Int32) (x4 : Int32) (x5 : Int32) (x6 : Int32) (x7 : Int32) (F : PF) (G : PG) : PP (mf_immediate fu x1 x2 x3 x4 x5 x6 x7 F G) (fun _ F' G' => KX [96] [95] F G F' G') := by
  unfold mf_immediate
  unfold mb_immediate_0
  refine PP.ite (fun c_1 => ?_) (fun c_1 => ?_)
  · skip
    unfold mb_immediate_5
    refine PP.ite (fun c_2 => ?_) (fun c_2 => ?_)
    · skip
      exact mwj_immediate_9 x1 x2 x3 x4 x5 x6 x7 F G KX.rf
    · skip
      exact mwj_immediate_24 F G KX.rf
  · skip
    exact mwj_immediate_9 x1 x2 x3 x4 x5 x6 x7 F G KX.rf
theorem mwj_branches_10 {fu : Nat} {F0 : PF} {G0 : PG} (F : PF) (G : PG) (hK : KX [96] [95] F0 G0 F G) : PP (mb_branches_10 fu F G) (fun _ F' G' => KX [96] [95] F0 G0 F' G') := by
  unfold mb_branches_10
  refine PP.ret ?_
  exact hK
theorem mwj_branches_131 {fu : Nat} {F0 : PF} {G0 : PG} (z0 : Int32) (F : PF) (G : PG) (hK : KX [96] [95] F0 G0 F G) : PP (mb_branches_131 fu z0 F G) (fun _ F' G' => KX [96] [95] F0 G0 F' G') := by
  unfold mb_branches_131
  refine PP.ret ?_
  exact hK
theorem mwj_branches_98 {fu : Nat} {F0 : PF} {G0 : PG} (x4 : Int32) (x5 : Int32) (z0 : Int32) (F : PF) (G : PG) (hK : KX [96] [95] F0 G0 F G) : PP (mb_branches_98 fu x4 x5 z0 F G) (fun _ F' G' => KX [96] [95] F0 G0 F' G') := by
  unfold mb_branches_98
  refine PP.ite (fun c_1 => ?_) (fun c_1 => ?_)
  · skip
    unfold mb_branches_105
    refine PP.bind (mw_goesOn (x5 + (4 : Int32)) F G) ?_
    intro r2 F2 G2 hK2
    dsimp only
    unfold mb_branches_113
    refine PP.ret ?_
    exact (KX.tr hK hK2 rfl rfl)
  · skip
    unfold mb_branches_114
    refine PP.ite (fun c_3 => ?_) (fun c_3 => ?_)
    · skip
      unfold mb_branches_125
      refine PP.bind (mw_goesOn x4 F G) ?_
      intro r4 F4 G4 hK4
      dsimp only
      exact mwj_branches_131 r4 F4 G4 (KX.tr hK hK4 rfl rfl)
    · skip
      unfold mb_branches_121
      exact mwj_branches_131 (3 : Int32) F G hK
theorem mwj_branches_75 {fu : Nat} {F0 : PF} {G0 : PG} (x1 : Int32) (x4 : Int32) (x5 : Int32) (z0 : Int32) (F : PF) (G : PG) (hK : KX [96] [95] F0 G0 F G) : PP (mb_branches_75 fu x1 x4 x5 z0 F G) (fun _ F' G' => KX [96] [95] F0 G0 F' G') := by
  unfold mb_branches_75
  refine PP.ite (fun c_1 => ?_) (fun c_1 => ?_)
  · skip
    unfold mb_branches_83
    exact mwj_branches_98 x4 x5 z0 F G hK
  · skip
    unfold mb_branches_88
    refine PP.ite (fun c_2 => ?_) (fun c_2 => ?_)
    · skip
      unfold mb_branches_93
      exact mwj_branches_98 x4 x5 (1 : Int32) F G hK
    · skip
      unfold mb_branches_97
      exact mwj_branches_98 x4 x5 (0 : Int32) F G hK
theorem mw_branches {fu : Nat} (x1 : Int32) (x2 : Int32) (x3 : Int32) (x4 : Int32) (x5 : Int32) (F : PF) (G : PG) : PP (mf_branches fu x1 x2 x3 x4 x5 F G) (fun _ F' G' => KX [96] [95] F G F' G') := by
  unfold mf_branches
  unfold mb_branches_0
  refine PP.ite (fun c_1 => ?_) (fun c_1 => ?_)
  · skip
    exact mwj_branches_10 F G KX.rf
  · skip
    unfold mb_branches_5
    refine PP.ite (fun c_2 => ?_) (fun c_2 => ?_)
    · skip
      exact mwj_branches_10 F G KX.rf
    · skip
      unfold mb_branches_12
      refine PP.ite (fun c_3 => ?_) (fun c_3 => ?_)
      · skip
        unfold mb_branches_44
        refine PP.ite (fun c_4 => ?_) (fun c_4 => ?_)
        · skip
          unfold mb_branches_63
          refine PP.ite (fun c_5 => ?_) (fun c_5 => ?_)
          · skip
            unfold mb_branches_74
            exact mwj_branches_75 x1 x4 x5 (0 : Int32) F G KX.rf
          · skip
            unfold mb_branches_70
            exact mwj_branches_75 x1 x4 x5 (1 : Int32) F G KX.rf
        · skip
          unfold mb_branches_50
          refine PP.ite (fun c_6 => ?_) (fun c_6 => ?_)
          · skip
            unfold mb_branches_59
            exact mwj_branches_75 x1 x4 x5 (0 : Int32) F G KX.rf
          · skip
            unfold mb_branches_55
            exact mwj_branches_75 x1 x4 x5 (1 : Int32) F G KX.rf
      · skip
        unfold mb_branches_31
        refine PP.ite (fun c_7 => ?_) (fun c_7 => ?_)
        · skip
          unfold mb_branches_36
          exact mwj_branches_75 x1 x4 x5 (1 : Int32) F G KX.rf
        · skip
          unfold mb_branches_40
          exact mwj_branches_75 x1 x4 x5 (0 : Int32) F G KX.rf
theorem mwj_oneWord_445 {fu : Nat} {F0 : PF} {G0 : PG} (z0 : Int32) (F : PF) (G : PG) (hK : KX [96] [94, 95] F0 G0 F G) : PP (mb_oneWord_445 fu z0 F G) (fun _ F' G' => KX [96] [94, 95] F0 G0 F' G') := by
  unfold mb_oneWord_445
  refine PP.ret ?_
  exact hK
theorem mwj_oneWord_303 {fu : Nat} {F0 : PF} {G0 : PG} (z0 : Int32) (F : PF) (G : PG) (hK : KX [96] [94, 95] F0 G0 F G) : PP (mb_oneWord_303 fu z0 F G) (fun _ F' G' => KX [96] [94, 95] F0 G0 F' G') := by
  unfold mb_oneWord_303
  refine PP.ret ?_
  exact hK
theorem mwj_oneWord_481 {fu : Nat} {F0 : PF} {G0 : PG} (z0 : Int32) (z1 : Int32) (F : PF) (G : PG) (hK : KX [96] [94, 95] F0 G0 F G) : PP (mb_oneWord_481 fu z0 z1 F G) (fun _ F' G' => KX [96] [94, 95] F0 G0 F' G') := by
  unfold mb_oneWord_481
  refine PP.ret ?_
  exact hK
theorem mwj_oneWord_461 {fu : Nat} {F0 : PF} {G0 : PG} (x1 : Int32) (x2 : Int32) (F : PF) (G : PG) (hK : KX [96] [94, 95] F0 G0 F G) : PP (mb_oneWord_461 fu x1 x2 F G) (fun _ F' G' => KX [96] [94, 95] F0 G0 F' G') := by
  unfold mb_oneWord_461
  refine PP.bind (mw_goesOn (x1 + (4 : Int32)) F G) ?_
  intro r1 F1 G1 hK1
  dsimp only
  unfold mb_oneWord_468
  refine PP.ite (fun c_2 => ?_) (fun c_2 => ?_)
  · skip
    unfold mb_oneWord_474
    exact mwj_oneWord_481 (6 : Int32) r1 F1 G1 (KX.tr hK hK1 rfl rfl)
  · skip
    unfold mb_oneWord_479
    exact mwj_oneWord_481 (7 : Int32) r1 F1 G1 (KX.tr hK hK1 rfl rfl)
theorem mwj_oneWord_21 {fu : Nat} {F0 : PF} {G0 : PG} (F : PF) (G : PG) (hK : KX [96] [94, 95] F0 G0 F G) : PP (mb_oneWord_21 fu F G) (fun _ F' G' => KX [96] [94, 95] F0 G0 F' G') := by
  unfold mb_oneWord_21
  refine PP.ret ?_
  exact hK
theorem mw_oneWord {fu : Nat} (F : PF) (G : PG) : PP (mf_oneWord fu F G) (fun _ F' G' => KX [96] [94, 95] F G F' G') := by
  unfold mf_oneWord
  unfold mb_oneWord_0
  refine PP.ix (fun _ => ?_)
  refine PP.ite (fun c_1 => ?_) (fun c_1 => ?_)
  · skip
    unfold mb_oneWord_14
    refine PP.bind (mw_isOut (G 95 (32 : Int32).toNatClampNeg) F G) ?_
    intro r2 F2 G2 hK2
    dsimp only
    unfold mb_oneWord_18
    refine PP.ite (fun c_3 => ?_) (fun c_3 => ?_)
    · skip
      unfold mb_oneWord_23
      refine PP.ix (fun _ => ?_)
      refine PP.bind (mw_part (G2 94 ((G 95 (32 : Int32).toNatClampNeg) >>> ((2 : Int32) &&& 31)).toNatClampNeg) (7 : Int32) (5 : Int32) F2 G2) ?_
      intro r4 F4 G4 hK4
      dsimp only
      unfold mb_oneWord_39
      refine PP.bind (mw_part (G2 94 ((G 95 (32 : Int32).toNatClampNeg) >>> ((2 : Int32) &&& 31)).toNatClampNeg) (12 : Int32) (3 : Int32) F4 G4) ?_
      intro r5 F5 G5 hK5
      dsimp only
      unfold mb_oneWord_47
      refine PP.bind (mw_part (G2 94 ((G 95 (32 : Int32).toNatClampNeg) >>> ((2 : Int32) &&& 31)).toNatClampNeg) (25 : Int32) (7 : Int32) F5 G5) ?_
      intro r6 F6 G6 hK6
      dsimp only
      unfold mb_oneWord_57
      refine PP.bind (mw_part (G2 94 ((G 95 (32 : Int32).toNatClampNeg) >>> ((2 : Int32) &&& 31)).toNatClampNeg) (15 : Int32) (5 : Int32) F6 G6) ?_
      intro r7 F7 G7 hK7
      dsimp only
      unfold mb_oneWord_70
      refine PP.ix (fun _ => ?_)
      refine PP.bind (mw_part (G2 94 ((G 95 (32 : Int32).toNatClampNeg) >>> ((2 : Int32) &&& 31)).toNatClampNeg) (20 : Int32) (5 : Int32) F7 G7) ?_
      intro r8 F8 G8 hK8
      dsimp only
      unfold mb_oneWord_84
      refine PP.ix (fun _ => ?_)
      refine PP.bind (mw_part (G2 94 ((G 95 (32 : Int32).toNatClampNeg) >>> ((2 : Int32) &&& 31)).toNatClampNeg) (0 : Int32) (7 : Int32) F8 G8) ?_
      intro r9 F9 G9 hK9
      dsimp only
      unfold mb_oneWord_100
      refine PP.ite (fun c_10 => ?_) (fun c_10 => ?_)
      · skip
        unfold mb_oneWord_357
        refine PP.bind (mw_loads r5 r4 ((G7 95 r7.toNatClampNeg) + ((G2 94 ((G 95 (32 : Int32).toNatClampNeg) >>> ((2 : Int32) &&& 31)).toNatClampNeg) >>> ((20 : Int32) &&& 31))) (G 95 (32 : Int32).toNatClampNeg) F9 G9) ?_
        intro r11 F11 G11 hK11
        dsimp only
        unfold mb_oneWord_370
        refine PP.ret ?_
        exact (KX.tr (KX.tr (KX.tr (KX.tr (KX.tr (KX.tr (KX.tr (KX.tr KX.rf hK2 rfl rfl) hK4 rfl rfl) hK5 rfl rfl) hK6 rfl rfl) hK7 rfl rfl) hK8 rfl rfl) hK9 rfl rfl) hK11 rfl rfl)
      refine PP.ite (fun c_12 => ?_) (fun c_12 => ?_)
      · skip
        unfold mb_oneWord_429
        refine PP.ite (fun c_13 => ?_) (fun c_13 => ?_)
        · skip
          unfold mb_oneWord_434
          refine PP.bind (mw_goesOn ((G 95 (32 : Int32).toNatClampNeg) + (4 : Int32)) F9 G9) ?_
          intro r14 F14 G14 hK14
          dsimp only
          unfold mb_oneWord_441
          exact mwj_oneWord_445 r14 F14 G14 (KX.tr (KX.tr (KX.tr (KX.tr (KX.tr (KX.tr (KX.tr (KX.tr KX.rf hK2 rfl rfl) hK4 rfl rfl) hK5 rfl rfl) hK6 rfl rfl) hK7 rfl rfl) hK8 rfl rfl) hK9 rfl rfl) hK14 rfl rfl)
        · skip
          unfold mb_oneWord_444
          exact mwj_oneWord_445 (2 : Int32) F9 G9 (KX.tr (KX.tr (KX.tr (KX.tr (KX.tr (KX.tr (KX.tr KX.rf hK2 rfl rfl) hK4 rfl rfl) hK5 rfl rfl) hK6 rfl rfl) hK7 rfl rfl) hK8 rfl rfl) hK9 rfl rfl)
      refine PP.ite (fun c_15 => ?_) (fun c_15 => ?_)
      · skip
        unfold mb_oneWord_392
        refine PP.bind (mw_part (G2 94 ((G 95 (32 : Int32).toNatClampNeg) >>> ((2 : Int32) &&& 31)).toNatClampNeg) (20 : Int32) (5 : Int32) F9 G9) ?_
        intro r16 F16 G16 hK16
        dsimp only
        unfold mb_oneWord_409
        refine PP.bind (mw_immediate r5 r6 r4 (G7 95 r7.toNatClampNeg) ((G2 94 ((G 95 (32 : Int32).toNatClampNeg) >>> ((2 : Int32) &&& 31)).toNatClampNeg) >>> ((20 : Int32) &&& 31)) r16 (G 95 (32 : Int32).toNatClampNeg) F16 G16) ?_
        intro r17 F17 G17 hK17
        dsimp only
        unfold mb_oneWord_413
        refine PP.ret ?_
        exact (KX.tr (KX.tr (KX.tr (KX.tr (KX.tr (KX.tr (KX.tr (KX.tr (KX.tr KX.rf hK2 rfl rfl) hK4 rfl rfl) hK5 rfl rfl) hK6 rfl rfl) hK7 rfl rfl) hK8 rfl rfl) hK9 rfl rfl) hK16 rfl rfl) hK17 rfl rfl)
      refine PP.ite (fun c_18 => ?_) (fun c_18 => ?_)
      · skip
        unfold mb_oneWord_210
        refine PP.bind (mw_gives r4 ((G 95 (32 : Int32).toNatClampNeg) + ((G2 94 ((G 95 (32 : Int32).toNatClampNeg) >>> ((2 : Int32) &&& 31)).toNatClampNeg) &&& (-4096 : Int32))) F9 G9) ?_
        intro r19 F19 G19 hK19
        dsimp only
        unfold mb_oneWord_222
        refine PP.bind (mw_goesOn ((G 95 (32 : Int32).toNatClampNeg) + (4 : Int32)) F19 G19) ?_
        intro r20 F20 G20 hK20
        dsimp only
        unfold mb_oneWord_229
        refine PP.ret ?_
        exact (KX.tr (KX.tr (KX.tr (KX.tr (KX.tr (KX.tr (KX.tr (KX.tr (KX.tr KX.rf hK2 rfl rfl) hK4 rfl rfl) hK5 rfl rfl) hK6 rfl rfl) hK7 rfl rfl) hK8 rfl rfl) hK9 rfl rfl) hK19 rfl rfl) hK20 rfl rfl)
      refine PP.ite (fun c_21 => ?_) (fun c_21 => ?_)
      · skip
        unfold mb_oneWord_371
        refine PP.bind (mw_stores r5 ((G7 95 r7.toNatClampNeg) + ((((G2 94 ((G 95 (32 : Int32).toNatClampNeg) >>> ((2 : Int32) &&& 31)).toNatClampNeg) >>> ((25 : Int32) &&& 31)) <<< ((5 : Int32) &&& 31)) ||| r4)) (G8 95 r8.toNatClampNeg) (G 95 (32 : Int32).toNatClampNeg) F9 G9) ?_
        intro r22 F22 G22 hK22
        dsimp only
        unfold mb_oneWord_391
        refine PP.ret ?_
        exact (KX.tr (KX.tr (KX.tr (KX.tr (KX.tr (KX.tr (KX.tr (KX.tr KX.rf hK2 rfl rfl) hK4 rfl rfl) hK5 rfl rfl) hK6 rfl rfl) hK7 rfl rfl) hK8 rfl rfl) hK9 rfl rfl) hK22 rfl rfl)
      refine PP.ite (fun c_23 => ?_) (fun c_23 => ?_)
      · skip
        unfold mb_oneWord_414
        refine PP.bind (mw_both r5 r6 r4 (G7 95 r7.toNatClampNeg) (G8 95 r8.toNatClampNeg) (G 95 (32 : Int32).toNatClampNeg) F9 G9) ?_
        intro r24 F24 G24 hK24
        dsimp only
        unfold mb_oneWord_428
        refine PP.ret ?_
        exact (KX.tr (KX.tr (KX.tr (KX.tr (KX.tr (KX.tr (KX.tr (KX.tr KX.rf hK2 rfl rfl) hK4 rfl rfl) hK5 rfl rfl) hK6 rfl rfl) hK7 rfl rfl) hK8 rfl rfl) hK9 rfl rfl) hK24 rfl rfl)
      refine PP.ite (fun c_25 => ?_) (fun c_25 => ?_)
      · skip
        unfold mb_oneWord_192
        refine PP.bind (mw_gives r4 ((G2 94 ((G 95 (32 : Int32).toNatClampNeg) >>> ((2 : Int32) &&& 31)).toNatClampNeg) &&& (-4096 : Int32)) F9 G9) ?_
        intro r26 F26 G26 hK26
        dsimp only
        unfold mb_oneWord_202
        refine PP.bind (mw_goesOn ((G 95 (32 : Int32).toNatClampNeg) + (4 : Int32)) F26 G26) ?_
        intro r27 F27 G27 hK27
        dsimp only
        unfold mb_oneWord_209
        refine PP.ret ?_
        exact (KX.tr (KX.tr (KX.tr (KX.tr (KX.tr (KX.tr (KX.tr (KX.tr (KX.tr KX.rf hK2 rfl rfl) hK4 rfl rfl) hK5 rfl rfl) hK6 rfl rfl) hK7 rfl rfl) hK8 rfl rfl) hK9 rfl rfl) hK26 rfl rfl) hK27 rfl rfl)
      refine PP.ite (fun c_28 => ?_) (fun c_28 => ?_)
      · skip
        unfold mb_oneWord_304
        refine PP.bind (mw_part (G2 94 ((G 95 (32 : Int32).toNatClampNeg) >>> ((2 : Int32) &&& 31)).toNatClampNeg) (7 : Int32) (1 : Int32) F9 G9) ?_
        intro r29 F29 G29 hK29
        dsimp only
        unfold mb_oneWord_326
        refine PP.bind (mw_part (G2 94 ((G 95 (32 : Int32).toNatClampNeg) >>> ((2 : Int32) &&& 31)).toNatClampNeg) (25 : Int32) (6 : Int32) F29 G29) ?_
        intro r30 F30 G30 hK30
        dsimp only
        unfold mb_oneWord_338
        refine PP.bind (mw_part (G2 94 ((G 95 (32 : Int32).toNatClampNeg) >>> ((2 : Int32) &&& 31)).toNatClampNeg) (8 : Int32) (4 : Int32) F30 G30) ?_
        intro r31 F31 G31 hK31
        dsimp only
        unfold mb_oneWord_348
        refine PP.bind (mw_branches r5 (G7 95 r7.toNatClampNeg) (G8 95 r8.toNatClampNeg) ((G 95 (32 : Int32).toNatClampNeg) + ((((((G2 94 ((G 95 (32 : Int32).toNatClampNeg) >>> ((2 : Int32) &&& 31)).toNatClampNeg) >>> ((31 : Int32) &&& 31)) <<< ((12 : Int32) &&& 31)) ||| (r29 <<< ((11 : Int32) &&& 31))) ||| (r30 <<< ((5 : Int32) &&& 31))) ||| (r31 <<< ((1 : Int32) &&& 31)))) (G 95 (32 : Int32).toNatClampNeg) F31 G31) ?_
        intro r32 F32 G32 hK32
        dsimp only
        unfold mb_oneWord_356
        refine PP.ret ?_
        exact (KX.tr (KX.tr (KX.tr (KX.tr (KX.tr (KX.tr (KX.tr (KX.tr (KX.tr (KX.tr (KX.tr KX.rf hK2 rfl rfl) hK4 rfl rfl) hK5 rfl rfl) hK6 rfl rfl) hK7 rfl rfl) hK8 rfl rfl) hK9 rfl rfl) hK29 rfl rfl) hK30 rfl rfl) hK31 rfl rfl) hK32 rfl rfl)
      refine PP.ite (fun c_33 => ?_) (fun c_33 => ?_)
      · skip
        unfold mb_oneWord_280
        refine PP.ite (fun c_34 => ?_) (fun c_34 => ?_)
        · skip
          unfold mb_oneWord_285
          refine PP.bind (mw_jumps r4 (((G7 95 r7.toNatClampNeg) + ((G2 94 ((G 95 (32 : Int32).toNatClampNeg) >>> ((2 : Int32) &&& 31)).toNatClampNeg) >>> ((20 : Int32) &&& 31))) &&& (-2 : Int32)) (G 95 (32 : Int32).toNatClampNeg) F9 G9) ?_
          intro r35 F35 G35 hK35
          dsimp only
          unfold mb_oneWord_299
          exact mwj_oneWord_303 r35 F35 G35 (KX.tr (KX.tr (KX.tr (KX.tr (KX.tr (KX.tr (KX.tr (KX.tr KX.rf hK2 rfl rfl) hK4 rfl rfl) hK5 rfl rfl) hK6 rfl rfl) hK7 rfl rfl) hK8 rfl rfl) hK9 rfl rfl) hK35 rfl rfl)
        · skip
          unfold mb_oneWord_302
          exact mwj_oneWord_303 (2 : Int32) F9 G9 (KX.tr (KX.tr (KX.tr (KX.tr (KX.tr (KX.tr (KX.tr KX.rf hK2 rfl rfl) hK4 rfl rfl) hK5 rfl rfl) hK6 rfl rfl) hK7 rfl rfl) hK8 rfl rfl) hK9 rfl rfl)
      refine PP.ite (fun c_36 => ?_) (fun c_36 => ?_)
      · skip
        unfold mb_oneWord_230
        refine PP.bind (mw_part (G2 94 ((G 95 (32 : Int32).toNatClampNeg) >>> ((2 : Int32) &&& 31)).toNatClampNeg) (12 : Int32) (8 : Int32) F9 G9) ?_
        intro r37 F37 G37 hK37
        dsimp only
        unfold mb_oneWord_248
        refine PP.bind (mw_part (G2 94 ((G 95 (32 : Int32).toNatClampNeg) >>> ((2 : Int32) &&& 31)).toNatClampNeg) (20 : Int32) (1 : Int32) F37 G37) ?_
        intro r38 F38 G38 hK38
        dsimp only
        unfold mb_oneWord_259
        refine PP.bind (mw_part (G2 94 ((G 95 (32 : Int32).toNatClampNeg) >>> ((2 : Int32) &&& 31)).toNatClampNeg) (21 : Int32) (10 : Int32) F38 G38) ?_
        intro r39 F39 G39 hK39
        dsimp only
        unfold mb_oneWord_271
        refine PP.bind (mw_jumps r4 ((G 95 (32 : Int32).toNatClampNeg) + ((((((G2 94 ((G 95 (32 : Int32).toNatClampNeg) >>> ((2 : Int32) &&& 31)).toNatClampNeg) >>> ((31 : Int32) &&& 31)) <<< ((20 : Int32) &&& 31)) ||| (r37 <<< ((12 : Int32) &&& 31))) ||| (r38 <<< ((11 : Int32) &&& 31))) ||| (r39 <<< ((1 : Int32) &&& 31)))) (G 95 (32 : Int32).toNatClampNeg) F39 G39) ?_
        intro r40 F40 G40 hK40
        dsimp only
        unfold mb_oneWord_279
        refine PP.ret ?_
        exact (KX.tr (KX.tr (KX.tr (KX.tr (KX.tr (KX.tr (KX.tr (KX.tr (KX.tr (KX.tr (KX.tr KX.rf hK2 rfl rfl) hK4 rfl rfl) hK5 rfl rfl) hK6 rfl rfl) hK7 rfl rfl) hK8 rfl rfl) hK9 rfl rfl) hK37 rfl rfl) hK38 rfl rfl) hK39 rfl rfl) hK40 rfl rfl)
      unfold mb_oneWord_446
      refine PP.ite (fun c_41 => ?_) (fun c_41 => ?_)
      · skip
        exact mwj_oneWord_461 (G 95 (32 : Int32).toNatClampNeg) (G2 94 ((G 95 (32 : Int32).toNatClampNeg) >>> ((2 : Int32) &&& 31)).toNatClampNeg) F9 G9 (KX.tr (KX.tr (KX.tr (KX.tr (KX.tr (KX.tr (KX.tr KX.rf hK2 rfl rfl) hK4 rfl rfl) hK5 rfl rfl) hK6 rfl rfl) hK7 rfl rfl) hK8 rfl rfl) hK9 rfl rfl)
      · skip
        unfold mb_oneWord_452
        refine PP.ite (fun c_42 => ?_) (fun c_42 => ?_)
        · skip
          exact mwj_oneWord_461 (G 95 (32 : Int32).toNatClampNeg) (G2 94 ((G 95 (32 : Int32).toNatClampNeg) >>> ((2 : Int32) &&& 31)).toNatClampNeg) F9 G9 (KX.tr (KX.tr (KX.tr (KX.tr (KX.tr (KX.tr (KX.tr KX.rf hK2 rfl rfl) hK4 rfl rfl) hK5 rfl rfl) hK6 rfl rfl) hK7 rfl rfl) hK8 rfl rfl) hK9 rfl rfl)
        · skip
          unfold mb_oneWord_459
          refine PP.ret ?_
          exact (KX.tr (KX.tr (KX.tr (KX.tr (KX.tr (KX.tr (KX.tr KX.rf hK2 rfl rfl) hK4 rfl rfl) hK5 rfl rfl) hK6 rfl rfl) hK7 rfl rfl) hK8 rfl rfl) hK9 rfl rfl)
    · skip
      exact mwj_oneWord_21 F2 G2 (KX.tr KX.rf hK2 rfl rfl)
  · skip
    exact mwj_oneWord_21 F G KX.rf
theorem mwj_go_12 {fu : Nat} {F0 : PF} {G0 : PG} (F : PF) (G : PG) (hK : KX [96] [94, 95] F0 G0 F G) : PP (mb_go_12 fu F G) (fun _ F' G' => KX [96] [94, 95] F0 G0 F' G') := by
  unfold mb_go_12
  refine PP.ret ?_
  exact hK
theorem mwj_go_38 {fu : Nat} {F0 : PF} {G0 : PG} (x2 : Int32) (F : PF) (G : PG) (hK : KX [96] [94, 95] F0 G0 F G) : PP (mb_go_38 fu x2 F G) (fun _ F' G' => KX [96] [94, 95] F0 G0 F' G') := by
  unfold mb_go_38
  refine PP.ret ?_
  exact hK
theorem mwz_go_18 {fu : Nat} {F0 : PF} {G0 : PG} : ∀ (n : Nat) (x1 : Int32) (x2 : Int32) (x3 : Int32) (F : PF) (G : PG) (hK : KX [96] [94, 95] F0 G0 F G), PP (ml_go_18 fu n x1 x2 x3 F G) (fun _ F' G' => KX [96] [94, 95] F0 G0 F' G') := by
  intro n
  induction n with
  | zero =>
    intro x1 x2 x3 F G hK
    exact PP.no
  | succ n ihn =>
    intro x1 x2 x3 F G hK
    show PP (mb_go_18 fu (ml_go_18 fu n) x1 x2 x3 F G) _
    unfold mb_go_18
    refine PP.ite (fun c_1 => ?_) (fun c_1 => ?_)
    · skip
      exact mwj_go_38 x2 F G hK
    · skip
      unfold mb_go_23
      refine PP.ite (fun c_2 => ?_) (fun c_2 => ?_)
      · skip
        unfold mb_go_27
        refine PP.bind (mw_oneWord F G) ?_
        intro r3 F3 G3 hK3
        dsimp only
        unfold mb_go_31
        exact ihn x1 r3 (x3 + (1 : Int32)) F3 G3 (KX.tr hK hK3 rfl rfl)
      · skip
        exact mwj_go_38 x2 F G hK
theorem mw_go {fu : Nat} (x1 : Int32) (F : PF) (G : PG) : PP (mf_go fu x1 F G) (fun _ F' G' => KX [96] [94, 95] F G F' G') := by
  unfold mf_go
  unfold mb_go_0
  refine PP.ite (fun c_1 => ?_) (fun c_1 => ?_)
  · skip
    exact mwj_go_12 F G KX.rf
  · skip
    unfold mb_go_5
    refine PP.ite (fun c_2 => ?_) (fun c_2 => ?_)
    · skip
      unfold mb_go_14
      exact mwz_go_18 fu x1 (0 : Int32) (0 : Int32) F G KX.rf
    · skip
      exact mwj_go_12 F G KX.rf
