theorem koj_X4_forStatement_261 {fu : Nat} (rc : RC) (ih : kOI2 rc) {F0 : PF} (x1 : Int32) (x2 : Int32) (F : PF) (G : PG) (hK : COF F0 F) : PP (cb_X4_forStatement_261 fu rc x1 x2 F G) (fun _ F' _ => COF F0 F') := by
  unfold cb_X4_forStatement_261
  refine PP.bind (cw_X1_aim (F 30) (F 6) F G) ?_
  intro r1 F1 G1 hK1
  dsimp only
  exact koj_X4_forStatement_279 rc ih x1 x2 F1 G1 (COF.tr hK (COF.k hK1 rfl rfl rfl rfl))
theorem koj_X4_forStatement_245 {fu : Nat} (rc : RC) (ih : kOI2 rc) {F0 : PF} (x1 : Int32) (x2 : Int32) (x5 : Int32) (F : PF) (G : PG) (hK : COF F0 F) : PP (cb_X4_forStatement_245 fu rc x1 x2 x5 F G) (fun _ F' _ => COF F0 F') := by
  unfold cb_X4_forStatement_245
  refine PP.bind (cw_X1_aim x5 (F 6) F G) ?_
  intro r1 F1 G1 hK1
  dsimp only
  exact koj_X4_forStatement_261 rc ih x1 x2 F1 G1 (COF.tr hK (COF.k hK1 rfl rfl rfl rfl))
theorem koj_X4_forStatement_232 {fu : Nat} (rc : RC) (ih : kOI2 rc) {F0 : PF} (x1 : Int32) (x2 : Int32) (x5 : Int32) (x7 : Int32) (F : PF) (G : PG) (hK : COF F0 F) : PP (cb_X4_forStatement_232 fu rc x1 x2 x5 x7 F G) (fun _ F' _ => COF F0 F') := by
  unfold cb_X4_forStatement_232
  refine PP.bind (cw_X1_aim (F 31) x7 F G) ?_
  intro r1 F1 G1 hK1
  dsimp only
  exact koj_X4_forStatement_245 rc ih x1 x2 x5 F1 G1 (COF.tr hK (COF.k hK1 rfl rfl rfl rfl))
theorem koj_X4_forStatement_221 {fu : Nat} (rc : RC) (ih : kOI2 rc) {F0 : PF} (x1 : Int32) (x2 : Int32) (x5 : Int32) (x7 : Int32) (F : PF) (G : PG) (hK : COF F0 F) : PP (cb_X4_forStatement_221 fu rc x1 x2 x5 x7 F G) (fun _ F' _ => COF F0 F') := by
  unfold cb_X4_forStatement_221
  refine PP.bind (ko_X1_addPair (84 : Int32) x7 F G) ?_
  intro r1 F1 G1 hK1
  dsimp only
  exact koj_X4_forStatement_232 rc ih x1 x2 x5 x7 F1 G1 (COF.tr hK hK1)
theorem koj_X4_forStatement_217 {fu : Nat} (rc : RC) (ih : kOI2 rc) {F0 : PF} (x1 : Int32) (x2 : Int32) (x5 : Int32) (x7 : Int32) (F : PF) (G : PG) (hK : COF F0 F) : PP (cb_X4_forStatement_217 fu rc x1 x2 x5 x7 F G) (fun _ F' _ => COF F0 F') := by
  unfold cb_X4_forStatement_217
  refine PP.bind (ih 5 0 0 F G) ?_
  intro r1 F1 G1 hK1
  dsimp only
  exact koj_X4_forStatement_221 rc ih x1 x2 x5 x7 F1 G1 (COF.tr hK hK1)
theorem koj_X4_forStatement_201 {fu : Nat} (rc : RC) (ih : kOI2 rc) {F0 : PF} (x1 : Int32) (x2 : Int32) (x5 : Int32) (x6 : Int32) (x7 : Int32) (F : PF) (G : PG) (hK : COF F0 F) : PP (cb_X4_forStatement_201 fu rc x1 x2 x5 x6 x7 F G) (fun _ F' _ => COF F0 F') := by
  unfold cb_X4_forStatement_201
  refine PP.bind (cw_X1_aim x6 (F 6) F G) ?_
  intro r1 F1 G1 hK1
  dsimp only
  exact koj_X4_forStatement_217 rc ih x1 x2 x5 x7 F1 G1 (COF.tr hK (COF.k hK1 rfl rfl rfl rfl))
theorem koj_X4_forStatement_192 {fu : Nat} (rc : RC) (ih : kOI2 rc) {F0 : PF} (x1 : Int32) (x2 : Int32) (x5 : Int32) (x6 : Int32) (x7 : Int32) (F : PF) (G : PG) (hK : COF F0 F) : PP (cb_X4_forStatement_192 fu rc x1 x2 x5 x6 x7 F G) (fun _ F' _ => COF F0 F') := by
  unfold cb_X4_forStatement_192
  refine PP.bind (cw_X2_closesWith (20 : Int32) F G) ?_
  intro r1 F1 G1 hK1
  dsimp only
  exact koj_X4_forStatement_201 rc ih x1 x2 x5 x6 x7 F1 G1 (COF.tr hK (COF.k hK1 rfl rfl rfl rfl))
theorem koj_X4_forStatement_181 {fu : Nat} (rc : RC) (ih : kOI2 rc) {F0 : PF} (x1 : Int32) (x2 : Int32) (x4 : Int32) (x5 : Int32) (x6 : Int32) (x7 : Int32) (F : PF) (G : PG) (hK : COF F0 F) : PP (cb_X4_forStatement_181 fu rc x1 x2 x4 x5 x6 x7 F G) (fun _ F' _ => COF F0 F') := by
  unfold cb_X4_forStatement_181
  refine PP.bind (ko_X1_addPair (84 : Int32) x4 F G) ?_
  intro r1 F1 G1 hK1
  dsimp only
  exact koj_X4_forStatement_192 rc ih x1 x2 x5 x6 x7 F1 G1 (COF.tr hK hK1)
theorem koj_X4_forStatement_177 {fu : Nat} (rc : RC) (ih : kOI2 rc) {F0 : PF} (x1 : Int32) (x2 : Int32) (x4 : Int32) (x5 : Int32) (x6 : Int32) (x7 : Int32) (F : PF) (G : PG) (hK : COF F0 F) : PP (cb_X4_forStatement_177 fu rc x1 x2 x4 x5 x6 x7 F G) (fun _ F' _ => COF F0 F') := by
  unfold cb_X4_forStatement_177
  refine PP.bind (ko_X4_simple F G) ?_
  intro r1 F1 G1 hK1
  dsimp only
  exact koj_X4_forStatement_181 rc ih x1 x2 x4 x5 x6 x7 F1 G1 (COF.tr hK hK1)
theorem koj_X4_forStatement_154 {fu : Nat} (rc : RC) (ih : kOI2 rc) {F0 : PF} (x1 : Int32) (x2 : Int32) (x4 : Int32) (x5 : Int32) (z0 : Int32) (F : PF) (G : PG) (hK : COF F0 F) : PP (cb_X4_forStatement_154 fu rc x1 x2 x4 x5 z0 F G) (fun _ F' _ => COF F0 F') := by
  unfold cb_X4_forStatement_154
  refine PP.ite (fun c_1 => ?_) (fun c_1 => ?_)
  · skip
    exact koj_X4_forStatement_181 rc ih x1 x2 x4 x5 z0 (F 6) F G hK
  · skip
    exact koj_X4_forStatement_177 rc ih x1 x2 x4 x5 z0 (F 6) F G hK
theorem koj_X4_forStatement_144 {fu : Nat} (rc : RC) (ih : kOI2 rc) {F0 : PF} (x1 : Int32) (x2 : Int32) (x4 : Int32) (x5 : Int32) (F : PF) (G : PG) (hK : COF F0 F) : PP (cb_X4_forStatement_144 fu rc x1 x2 x4 x5 F G) (fun _ F' _ => COF F0 F') := by
  unfold cb_X4_forStatement_144
  refine PP.bind (ko_X1_addJump (84 : Int32) (-1 : Int32) F G) ?_
  intro r1 F1 G1 hK1
  dsimp only
  exact koj_X4_forStatement_154 rc ih x1 x2 x4 x5 r1 F1 G1 (COF.tr hK hK1)
theorem koj_X4_forStatement_135 {fu : Nat} (rc : RC) (ih : kOI2 rc) {F0 : PF} (x1 : Int32) (x2 : Int32) (x4 : Int32) (x5 : Int32) (F : PF) (G : PG) (hK : COF F0 F) : PP (cb_X4_forStatement_135 fu rc x1 x2 x4 x5 F G) (fun _ F' _ => COF F0 F') := by
  unfold cb_X4_forStatement_135
  refine PP.bind (cw_X2_expect (26 : Int32) F G) ?_
  intro r1 F1 G1 hK1
  dsimp only
  exact koj_X4_forStatement_144 rc ih x1 x2 x4 x5 F1 G1 (COF.tr hK (COF.k hK1 rfl rfl rfl rfl))
theorem koj_X4_forStatement_133 {fu : Nat} (rc : RC) (ih : kOI2 rc) {F0 : PF} (x1 : Int32) (x2 : Int32) (x4 : Int32) (z0 : Int32) (F : PF) (G : PG) (hK : COF F0 F) : PP (cb_X4_forStatement_133 fu rc x1 x2 x4 z0 F G) (fun _ F' _ => COF F0 F') := by
  unfold cb_X4_forStatement_133
  exact koj_X4_forStatement_135 rc ih x1 x2 x4 z0 F G hK
theorem koj_X4_forStatement_123 {fu : Nat} (rc : RC) (ih : kOI2 rc) {F0 : PF} (x1 : Int32) (x2 : Int32) (x4 : Int32) (F : PF) (G : PG) (hK : COF F0 F) : PP (cb_X4_forStatement_123 fu rc x1 x2 x4 F G) (fun _ F' _ => COF F0 F') := by
  unfold cb_X4_forStatement_123
  refine PP.bind (ko_X1_addJump (86 : Int32) (-1 : Int32) F G) ?_
  intro r1 F1 G1 hK1
  dsimp only
  exact koj_X4_forStatement_133 rc ih x1 x2 x4 r1 F1 G1 (COF.tr hK hK1)
theorem koj_X4_forStatement_116 {fu : Nat} (rc : RC) (ih : kOI2 rc) {F0 : PF} (x1 : Int32) (x2 : Int32) (x4 : Int32) (F : PF) (G : PG) (hK : COF F0 F) : PP (cb_X4_forStatement_116 fu rc x1 x2 x4 F G) (fun _ F' _ => COF F0 F') := by
  unfold cb_X4_forStatement_116
  refine PP.bind (ko_X3_expression F G) ?_
  intro r1 F1 G1 hK1
  dsimp only
  exact koj_X4_forStatement_123 rc ih x1 x2 x4 F1 G1 (COF.tr hK hK1)
theorem koj_X4_forStatement_92 {fu : Nat} (rc : RC) (ih : kOI2 rc) {F0 : PF} (x1 : Int32) (x2 : Int32) (F : PF) (G : PG) (hK : COF F0 F) : PP (cb_X4_forStatement_92 fu rc x1 x2 F G) (fun _ F' _ => COF F0 F') := by
  unfold cb_X4_forStatement_92
  refine PP.ite (fun c_1 => ?_) (fun c_1 => ?_)
  · skip
    exact koj_X4_forStatement_135 rc ih x1 x2 (F 6) (-1 : Int32) F G hK
  · skip
    exact koj_X4_forStatement_116 rc ih x1 x2 (F 6) F G hK
theorem koj_X4_forStatement_83 {fu : Nat} (rc : RC) (ih : kOI2 rc) {F0 : PF} (x1 : Int32) (x2 : Int32) (F : PF) (G : PG) (hK : COF F0 F) : PP (cb_X4_forStatement_83 fu rc x1 x2 F G) (fun _ F' _ => COF F0 F') := by
  unfold cb_X4_forStatement_83
  refine PP.bind (cw_X2_expect (26 : Int32) F G) ?_
  intro r1 F1 G1 hK1
  dsimp only
  exact koj_X4_forStatement_92 rc ih x1 x2 F1 G1 (COF.tr hK (COF.k hK1 rfl rfl rfl rfl))
theorem koj_X4_forStatement_79 {fu : Nat} (rc : RC) (ih : kOI2 rc) {F0 : PF} (x1 : Int32) (x2 : Int32) (F : PF) (G : PG) (hK : COF F0 F) : PP (cb_X4_forStatement_79 fu rc x1 x2 F G) (fun _ F' _ => COF F0 F') := by
  unfold cb_X4_forStatement_79
  refine PP.bind (ko_X4_simple F G) ?_
  intro r1 F1 G1 hK1
  dsimp only
  exact koj_X4_forStatement_83 rc ih x1 x2 F1 G1 (COF.tr hK hK1)
theorem koj_X4_forStatement_67 {fu : Nat} (rc : RC) (ih : kOI2 rc) {F0 : PF} (x1 : Int32) (x2 : Int32) (F : PF) (G : PG) (hK : COF F0 F) : PP (cb_X4_forStatement_67 fu rc x1 x2 F G) (fun _ F' _ => COF F0 F') := by
  unfold cb_X4_forStatement_67
  refine PP.ite (fun c_1 => ?_) (fun c_1 => ?_)
  · skip
    exact koj_X4_forStatement_83 rc ih x1 x2 F G hK
  · skip
    exact koj_X4_forStatement_79 rc ih x1 x2 F G hK
theorem koj_X4_forStatement_63 {fu : Nat} (rc : RC) (ih : kOI2 rc) {F0 : PF} (x1 : Int32) (x2 : Int32) (x3 : Int32) (F : PF) (G : PG) (hK : COF F0 F) : PP (cb_X4_forStatement_63 fu rc x1 x2 x3 F G) (fun _ F' _ => COF F0 F') := by
  unfold cb_X4_forStatement_63
  refine PP.ite (fun c_1 => ?_) (fun c_1 => ?_)
  · skip
    exact koj_X4_forStatement_83 rc ih x1 x2 F G hK
  · skip
    exact koj_X4_forStatement_67 rc ih x1 x2 F G hK
theorem koj_X4_forStatement_60 {fu : Nat} (rc : RC) (ih : kOI2 rc) {F0 : PF} (x1 : Int32) (x2 : Int32) (F : PF) (G : PG) (hK : COF F0 F) : PP (cb_X4_forStatement_60 fu rc x1 x2 F G) (fun _ F' _ => COF F0 F') := by
  unfold cb_X4_forStatement_60
  exact koj_X4_forStatement_83 rc ih x1 x2 F G hK
theorem koj_X4_forStatement_55 {fu : Nat} (rc : RC) (ih : kOI2 rc) {F0 : PF} (x1 : Int32) (x2 : Int32) (F : PF) (G : PG) (hK : COF F0 F) : PP (cb_X4_forStatement_55 fu rc x1 x2 F G) (fun _ F' _ => COF F0 F') := by
  unfold cb_X4_forStatement_55
  refine PP.bind (ko_X4_localTold (1 : Int32) F G) ?_
  intro r1 F1 G1 hK1
  dsimp only
  exact koj_X4_forStatement_60 rc ih x1 x2 F1 G1 (COF.tr hK hK1)
theorem koj_X4_forStatement_44 {fu : Nat} (rc : RC) (ih : kOI2 rc) {F0 : PF} (x1 : Int32) (x2 : Int32) (x3 : Int32) (F : PF) (G : PG) (hK : COF F0 F) : PP (cb_X4_forStatement_44 fu rc x1 x2 x3 F G) (fun _ F' _ => COF F0 F') := by
  unfold cb_X4_forStatement_44
  refine PP.ite (fun c_1 => ?_) (fun c_1 => ?_)
  · skip
    exact koj_X4_forStatement_55 rc ih x1 x2 F G hK
  · skip
    exact koj_X4_forStatement_63 rc ih x1 x2 x3 F G hK
theorem koj_X4_forStatement_39 {fu : Nat} (rc : RC) (ih : kOI2 rc) {F0 : PF} (x1 : Int32) (x2 : Int32) (z0 : Int32) (F : PF) (G : PG) (hK : COF F0 F) : PP (cb_X4_forStatement_39 fu rc x1 x2 z0 F G) (fun _ F' _ => COF F0 F') := by
  unfold cb_X4_forStatement_39
  refine PP.ite (fun c_1 => ?_) (fun c_1 => ?_)
  · skip
    exact koj_X4_forStatement_63 rc ih x1 x2 z0 F G hK
  · skip
    exact koj_X4_forStatement_44 rc ih x1 x2 z0 F G hK
theorem koj_X4_forStatement_30 {fu : Nat} (rc : RC) (ih : kOI2 rc) {F0 : PF} (x1 : Int32) (x2 : Int32) (F : PF) (G : PG) (hK : COF F0 F) : PP (cb_X4_forStatement_30 fu rc x1 x2 F G) (fun _ F' _ => COF F0 F') := by
  unfold cb_X4_forStatement_30
  refine PP.bind (cw_X2_opens (19 : Int32) F G) ?_
  intro r1 F1 G1 hK1
  dsimp only
  exact koj_X4_forStatement_39 rc ih x1 x2 r1 F1 G1 (COF.tr hK (COF.k hK1 rfl rfl rfl rfl))
theorem koj_X4_forStatement_13 {fu : Nat} (rc : RC) (ih : kOI2 rc) {F0 : PF} (F : PF) (G : PG) (hK : COF F0 F) : PP (cb_X4_forStatement_13 fu rc F G) (fun _ F' _ => COF F0 F') := by
  unfold cb_X4_forStatement_13
  refine PP.bind (cw_X5_enter F G) ?_
  intro r1 F1 G1 hK1
  dsimp only
  exact koj_X4_forStatement_30 rc ih (F 30) (F 31) F1 G1 (COF.tr hK (COF.k hK1 rfl rfl rfl rfl))
theorem koj_X4_forStatement_9 {fu : Nat} (rc : RC) (ih : kOI2 rc) {F0 : PF} (z0 : Int32) (F : PF) (G : PG) (hK : COF F0 F) : PP (cb_X4_forStatement_9 fu rc z0 F G) (fun _ F' _ => COF F0 F') := by
  unfold cb_X4_forStatement_9
  refine PP.ite (fun c_1 => ?_) (fun c_1 => ?_)
  · skip
    exact koj_X4_forStatement_12 rc ih F G hK
  · skip
    exact koj_X4_forStatement_13 rc ih F G hK
theorem kot_X4_forStatement {fu : Nat} (rc : RC) (ih : kOI2 rc) (F : PF) (G : PG) : PP (ch_X4_forStatement fu rc F G) (fun _ F' _ => COF F F') := by
  unfold ch_X4_forStatement
  unfold cb_X4_forStatement_0
  refine PP.bind (cw_X2_opens (12 : Int32) F G) ?_
  intro r1 F1 G1 hK1
  dsimp only
  exact koj_X4_forStatement_9 rc ih r1 F1 G1 (COF.tr COF.rf (COF.k hK1 rfl rfl rfl rfl))
theorem koj_X4_ifStatement_12 {fu : Nat} (rc : RC) (ih : kOI2 rc) {F0 : PF} (F : PF) (G : PG) (hK : COF F0 F) : PP (cb_X4_ifStatement_12 fu rc F G) (fun _ F' _ => COF F0 F') := by
  unfold cb_X4_ifStatement_12
  refine PP.ret ?_
  exact hK
theorem koj_X4_ifStatement_121 {fu : Nat} (rc : RC) (ih : kOI2 rc) {F0 : PF} (F : PF) (G : PG) (hK : COF F0 F) : PP (cb_X4_ifStatement_121 fu rc F G) (fun _ F' _ => COF F0 F') := by
  unfold cb_X4_ifStatement_121
  refine PP.ret ?_
  exact hK
theorem koj_X4_ifStatement_114 {fu : Nat} (rc : RC) (ih : kOI2 rc) {F0 : PF} (F : PF) (G : PG) (hK : COF F0 F) : PP (cb_X4_ifStatement_114 fu rc F G) (fun _ F' _ => COF F0 F') := by
  unfold cb_X4_ifStatement_114
  refine PP.bind (cw_X2_closes F G) ?_
  intro r1 F1 G1 hK1
  dsimp only
  exact koj_X4_ifStatement_121 rc ih F1 G1 (COF.tr hK (COF.k hK1 rfl rfl rfl rfl))
theorem koj_X4_ifStatement_96 {fu : Nat} (rc : RC) (ih : kOI2 rc) {F0 : PF} (F : PF) (G : PG) (hK : COF F0 F) : PP (cb_X4_ifStatement_96 fu rc F G) (fun _ F' _ => COF F0 F') := by
  unfold cb_X4_ifStatement_96
  exact koj_X4_ifStatement_114 rc ih F G hK
theorem koj_X4_ifStatement_81 {fu : Nat} (rc : RC) (ih : kOI2 rc) {F0 : PF} (x2 : Int32) (F : PF) (G : PG) (hK : COF F0 F) : PP (cb_X4_ifStatement_81 fu rc x2 F G) (fun _ F' _ => COF F0 F') := by
  unfold cb_X4_ifStatement_81
  refine PP.bind (cw_X1_aim x2 (F 6) F G) ?_
  intro r1 F1 G1 hK1
  dsimp only
  exact koj_X4_ifStatement_96 rc ih F1 G1 (COF.tr hK (COF.k hK1 rfl rfl rfl rfl))
theorem koj_X4_ifStatement_77 {fu : Nat} (rc : RC) (ih : kOI2 rc) {F0 : PF} (x2 : Int32) (F : PF) (G : PG) (hK : COF F0 F) : PP (cb_X4_ifStatement_77 fu rc x2 F G) (fun _ F' _ => COF F0 F') := by
  unfold cb_X4_ifStatement_77
  refine PP.bind (ih 4 0 0 F G) ?_
  intro r1 F1 G1 hK1
  dsimp only
  exact koj_X4_ifStatement_81 rc ih x2 F1 G1 (COF.tr hK hK1)
theorem koj_X4_ifStatement_61 {fu : Nat} (rc : RC) (ih : kOI2 rc) {F0 : PF} (x1 : Int32) (z0 : Int32) (F : PF) (G : PG) (hK : COF F0 F) : PP (cb_X4_ifStatement_61 fu rc x1 z0 F G) (fun _ F' _ => COF F0 F') := by
  unfold cb_X4_ifStatement_61
  refine PP.bind (cw_X1_aim x1 (F 6) F G) ?_
  intro r1 F1 G1 hK1
  dsimp only
  exact koj_X4_ifStatement_77 rc ih z0 F1 G1 (COF.tr hK (COF.k hK1 rfl rfl rfl rfl))
theorem koj_X4_ifStatement_51 {fu : Nat} (rc : RC) (ih : kOI2 rc) {F0 : PF} (x1 : Int32) (F : PF) (G : PG) (hK : COF F0 F) : PP (cb_X4_ifStatement_51 fu rc x1 F G) (fun _ F' _ => COF F0 F') := by
  unfold cb_X4_ifStatement_51
  refine PP.bind (ko_X1_addJump (84 : Int32) (-1 : Int32) F G) ?_
  intro r1 F1 G1 hK1
  dsimp only
  exact koj_X4_ifStatement_61 rc ih x1 r1 F1 G1 (COF.tr hK hK1)
theorem koj_X4_ifStatement_44 {fu : Nat} (rc : RC) (ih : kOI2 rc) {F0 : PF} (x1 : Int32) (F : PF) (G : PG) (hK : COF F0 F) : PP (cb_X4_ifStatement_44 fu rc x1 F G) (fun _ F' _ => COF F0 F') := by
  unfold cb_X4_ifStatement_44
  refine PP.bind (cw_X2_next F G) ?_
  intro r1 F1 G1 hK1
  dsimp only
  exact koj_X4_ifStatement_51 rc ih x1 F1 G1 (COF.tr hK (COF.k hK1 rfl rfl rfl rfl))
theorem koj_X4_ifStatement_99 {fu : Nat} (rc : RC) (ih : kOI2 rc) {F0 : PF} (x1 : Int32) (F : PF) (G : PG) (hK : COF F0 F) : PP (cb_X4_ifStatement_99 fu rc x1 F G) (fun _ F' _ => COF F0 F') := by
  unfold cb_X4_ifStatement_99
  refine PP.bind (cw_X1_aim x1 (F 6) F G) ?_
  intro r1 F1 G1 hK1
  dsimp only
  exact koj_X4_ifStatement_114 rc ih F1 G1 (COF.tr hK (COF.k hK1 rfl rfl rfl rfl))
theorem koj_X4_ifStatement_32 {fu : Nat} (rc : RC) (ih : kOI2 rc) {F0 : PF} (x1 : Int32) (F : PF) (G : PG) (hK : COF F0 F) : PP (cb_X4_ifStatement_32 fu rc x1 F G) (fun _ F' _ => COF F0 F') := by
  unfold cb_X4_ifStatement_32
  refine PP.ite (fun c_1 => ?_) (fun c_1 => ?_)
  · skip
    exact koj_X4_ifStatement_44 rc ih x1 F G hK
  · skip
    exact koj_X4_ifStatement_99 rc ih x1 F G hK
theorem koj_X4_ifStatement_27 {fu : Nat} (rc : RC) (ih : kOI2 rc) {F0 : PF} (z0 : Int32) (F : PF) (G : PG) (hK : COF F0 F) : PP (cb_X4_ifStatement_27 fu rc z0 F G) (fun _ F' _ => COF F0 F') := by
  unfold cb_X4_ifStatement_27
  refine PP.bind (ih 4 0 0 F G) ?_
  intro r1 F1 G1 hK1
  dsimp only
  exact koj_X4_ifStatement_32 rc ih z0 F1 G1 (COF.tr hK hK1)
theorem koj_X4_ifStatement_17 {fu : Nat} (rc : RC) (ih : kOI2 rc) {F0 : PF} (F : PF) (G : PG) (hK : COF F0 F) : PP (cb_X4_ifStatement_17 fu rc F G) (fun _ F' _ => COF F0 F') := by
  unfold cb_X4_ifStatement_17
  refine PP.bind (ko_X1_addJump (86 : Int32) (-1 : Int32) F G) ?_
  intro r1 F1 G1 hK1
  dsimp only
  exact koj_X4_ifStatement_27 rc ih r1 F1 G1 (COF.tr hK hK1)
theorem koj_X4_ifStatement_13 {fu : Nat} (rc : RC) (ih : kOI2 rc) {F0 : PF} (F : PF) (G : PG) (hK : COF F0 F) : PP (cb_X4_ifStatement_13 fu rc F G) (fun _ F' _ => COF F0 F') := by
  unfold cb_X4_ifStatement_13
  refine PP.bind (ko_X4_condition F G) ?_
  intro r1 F1 G1 hK1
  dsimp only
  exact koj_X4_ifStatement_17 rc ih F1 G1 (COF.tr hK hK1)
theorem koj_X4_ifStatement_9 {fu : Nat} (rc : RC) (ih : kOI2 rc) {F0 : PF} (z0 : Int32) (F : PF) (G : PG) (hK : COF F0 F) : PP (cb_X4_ifStatement_9 fu rc z0 F G) (fun _ F' _ => COF F0 F') := by
  unfold cb_X4_ifStatement_9
  refine PP.ite (fun c_1 => ?_) (fun c_1 => ?_)
  · skip
    exact koj_X4_ifStatement_12 rc ih F G hK
  · skip
    exact koj_X4_ifStatement_13 rc ih F G hK
theorem kot_X4_ifStatement {fu : Nat} (rc : RC) (ih : kOI2 rc) (F : PF) (G : PG) : PP (ch_X4_ifStatement fu rc F G) (fun _ F' _ => COF F F') := by
  unfold ch_X4_ifStatement
  unfold cb_X4_ifStatement_0
  refine PP.bind (cw_X2_opens (8 : Int32) F G) ?_
  intro r1 F1 G1 hK1
  dsimp only
  exact koj_X4_ifStatement_9 rc ih r1 F1 G1 (COF.tr COF.rf (COF.k hK1 rfl rfl rfl rfl))
theorem koj_X4_inner_18 {fu : Nat} (rc : RC) (ih : kOI2 rc) {F0 : PF} (F : PF) (G : PG) (hK : COF F0 F) : PP (cb_X4_inner_18 fu rc F G) (fun _ F' _ => COF F0 F') := by
  unfold cb_X4_inner_18
  refine PP.ret ?_
  exact hK
theorem koj_X4_inner_11 {fu : Nat} (rc : RC) (ih : kOI2 rc) {F0 : PF} (F : PF) (G : PG) (hK : COF F0 F) : PP (cb_X4_inner_11 fu rc F G) (fun _ F' _ => COF F0 F') := by
  unfold cb_X4_inner_11
  refine PP.bind (cw_X5_leave F G) ?_
  intro r1 F1 G1 hK1
  dsimp only
  exact koj_X4_inner_18 rc ih F1 G1 (COF.tr hK (COF.k hK1 rfl rfl rfl rfl))
theorem koj_X4_inner_7 {fu : Nat} (rc : RC) (ih : kOI2 rc) {F0 : PF} (F : PF) (G : PG) (hK : COF F0 F) : PP (cb_X4_inner_7 fu rc F G) (fun _ F' _ => COF F0 F') := by
  unfold cb_X4_inner_7
  refine PP.bind (ih 6 0 0 F G) ?_
  intro r1 F1 G1 hK1
  dsimp only
  exact koj_X4_inner_11 rc ih F1 G1 (COF.tr hK hK1)
theorem kot_X4_inner {fu : Nat} (rc : RC) (ih : kOI2 rc) (F : PF) (G : PG) : PP (ch_X4_inner fu rc F G) (fun _ F' _ => COF F F') := by
  unfold ch_X4_inner
  unfold cb_X4_inner_0
  refine PP.bind (cw_X5_enter F G) ?_
  intro r1 F1 G1 hK1
  dsimp only
  exact koj_X4_inner_7 rc ih F1 G1 (COF.tr COF.rf (COF.k hK1 rfl rfl rfl rfl))
theorem koj_X4_loopBody_43 {fu : Nat} (rc : RC) (ih : kOI2 rc) {F0 : PF} (F : PF) (G : PG) (hK : COF F0 F) : PP (cb_X4_loopBody_43 fu rc F G) (fun _ F' _ => COF F0 F') := by
  unfold cb_X4_loopBody_43
  refine PP.ret ?_
  exact hK
theorem koj_X4_loopBody_33 {fu : Nat} (rc : RC) (ih : kOI2 rc) {F0 : PF} (F : PF) (G : PG) (hK : COF F0 F) : PP (cb_X4_loopBody_33 fu rc F G) (fun _ F' _ => COF F0 F') := by
  unfold cb_X4_loopBody_33
  exact koj_X4_loopBody_43 rc ih (fup F 29 ((F 29) - (1 : Int32))) G (COF.f (k := 29) rfl hK)
theorem koj_X4_loopBody_29 {fu : Nat} (rc : RC) (ih : kOI2 rc) {F0 : PF} (F : PF) (G : PG) (hK : COF F0 F) : PP (cb_X4_loopBody_29 fu rc F G) (fun _ F' _ => COF F0 F') := by
  unfold cb_X4_loopBody_29
  refine PP.bind (ih 4 0 0 F G) ?_
  intro r1 F1 G1 hK1
  dsimp only
  exact koj_X4_loopBody_33 rc ih F1 G1 (COF.tr hK hK1)
theorem koj_X4_loopBody_20 {fu : Nat} (rc : RC) (ih : kOI2 rc) {F0 : PF} (F : PF) (G : PG) (hK : COF F0 F) : PP (cb_X4_loopBody_20 fu rc F G) (fun _ F' _ => COF F0 F') := by
  unfold cb_X4_loopBody_20
  refine PP.bind (ko_X1_add (89 : Int32) F G) ?_
  intro r1 F1 G1 hK1
  dsimp only
  exact koj_X4_loopBody_29 rc ih F1 G1 (COF.tr hK hK1)
theorem koj_X4_loopBody_10 {fu : Nat} (rc : RC) (ih : kOI2 rc) {F0 : PF} (F : PF) (G : PG) (hK : COF F0 F) : PP (cb_X4_loopBody_10 fu rc F G) (fun _ F' _ => COF F0 F') := by
  unfold cb_X4_loopBody_10
  exact koj_X4_loopBody_20 rc ih (fup F 29 ((F 29) + (1 : Int32))) G (COF.f (k := 29) rfl hK)
theorem koj_X4_loopBody_5 {fu : Nat} (rc : RC) (ih : kOI2 rc) {F0 : PF} (F : PF) (G : PG) (hK : COF F0 F) : PP (cb_X4_loopBody_5 fu rc F G) (fun _ F' _ => COF F0 F') := by
  unfold cb_X4_loopBody_5
  exact koj_X4_loopBody_10 rc ih (fup F 31 (-1 : Int32)) G (COF.f (k := 31) rfl hK)
theorem kot_X4_loopBody {fu : Nat} (rc : RC) (ih : kOI2 rc) (F : PF) (G : PG) : PP (ch_X4_loopBody fu rc F G) (fun _ F' _ => COF F F') := by
  unfold ch_X4_loopBody
  unfold cb_X4_loopBody_0
  exact koj_X4_loopBody_5 rc ih (fup F 30 (-1 : Int32)) G (COF.f (k := 30) rfl COF.rf)
theorem koj_X4_statement_222 {fu : Nat} (rc : RC) (ih : kOI2 rc) {F0 : PF} (F : PF) (G : PG) (hK : COF F0 F) : PP (cb_X4_statement_222 fu rc F G) (fun _ F' _ => COF F0 F') := by
  unfold cb_X4_statement_222
  refine PP.ret ?_
  exact hK
theorem koj_X4_statement_213 {fu : Nat} (rc : RC) (ih : kOI2 rc) {F0 : PF} (F : PF) (G : PG) (hK : COF F0 F) : PP (cb_X4_statement_213 fu rc F G) (fun _ F' _ => COF F0 F') := by
  unfold cb_X4_statement_213
  refine PP.bind (cw_X2_expect (26 : Int32) F G) ?_
  intro r1 F1 G1 hK1
  dsimp only
  exact koj_X4_statement_222 rc ih F1 G1 (COF.tr hK (COF.k hK1 rfl rfl rfl rfl))
theorem koj_X4_statement_209 {fu : Nat} (rc : RC) (ih : kOI2 rc) {F0 : PF} (F : PF) (G : PG) (hK : COF F0 F) : PP (cb_X4_statement_209 fu rc F G) (fun _ F' _ => COF F0 F') := by
  unfold cb_X4_statement_209
  refine PP.bind (ko_X4_simple F G) ?_
  intro r1 F1 G1 hK1
  dsimp only
  exact koj_X4_statement_213 rc ih F1 G1 (COF.tr hK hK1)
theorem koj_X4_statement_157 {fu : Nat} (rc : RC) (ih : kOI2 rc) {F0 : PF} (F : PF) (G : PG) (hK : COF F0 F) : PP (cb_X4_statement_157 fu rc F G) (fun _ F' _ => COF F0 F') := by
  unfold cb_X4_statement_157
  exact koj_X4_statement_222 rc ih F G hK
theorem koj_X4_statement_148 {fu : Nat} (rc : RC) (ih : kOI2 rc) {F0 : PF} (F : PF) (G : PG) (hK : COF F0 F) : PP (cb_X4_statement_148 fu rc F G) (fun _ F' _ => COF F0 F') := by
  unfold cb_X4_statement_148
  refine PP.bind (cw_X2_expect (26 : Int32) F G) ?_
  intro r1 F1 G1 hK1
  dsimp only
  exact koj_X4_statement_157 rc ih F1 G1 (COF.tr hK (COF.k hK1 rfl rfl rfl rfl))
theorem koj_X4_statement_143 {fu : Nat} (rc : RC) (ih : kOI2 rc) {F0 : PF} (F : PF) (G : PG) (hK : COF F0 F) : PP (cb_X4_statement_143 fu rc F G) (fun _ F' _ => COF F0 F') := by
  unfold cb_X4_statement_143
  refine PP.bind (ko_X4_localTold (0 : Int32) F G) ?_
  intro r1 F1 G1 hK1
  dsimp only
  exact koj_X4_statement_148 rc ih F1 G1 (COF.tr hK hK1)
theorem koj_X4_statement_164 {fu : Nat} (rc : RC) (ih : kOI2 rc) {F0 : PF} (F : PF) (G : PG) (hK : COF F0 F) : PP (cb_X4_statement_164 fu rc F G) (fun _ F' _ => COF F0 F') := by
  unfold cb_X4_statement_164
  exact koj_X4_statement_222 rc ih F G hK
theorem koj_X4_statement_160 {fu : Nat} (rc : RC) (ih : kOI2 rc) {F0 : PF} (F : PF) (G : PG) (hK : COF F0 F) : PP (cb_X4_statement_160 fu rc F G) (fun _ F' _ => COF F0 F') := by
  unfold cb_X4_statement_160
  refine PP.bind (ih 3 0 0 F G) ?_
  intro r1 F1 G1 hK1
  dsimp only
  exact koj_X4_statement_164 rc ih F1 G1 (COF.tr hK hK1)
theorem koj_X4_statement_171 {fu : Nat} (rc : RC) (ih : kOI2 rc) {F0 : PF} (F : PF) (G : PG) (hK : COF F0 F) : PP (cb_X4_statement_171 fu rc F G) (fun _ F' _ => COF F0 F') := by
  unfold cb_X4_statement_171
  exact koj_X4_statement_222 rc ih F G hK
theorem koj_X4_statement_167 {fu : Nat} (rc : RC) (ih : kOI2 rc) {F0 : PF} (F : PF) (G : PG) (hK : COF F0 F) : PP (cb_X4_statement_167 fu rc F G) (fun _ F' _ => COF F0 F') := by
  unfold cb_X4_statement_167
  refine PP.bind (ih 7 0 0 F G) ?_
  intro r1 F1 G1 hK1
  dsimp only
  exact koj_X4_statement_171 rc ih F1 G1 (COF.tr hK hK1)
theorem koj_X4_statement_178 {fu : Nat} (rc : RC) (ih : kOI2 rc) {F0 : PF} (F : PF) (G : PG) (hK : COF F0 F) : PP (cb_X4_statement_178 fu rc F G) (fun _ F' _ => COF F0 F') := by
  unfold cb_X4_statement_178
  exact koj_X4_statement_222 rc ih F G hK
theorem koj_X4_statement_174 {fu : Nat} (rc : RC) (ih : kOI2 rc) {F0 : PF} (F : PF) (G : PG) (hK : COF F0 F) : PP (cb_X4_statement_174 fu rc F G) (fun _ F' _ => COF F0 F') := by
  unfold cb_X4_statement_174
  refine PP.bind (ih 1 0 0 F G) ?_
  intro r1 F1 G1 hK1
  dsimp only
  exact koj_X4_statement_178 rc ih F1 G1 (COF.tr hK hK1)
theorem koj_X4_statement_185 {fu : Nat} (rc : RC) (ih : kOI2 rc) {F0 : PF} (F : PF) (G : PG) (hK : COF F0 F) : PP (cb_X4_statement_185 fu rc F G) (fun _ F' _ => COF F0 F') := by
  unfold cb_X4_statement_185
  exact koj_X4_statement_222 rc ih F G hK
theorem koj_X4_statement_181 {fu : Nat} (rc : RC) (ih : kOI2 rc) {F0 : PF} (F : PF) (G : PG) (hK : COF F0 F) : PP (cb_X4_statement_181 fu rc F G) (fun _ F' _ => COF F0 F') := by
  unfold cb_X4_statement_181
  refine PP.bind (ih 2 0 0 F G) ?_
  intro r1 F1 G1 hK1
  dsimp only
  exact koj_X4_statement_185 rc ih F1 G1 (COF.tr hK hK1)
theorem koj_X4_statement_192 {fu : Nat} (rc : RC) (ih : kOI2 rc) {F0 : PF} (F : PF) (G : PG) (hK : COF F0 F) : PP (cb_X4_statement_192 fu rc F G) (fun _ F' _ => COF F0 F') := by
  unfold cb_X4_statement_192
  exact koj_X4_statement_222 rc ih F G hK
theorem koj_X4_statement_188 {fu : Nat} (rc : RC) (ih : kOI2 rc) {F0 : PF} (F : PF) (G : PG) (hK : COF F0 F) : PP (cb_X4_statement_188 fu rc F G) (fun _ F' _ => COF F0 F') := by
  unfold cb_X4_statement_188
  refine PP.bind (ko_X4_leap F G) ?_
  intro r1 F1 G1 hK1
  dsimp only
  exact koj_X4_statement_192 rc ih F1 G1 (COF.tr hK hK1)
theorem koj_X4_statement_199 {fu : Nat} (rc : RC) (ih : kOI2 rc) {F0 : PF} (F : PF) (G : PG) (hK : COF F0 F) : PP (cb_X4_statement_199 fu rc F G) (fun _ F' _ => COF F0 F') := by
  unfold cb_X4_statement_199
  exact koj_X4_statement_222 rc ih F G hK
theorem koj_X4_statement_195 {fu : Nat} (rc : RC) (ih : kOI2 rc) {F0 : PF} (F : PF) (G : PG) (hK : COF F0 F) : PP (cb_X4_statement_195 fu rc F G) (fun _ F' _ => COF F0 F') := by
  unfold cb_X4_statement_195
  refine PP.bind (ko_X4_returnStatement F G) ?_
  intro r1 F1 G1 hK1
  dsimp only
  exact koj_X4_statement_199 rc ih F1 G1 (COF.tr hK hK1)
theorem koj_X4_statement_206 {fu : Nat} (rc : RC) (ih : kOI2 rc) {F0 : PF} (F : PF) (G : PG) (hK : COF F0 F) : PP (cb_X4_statement_206 fu rc F G) (fun _ F' _ => COF F0 F') := by
  unfold cb_X4_statement_206
  exact koj_X4_statement_222 rc ih F G hK
theorem koj_X4_statement_202 {fu : Nat} (rc : RC) (ih : kOI2 rc) {F0 : PF} (F : PF) (G : PG) (hK : COF F0 F) : PP (cb_X4_statement_202 fu rc F G) (fun _ F' _ => COF F0 F') := by
  unfold cb_X4_statement_202
  refine PP.bind (ko_X4_handOut F G) ?_
  intro r1 F1 G1 hK1
  dsimp only
  exact koj_X4_statement_206 rc ih F1 G1 (COF.tr hK hK1)
theorem koj_X4_statement_130 {fu : Nat} (rc : RC) (ih : kOI2 rc) {F0 : PF} (F : PF) (G : PG) (hK : COF F0 F) : PP (cb_X4_statement_130 fu rc F G) (fun _ F' _ => COF F0 F') := by
  unfold cb_X4_statement_130
  exact koj_X4_statement_222 rc ih F G hK
theorem koj_X4_statement_123 {fu : Nat} (rc : RC) (ih : kOI2 rc) {F0 : PF} (F : PF) (G : PG) (hK : COF F0 F) : PP (cb_X4_statement_123 fu rc F G) (fun _ F' _ => COF F0 F') := by
  unfold cb_X4_statement_123
  refine PP.bind (cw_X5_leave F G) ?_
  intro r1 F1 G1 hK1
  dsimp only
  exact koj_X4_statement_130 rc ih F1 G1 (COF.tr hK (COF.k hK1 rfl rfl rfl rfl))
theorem koj_X4_statement_119 {fu : Nat} (rc : RC) (ih : kOI2 rc) {F0 : PF} (F : PF) (G : PG) (hK : COF F0 F) : PP (cb_X4_statement_119 fu rc F G) (fun _ F' _ => COF F0 F') := by
  unfold cb_X4_statement_119
  refine PP.bind (ih 0 0 0 F G) ?_
  intro r1 F1 G1 hK1
  dsimp only
  exact koj_X4_statement_123 rc ih F1 G1 (COF.tr hK hK1)
theorem koj_X4_statement_112 {fu : Nat} (rc : RC) (ih : kOI2 rc) {F0 : PF} (F : PF) (G : PG) (hK : COF F0 F) : PP (cb_X4_statement_112 fu rc F G) (fun _ F' _ => COF F0 F') := by
  unfold cb_X4_statement_112
  refine PP.bind (cw_X5_enter F G) ?_
  intro r1 F1 G1 hK1
  dsimp only
  exact koj_X4_statement_119 rc ih F1 G1 (COF.tr hK (COF.k hK1 rfl rfl rfl rfl))
theorem koj_X4_statement_140 {fu : Nat} (rc : RC) (ih : kOI2 rc) {F0 : PF} (F : PF) (G : PG) (hK : COF F0 F) : PP (cb_X4_statement_140 fu rc F G) (fun _ F' _ => COF F0 F') := by
  unfold cb_X4_statement_140
  exact koj_X4_statement_222 rc ih F G hK
theorem koj_X4_statement_133 {fu : Nat} (rc : RC) (ih : kOI2 rc) {F0 : PF} (F : PF) (G : PG) (hK : COF F0 F) : PP (cb_X4_statement_133 fu rc F G) (fun _ F' _ => COF F0 F') := by
  unfold cb_X4_statement_133
  refine PP.bind (cw_X2_next F G) ?_
  intro r1 F1 G1 hK1
  dsimp only
  exact koj_X4_statement_140 rc ih F1 G1 (COF.tr hK (COF.k hK1 rfl rfl rfl rfl))
theorem kot_X4_statement {fu : Nat} (rc : RC) (ih : kOI2 rc) (F : PF) (G : PG) : PP (ch_X4_statement fu rc F G) (fun _ F' _ => COF F F') := by
  unfold ch_X4_statement
  unfold cb_X4_statement_0
  refine PP.ite (fun c_1 => ?_) (fun c_1 => ?_)
  · have e_2 : (F 11).toInt < 4 ∨ 26 < (F 11).toInt := c_1
    exact koj_X4_statement_209 rc ih F G COF.rf
  have e_3 : ¬ ((F 11).toInt < 4 ∨ 26 < (F 11).toInt) := c_1
  refine PP.ite (fun c_4 => ?_) (fun c_4 => ?_)
  · skip
    exact koj_X4_statement_143 rc ih F G COF.rf
  refine PP.ite (fun c_5 => ?_) (fun c_5 => ?_)
  · skip
    exact koj_X4_statement_143 rc ih F G COF.rf
  refine PP.ite (fun c_6 => ?_) (fun c_6 => ?_)
  · skip
    exact koj_X4_statement_209 rc ih F G COF.rf
  refine PP.ite (fun c_7 => ?_) (fun c_7 => ?_)
  · skip
    exact koj_X4_statement_209 rc ih F G COF.rf
  refine PP.ite (fun c_8 => ?_) (fun c_8 => ?_)
  · skip
    exact koj_X4_statement_160 rc ih F G COF.rf
  refine PP.ite (fun c_9 => ?_) (fun c_9 => ?_)
  · skip
    exact koj_X4_statement_209 rc ih F G COF.rf
  refine PP.ite (fun c_10 => ?_) (fun c_10 => ?_)
  · skip
    exact koj_X4_statement_167 rc ih F G COF.rf
  refine PP.ite (fun c_11 => ?_) (fun c_11 => ?_)
  · skip
    exact koj_X4_statement_174 rc ih F G COF.rf
  refine PP.ite (fun c_12 => ?_) (fun c_12 => ?_)
  · skip
    exact koj_X4_statement_181 rc ih F G COF.rf
  refine PP.ite (fun c_13 => ?_) (fun c_13 => ?_)
  · skip
    exact koj_X4_statement_188 rc ih F G COF.rf
  refine PP.ite (fun c_14 => ?_) (fun c_14 => ?_)
  · skip
    exact koj_X4_statement_188 rc ih F G COF.rf
  refine PP.ite (fun c_15 => ?_) (fun c_15 => ?_)
  · skip
    exact koj_X4_statement_195 rc ih F G COF.rf
  refine PP.ite (fun c_16 => ?_) (fun c_16 => ?_)
  · skip
    exact koj_X4_statement_202 rc ih F G COF.rf
  refine PP.ite (fun c_17 => ?_) (fun c_17 => ?_)
  · skip
    exact koj_X4_statement_209 rc ih F G COF.rf
  refine PP.ite (fun c_18 => ?_) (fun c_18 => ?_)
  · skip
    exact koj_X4_statement_202 rc ih F G COF.rf
  refine PP.ite (fun c_19 => ?_) (fun c_19 => ?_)
  · skip
    exact koj_X4_statement_209 rc ih F G COF.rf
  refine PP.ite (fun c_20 => ?_) (fun c_20 => ?_)
  · skip
    exact koj_X4_statement_209 rc ih F G COF.rf
  refine PP.ite (fun c_21 => ?_) (fun c_21 => ?_)
  · skip
    exact koj_X4_statement_209 rc ih F G COF.rf
  refine PP.ite (fun c_22 => ?_) (fun c_22 => ?_)
  · skip
    exact koj_X4_statement_209 rc ih F G COF.rf
  refine PP.ite (fun c_23 => ?_) (fun c_23 => ?_)
  · skip
    exact koj_X4_statement_112 rc ih F G COF.rf
  refine PP.ite (fun c_24 => ?_) (fun c_24 => ?_)
  · skip
    exact koj_X4_statement_209 rc ih F G COF.rf
  refine PP.ite (fun c_25 => ?_) (fun c_25 => ?_)
  · skip
    exact koj_X4_statement_209 rc ih F G COF.rf
  exact koj_X4_statement_133 rc ih F G COF.rf
theorem koj_X4_whileStatement_12 {fu : Nat} (rc : RC) (ih : kOI2 rc) {F0 : PF} (F : PF) (G : PG) (hK : COF F0 F) : PP (cb_X4_whileStatement_12 fu rc F G) (fun _ F' _ => COF F0 F') := by
  unfold cb_X4_whileStatement_12
  refine PP.ret ?_
  exact hK
theorem koj_X4_whileStatement_124 {fu : Nat} (rc : RC) (ih : kOI2 rc) {F0 : PF} (F : PF) (G : PG) (hK : COF F0 F) : PP (cb_X4_whileStatement_124 fu rc F G) (fun _ F' _ => COF F0 F') := by
  unfold cb_X4_whileStatement_124
  refine PP.ret ?_
  exact hK
theorem koj_X4_whileStatement_117 {fu : Nat} (rc : RC) (ih : kOI2 rc) {F0 : PF} (F : PF) (G : PG) (hK : COF F0 F) : PP (cb_X4_whileStatement_117 fu rc F G) (fun _ F' _ => COF F0 F') := by
  unfold cb_X4_whileStatement_117
  refine PP.bind (cw_X2_closes F G) ?_
  intro r1 F1 G1 hK1
  dsimp only
  exact koj_X4_whileStatement_124 rc ih F1 G1 (COF.tr hK (COF.k hK1 rfl rfl rfl rfl))
theorem koj_X4_whileStatement_112 {fu : Nat} (rc : RC) (ih : kOI2 rc) {F0 : PF} (x2 : Int32) (F : PF) (G : PG) (hK : COF F0 F) : PP (cb_X4_whileStatement_112 fu rc x2 F G) (fun _ F' _ => COF F0 F') := by
  unfold cb_X4_whileStatement_112
  exact koj_X4_whileStatement_117 rc ih (fup F 31 x2) G (COF.f (k := 31) rfl hK)
theorem koj_X4_whileStatement_107 {fu : Nat} (rc : RC) (ih : kOI2 rc) {F0 : PF} (x1 : Int32) (x2 : Int32) (F : PF) (G : PG) (hK : COF F0 F) : PP (cb_X4_whileStatement_107 fu rc x1 x2 F G) (fun _ F' _ => COF F0 F') := by
  unfold cb_X4_whileStatement_107
  exact koj_X4_whileStatement_112 rc ih x2 (fup F 30 x1) G (COF.f (k := 30) rfl hK)
theorem koj_X4_whileStatement_89 {fu : Nat} (rc : RC) (ih : kOI2 rc) {F0 : PF} (x1 : Int32) (x2 : Int32) (F : PF) (G : PG) (hK : COF F0 F) : PP (cb_X4_whileStatement_89 fu rc x1 x2 F G) (fun _ F' _ => COF F0 F') := by
  unfold cb_X4_whileStatement_89
  refine PP.bind (cw_X1_aim (F 30) (F 6) F G) ?_
  intro r1 F1 G1 hK1
  dsimp only
  exact koj_X4_whileStatement_107 rc ih x1 x2 F1 G1 (COF.tr hK (COF.k hK1 rfl rfl rfl rfl))
theorem koj_X4_whileStatement_73 {fu : Nat} (rc : RC) (ih : kOI2 rc) {F0 : PF} (x1 : Int32) (x2 : Int32) (x4 : Int32) (F : PF) (G : PG) (hK : COF F0 F) : PP (cb_X4_whileStatement_73 fu rc x1 x2 x4 F G) (fun _ F' _ => COF F0 F') := by
  unfold cb_X4_whileStatement_73
  refine PP.bind (cw_X1_aim x4 (F 6) F G) ?_
  intro r1 F1 G1 hK1
  dsimp only
  exact koj_X4_whileStatement_89 rc ih x1 x2 F1 G1 (COF.tr hK (COF.k hK1 rfl rfl rfl rfl))
theorem koj_X4_whileStatement_61 {fu : Nat} (rc : RC) (ih : kOI2 rc) {F0 : PF} (x1 : Int32) (x2 : Int32) (x3 : Int32) (x4 : Int32) (F : PF) (G : PG) (hK : COF F0 F) : PP (cb_X4_whileStatement_61 fu rc x1 x2 x3 x4 F G) (fun _ F' _ => COF F0 F') := by
  unfold cb_X4_whileStatement_61
  refine PP.bind (cw_X1_aim (F 31) x3 F G) ?_
  intro r1 F1 G1 hK1
  dsimp only
  exact koj_X4_whileStatement_73 rc ih x1 x2 x4 F1 G1 (COF.tr hK (COF.k hK1 rfl rfl rfl rfl))
theorem koj_X4_whileStatement_51 {fu : Nat} (rc : RC) (ih : kOI2 rc) {F0 : PF} (x1 : Int32) (x2 : Int32) (x3 : Int32) (x4 : Int32) (F : PF) (G : PG) (hK : COF F0 F) : PP (cb_X4_whileStatement_51 fu rc x1 x2 x3 x4 F G) (fun _ F' _ => COF F0 F') := by
  unfold cb_X4_whileStatement_51
  refine PP.bind (ko_X1_addPair (84 : Int32) x3 F G) ?_
  intro r1 F1 G1 hK1
  dsimp only
  exact koj_X4_whileStatement_61 rc ih x1 x2 x3 x4 F1 G1 (COF.tr hK hK1)
theorem koj_X4_whileStatement_45 {fu : Nat} (rc : RC) (ih : kOI2 rc) {F0 : PF} (x1 : Int32) (x2 : Int32) (x3 : Int32) (z0 : Int32) (F : PF) (G : PG) (hK : COF F0 F) : PP (cb_X4_whileStatement_45 fu rc x1 x2 x3 z0 F G) (fun _ F' _ => COF F0 F') := by
  unfold cb_X4_whileStatement_45
  refine PP.bind (ih 5 0 0 F G) ?_
  intro r1 F1 G1 hK1
  dsimp only
  exact koj_X4_whileStatement_51 rc ih x1 x2 x3 z0 F1 G1 (COF.tr hK hK1)
theorem koj_X4_whileStatement_35 {fu : Nat} (rc : RC) (ih : kOI2 rc) {F0 : PF} (x1 : Int32) (x2 : Int32) (x3 : Int32) (F : PF) (G : PG) (hK : COF F0 F) : PP (cb_X4_whileStatement_35 fu rc x1 x2 x3 F G) (fun _ F' _ => COF F0 F') := by
  unfold cb_X4_whileStatement_35
  refine PP.bind (ko_X1_addJump (86 : Int32) (-1 : Int32) F G) ?_
  intro r1 F1 G1 hK1
  dsimp only
  exact koj_X4_whileStatement_45 rc ih x1 x2 x3 r1 F1 G1 (COF.tr hK hK1)
theorem koj_X4_whileStatement_13 {fu : Nat} (rc : RC) (ih : kOI2 rc) {F0 : PF} (F : PF) (G : PG) (hK : COF F0 F) : PP (cb_X4_whileStatement_13 fu rc F G) (fun _ F' _ => COF F0 F') := by
  unfold cb_X4_whileStatement_13
  refine PP.bind (ko_X4_condition F G) ?_
  intro r1 F1 G1 hK1
  dsimp only
  exact koj_X4_whileStatement_35 rc ih (F 30) (F 31) (F 6) F1 G1 (COF.tr hK hK1)
theorem koj_X4_whileStatement_9 {fu : Nat} (rc : RC) (ih : kOI2 rc) {F0 : PF} (z0 : Int32) (F : PF) (G : PG) (hK : COF F0 F) : PP (cb_X4_whileStatement_9 fu rc z0 F G) (fun _ F' _ => COF F0 F') := by
  unfold cb_X4_whileStatement_9
  refine PP.ite (fun c_1 => ?_) (fun c_1 => ?_)
  · skip
    exact koj_X4_whileStatement_12 rc ih F G hK
  · skip
    exact koj_X4_whileStatement_13 rc ih F G hK
theorem kot_X4_whileStatement {fu : Nat} (rc : RC) (ih : kOI2 rc) (F : PF) (G : PG) : PP (ch_X4_whileStatement fu rc F G) (fun _ F' _ => COF F F') := by
  unfold ch_X4_whileStatement
  unfold cb_X4_whileStatement_0
  refine PP.bind (cw_X2_opens (10 : Int32) F G) ?_
  intro r1 F1 G1 hK1
  dsimp only
  exact koj_X4_whileStatement_9 rc ih r1 F1 G1 (COF.tr COF.rf (COF.k hK1 rfl rfl rfl rfl))
theorem koS2 {fu : Nat} : ∀ d : Nat, kOI2 (cS2 fu d) := by
  intro d
  induction d with
  | zero => exact fun _ _ _ _ _ => PP.no
  | succ d ih =>
    intro i x y F G
    exact PP.ite (fun _ => kot_X4_block (cS2 fu d) ih F G) (fun _ => PP.ite (fun _ => kot_X4_doStatement (cS2 fu d) ih F G) (fun _ => PP.ite (fun _ => kot_X4_forStatement (cS2 fu d) ih F G) (fun _ => PP.ite (fun _ => kot_X4_ifStatement (cS2 fu d) ih F G) (fun _ => PP.ite (fun _ => kot_X4_inner (cS2 fu d) ih F G) (fun _ => PP.ite (fun _ => kot_X4_loopBody (cS2 fu d) ih F G) (fun _ => PP.ite (fun _ => kot_X4_statement (cS2 fu d) ih F G) (fun _ => PP.ite (fun _ => kot_X4_whileStatement (cS2 fu d) ih F G) (fun _ => PP.no))))))))
theorem ko_X4_block {fu : Nat} (F : PF) (G : PG) : PP (cf_X4_block fu F G) (fun _ F' _ => COF F F') := koS2 300 0 0 0 F G
theorem ko_X4_doStatement {fu : Nat} (F : PF) (G : PG) : PP (cf_X4_doStatement fu F G) (fun _ F' _ => COF F F') := koS2 300 1 0 0 F G
theorem ko_X4_forStatement {fu : Nat} (F : PF) (G : PG) : PP (cf_X4_forStatement fu F G) (fun _ F' _ => COF F F') := koS2 300 2 0 0 F G
theorem ko_X4_ifStatement {fu : Nat} (F : PF) (G : PG) : PP (cf_X4_ifStatement fu F G) (fun _ F' _ => COF F F') := koS2 300 3 0 0 F G
theorem ko_X4_inner {fu : Nat} (F : PF) (G : PG) : PP (cf_X4_inner fu F G) (fun _ F' _ => COF F F') := koS2 300 4 0 0 F G
theorem ko_X4_loopBody {fu : Nat} (F : PF) (G : PG) : PP (cf_X4_loopBody fu F G) (fun _ F' _ => COF F F') := koS2 300 5 0 0 F G
theorem ko_X4_statement {fu : Nat} (F : PF) (G : PG) : PP (cf_X4_statement fu F G) (fun _ F' _ => COF F F') := koS2 300 6 0 0 F G
theorem ko_X4_whileStatement {fu : Nat} (F : PF) (G : PG) : PP (cf_X4_whileStatement fu F G) (fun _ F' _ => COF F F') := koS2 300 7 0 0 F G
theorem koj_X4_constTold_38 {fu : Nat} {F0 : PF} (F : PF) (G : PG) (hK : COF F0 F) : PP (cb_X4_constTold_38 fu F G) (fun _ F' _ => COF F0 F') := by
  unfold cb_X4_constTold_38
  refine PP.ret ?_
  exact hK
theorem koj_X4_constTold_26 {fu : Nat} {F0 : PF} (x1 : Int32) (x2 : Int32) (x3 : Int32) (F : PF) (G : PG) (hK : COF F0 F) : PP (cb_X4_constTold_26 fu x1 x2 x3 F G) (fun _ F' _ => COF F0 F') := by
  unfold cb_X4_constTold_26
  refine PP.bind (cw_X5_tell x1 x2 (0 : Int32) x3 (0 : Int32) F G) ?_
  intro r1 F1 G1 hK1
  dsimp only
  exact koj_X4_constTold_38 F1 G1 (COF.tr hK (COF.k hK1 rfl rfl rfl rfl))
theorem koj_X4_constTold_16 {fu : Nat} {F0 : PF} (x1 : Int32) (x2 : Int32) (z0 : Int32) (F : PF) (G : PG) (hK : COF F0 F) : PP (cb_X4_constTold_16 fu x1 x2 z0 F G) (fun _ F' _ => COF F0 F') := by
  unfold cb_X4_constTold_16
  refine PP.bind (cw_X2_expect (26 : Int32) F G) ?_
  intro r1 F1 G1 hK1
  dsimp only
  exact koj_X4_constTold_26 x1 x2 z0 F1 G1 (COF.tr hK (COF.k hK1 rfl rfl rfl rfl))
theorem koj_X4_constTold_9 {fu : Nat} {F0 : PF} (x1 : Int32) (x2 : Int32) (F : PF) (G : PG) (hK : COF F0 F) : PP (cb_X4_constTold_9 fu x1 x2 F G) (fun _ F' _ => COF F0 F') := by
  unfold cb_X4_constTold_9
  refine PP.bind (ko_X3_constant F G) ?_
  intro r1 F1 G1 hK1
  dsimp only
  exact koj_X4_constTold_16 x1 x2 r1 F1 G1 (COF.tr hK hK1)
theorem ko_X4_constTold {fu : Nat} (x1 : Int32) (x2 : Int32) (F : PF) (G : PG) : PP (cf_X4_constTold fu x1 x2 F G) (fun _ F' _ => COF F F') := by
  unfold cf_X4_constTold
  unfold cb_X4_constTold_0
  refine PP.bind (cw_X2_expect (29 : Int32) F G) ?_
  intro r1 F1 G1 hK1
  dsimp only
  exact koj_X4_constTold_9 x1 x2 F1 G1 (COF.tr COF.rf (COF.k hK1 rfl rfl rfl rfl))
theorem koj_X4_elements_12 {fu : Nat} {F0 : PF} (F : PF) (G : PG) (hK : COF F0 F) : PP (cb_X4_elements_12 fu F G) (fun _ F' _ => COF F0 F') := by
  unfold cb_X4_elements_12
  refine PP.ret ?_
  exact hK
theorem koj_X4_elements_149 {fu : Nat} {F0 : PF} (F : PF) (G : PG) (hK : COF F0 F) : PP (cb_X4_elements_149 fu F G) (fun _ F' _ => COF F0 F') := by
  unfold cb_X4_elements_149
  refine PP.ret ?_
  exact hK
theorem koj_X4_elements_140 {fu : Nat} {F0 : PF} (F : PF) (G : PG) (hK : COF F0 F) : PP (cb_X4_elements_140 fu F G) (fun _ F' _ => COF F0 F') := by
  unfold cb_X4_elements_140
  refine PP.bind (cw_X2_closesWith (24 : Int32) F G) ?_
  intro r1 F1 G1 hK1
  dsimp only
  exact koj_X4_elements_149 F1 G1 (COF.tr hK (COF.k hK1 rfl rfl rfl rfl))
theorem koj_X4_elements_134 {fu : Nat} {F0 : PF} (ag_19 : Int32 → Int32 → Int32 → Int32 → Int32 → PF → PG → PR) (hag_19 : ∀ (x1 : Int32) (x2 : Int32) (x3 : Int32) (x4 : Int32) (x5 : Int32) (F : PF) (G : PG) (hK : COF F0 F), PP (ag_19 x1 x2 x3 x4 x5 F G) (fun _ F' _ => COF F0 F')) (x1 : Int32) (x2 : Int32) (x3 : Int32) (x4 : Int32) (x5 : Int32) (F : PF) (G : PG) (hK : COF F0 F) : PP (cb_X4_elements_134 fu ag_19 x1 x2 x3 x4 x5 F G) (fun _ F' _ => COF F0 F') := by
  unfold cb_X4_elements_134
  exact hag_19 x1 x2 x3 x4 (x5 + (1 : Int32)) F G hK
theorem koj_X4_elements_127 {fu : Nat} {F0 : PF} (ag_19 : Int32 → Int32 → Int32 → Int32 → Int32 → PF → PG → PR) (hag_19 : ∀ (x1 : Int32) (x2 : Int32) (x3 : Int32) (x4 : Int32) (x5 : Int32) (F : PF) (G : PG) (hK : COF F0 F), PP (ag_19 x1 x2 x3 x4 x5 F G) (fun _ F' _ => COF F0 F')) (x1 : Int32) (x2 : Int32) (x3 : Int32) (x4 : Int32) (x5 : Int32) (F : PF) (G : PG) (hK : COF F0 F) : PP (cb_X4_elements_127 fu ag_19 x1 x2 x3 x4 x5 F G) (fun _ F' _ => COF F0 F') := by
  unfold cb_X4_elements_127
  refine PP.bind (cw_X2_next F G) ?_
  intro r1 F1 G1 hK1
  dsimp only
  exact koj_X4_elements_134 ag_19 hag_19 x1 x2 x3 x4 x5 F1 G1 (COF.tr hK (COF.k hK1 rfl rfl rfl rfl))
theorem koj_X4_elements_120 {fu : Nat} {F0 : PF} (ag_19 : Int32 → Int32 → Int32 → Int32 → Int32 → PF → PG → PR) (hag_19 : ∀ (x1 : Int32) (x2 : Int32) (x3 : Int32) (x4 : Int32) (x5 : Int32) (F : PF) (G : PG) (hK : COF F0 F), PP (ag_19 x1 x2 x3 x4 x5 F G) (fun _ F' _ => COF F0 F')) (x1 : Int32) (x2 : Int32) (x3 : Int32) (x5 : Int32) (z0 : Int32) (F : PF) (G : PG) (hK : COF F0 F) : PP (cb_X4_elements_120 fu ag_19 x1 x2 x3 x5 z0 F G) (fun _ F' _ => COF F0 F') := by
  unfold cb_X4_elements_120
  refine PP.ite (fun c_1 => ?_) (fun c_1 => ?_)
  · skip
    exact koj_X4_elements_134 ag_19 hag_19 x1 x2 x3 z0 x5 F G hK
  · skip
    exact koj_X4_elements_127 ag_19 hag_19 x1 x2 x3 z0 x5 F G hK
theorem koj_X4_elements_115 {fu : Nat} {F0 : PF} (ag_19 : Int32 → Int32 → Int32 → Int32 → Int32 → PF → PG → PR) (hag_19 : ∀ (x1 : Int32) (x2 : Int32) (x3 : Int32) (x4 : Int32) (x5 : Int32) (F : PF) (G : PG) (hK : COF F0 F), PP (ag_19 x1 x2 x3 x4 x5 F G) (fun _ F' _ => COF F0 F')) (x1 : Int32) (x2 : Int32) (x3 : Int32) (x5 : Int32) (F : PF) (G : PG) (hK : COF F0 F) : PP (cb_X4_elements_115 fu ag_19 x1 x2 x3 x5 F G) (fun _ F' _ => COF F0 F') := by
  unfold cb_X4_elements_115
  exact koj_X4_elements_120 ag_19 hag_19 x1 x2 x3 x5 (1 : Int32) F G hK
theorem koj_X4_elements_119 {fu : Nat} {F0 : PF} (ag_19 : Int32 → Int32 → Int32 → Int32 → Int32 → PF → PG → PR) (hag_19 : ∀ (x1 : Int32) (x2 : Int32) (x3 : Int32) (x4 : Int32) (x5 : Int32) (F : PF) (G : PG) (hK : COF F0 F), PP (ag_19 x1 x2 x3 x4 x5 F G) (fun _ F' _ => COF F0 F')) (x1 : Int32) (x2 : Int32) (x3 : Int32) (x5 : Int32) (F : PF) (G : PG) (hK : COF F0 F) : PP (cb_X4_elements_119 fu ag_19 x1 x2 x3 x5 F G) (fun _ F' _ => COF F0 F') := by
  unfold cb_X4_elements_119
  exact koj_X4_elements_120 ag_19 hag_19 x1 x2 x3 x5 (0 : Int32) F G hK
theorem koj_X4_elements_103 {fu : Nat} {F0 : PF} (ag_19 : Int32 → Int32 → Int32 → Int32 → Int32 → PF → PG → PR) (hag_19 : ∀ (x1 : Int32) (x2 : Int32) (x3 : Int32) (x4 : Int32) (x5 : Int32) (F : PF) (G : PG) (hK : COF F0 F), PP (ag_19 x1 x2 x3 x4 x5 F G) (fun _ F' _ => COF F0 F')) (x1 : Int32) (x2 : Int32) (x3 : Int32) (x5 : Int32) (F : PF) (G : PG) (hK : COF F0 F) : PP (cb_X4_elements_103 fu ag_19 x1 x2 x3 x5 F G) (fun _ F' _ => COF F0 F') := by
  unfold cb_X4_elements_103
  refine PP.ite (fun c_1 => ?_) (fun c_1 => ?_)
  · skip
    exact koj_X4_elements_115 ag_19 hag_19 x1 x2 x3 x5 F G hK
  · skip
    exact koj_X4_elements_119 ag_19 hag_19 x1 x2 x3 x5 F G hK
theorem koj_X4_elements_88 {fu : Nat} {F0 : PF} (ag_19 : Int32 → Int32 → Int32 → Int32 → Int32 → PF → PG → PR) (hag_19 : ∀ (x1 : Int32) (x2 : Int32) (x3 : Int32) (x4 : Int32) (x5 : Int32) (F : PF) (G : PG) (hK : COF F0 F), PP (ag_19 x1 x2 x3 x4 x5 F G) (fun _ F' _ => COF F0 F')) (x1 : Int32) (x2 : Int32) (x3 : Int32) (x5 : Int32) (F : PF) (G : PG) (hK : COF F0 F) : PP (cb_X4_elements_88 fu ag_19 x1 x2 x3 x5 F G) (fun _ F' _ => COF F0 F') := by
  unfold cb_X4_elements_88
  exact koj_X4_elements_103 ag_19 hag_19 x1 x2 x3 x5 F G hK
theorem koj_X4_elements_75 {fu : Nat} {F0 : PF} (ag_19 : Int32 → Int32 → Int32 → Int32 → Int32 → PF → PG → PR) (hag_19 : ∀ (x1 : Int32) (x2 : Int32) (x3 : Int32) (x4 : Int32) (x5 : Int32) (F : PF) (G : PG) (hK : COF F0 F), PP (ag_19 x1 x2 x3 x4 x5 F G) (fun _ F' _ => COF F0 F')) (x1 : Int32) (x2 : Int32) (x3 : Int32) (x5 : Int32) (x7 : Int32) (F : PF) (G : PG) (hK : COF F0 F) : PP (cb_X4_elements_75 fu ag_19 x1 x2 x3 x5 x7 F G) (fun _ F' _ => COF F0 F') := by
  unfold cb_X4_elements_75
  refine PP.bind (cw_X8_tellInt (x2 + x5) x7 F G) ?_
  intro r1 F1 G1 hK1
  dsimp only
  exact koj_X4_elements_88 ag_19 hag_19 x1 x2 x3 x5 F1 G1 (COF.tr hK (COF.k hK1 rfl rfl rfl rfl))
theorem koj_X4_elements_91 {fu : Nat} {F0 : PF} (ag_19 : Int32 → Int32 → Int32 → Int32 → Int32 → PF → PG → PR) (hag_19 : ∀ (x1 : Int32) (x2 : Int32) (x3 : Int32) (x4 : Int32) (x5 : Int32) (F : PF) (G : PG) (hK : COF F0 F), PP (ag_19 x1 x2 x3 x4 x5 F G) (fun _ F' _ => COF F0 F')) (x1 : Int32) (x2 : Int32) (x3 : Int32) (x5 : Int32) (x7 : Int32) (F : PF) (G : PG) (hK : COF F0 F) : PP (cb_X4_elements_91 fu ag_19 x1 x2 x3 x5 x7 F G) (fun _ F' _ => COF F0 F') := by
  unfold cb_X4_elements_91
  refine PP.bind (cw_X8_tellByte x2 x5 x7 F G) ?_
  intro r1 F1 G1 hK1
  dsimp only
  exact koj_X4_elements_103 ag_19 hag_19 x1 x2 x3 x5 F1 G1 (COF.tr hK (COF.k hK1 rfl rfl rfl rfl))
theorem koj_X4_elements_70 {fu : Nat} {F0 : PF} (ag_19 : Int32 → Int32 → Int32 → Int32 → Int32 → PF → PG → PR) (hag_19 : ∀ (x1 : Int32) (x2 : Int32) (x3 : Int32) (x4 : Int32) (x5 : Int32) (F : PF) (G : PG) (hK : COF F0 F), PP (ag_19 x1 x2 x3 x4 x5 F G) (fun _ F' _ => COF F0 F')) (x1 : Int32) (x2 : Int32) (x3 : Int32) (x5 : Int32) (x7 : Int32) (F : PF) (G : PG) (hK : COF F0 F) : PP (cb_X4_elements_70 fu ag_19 x1 x2 x3 x5 x7 F G) (fun _ F' _ => COF F0 F') := by
  unfold cb_X4_elements_70
  refine PP.ite (fun c_1 => ?_) (fun c_1 => ?_)
  · skip
    exact koj_X4_elements_75 ag_19 hag_19 x1 x2 x3 x5 x7 F G hK
  · skip
    exact koj_X4_elements_91 ag_19 hag_19 x1 x2 x3 x5 x7 F G hK
theorem koj_X4_elements_67 {fu : Nat} {F0 : PF} (ag_19 : Int32 → Int32 → Int32 → Int32 → Int32 → PF → PG → PR) (hag_19 : ∀ (x1 : Int32) (x2 : Int32) (x3 : Int32) (x4 : Int32) (x5 : Int32) (F : PF) (G : PG) (hK : COF F0 F), PP (ag_19 x1 x2 x3 x4 x5 F G) (fun _ F' _ => COF F0 F')) (x1 : Int32) (x2 : Int32) (x3 : Int32) (x5 : Int32) (F : PF) (G : PG) (hK : COF F0 F) : PP (cb_X4_elements_67 fu ag_19 x1 x2 x3 x5 F G) (fun _ F' _ => COF F0 F') := by
  unfold cb_X4_elements_67
  exact koj_X4_elements_103 ag_19 hag_19 x1 x2 x3 x5 F G hK
theorem koj_X4_elements_56 {fu : Nat} {F0 : PF} (ag_19 : Int32 → Int32 → Int32 → Int32 → Int32 → PF → PG → PR) (hag_19 : ∀ (x1 : Int32) (x2 : Int32) (x3 : Int32) (x4 : Int32) (x5 : Int32) (F : PF) (G : PG) (hK : COF F0 F), PP (ag_19 x1 x2 x3 x4 x5 F G) (fun _ F' _ => COF F0 F')) (x1 : Int32) (x2 : Int32) (x3 : Int32) (x5 : Int32) (x6 : Int32) (F : PF) (G : PG) (hK : COF F0 F) : PP (cb_X4_elements_56 fu ag_19 x1 x2 x3 x5 x6 F G) (fun _ F' _ => COF F0 F') := by
  unfold cb_X4_elements_56
  refine PP.bind (cw_X5_note (7 : Int32) x6 F G) ?_
  intro r1 F1 G1 hK1
  dsimp only
  exact koj_X4_elements_67 ag_19 hag_19 x1 x2 x3 x5 F1 G1 (COF.tr hK (COF.k hK1 rfl rfl rfl rfl))
theorem koj_X4_elements_48 {fu : Nat} {F0 : PF} (ag_19 : Int32 → Int32 → Int32 → Int32 → Int32 → PF → PG → PR) (hag_19 : ∀ (x1 : Int32) (x2 : Int32) (x3 : Int32) (x4 : Int32) (x5 : Int32) (F : PF) (G : PG) (hK : COF F0 F), PP (ag_19 x1 x2 x3 x4 x5 F G) (fun _ F' _ => COF F0 F')) (x1 : Int32) (x2 : Int32) (x3 : Int32) (x5 : Int32) (x6 : Int32) (z0 : Int32) (F : PF) (G : PG) (hK : COF F0 F) : PP (cb_X4_elements_48 fu ag_19 x1 x2 x3 x5 x6 z0 F G) (fun _ F' _ => COF F0 F') := by
  unfold cb_X4_elements_48
  refine PP.ite (fun c_1 => ?_) (fun c_1 => ?_)
  · skip
    exact koj_X4_elements_70 ag_19 hag_19 x1 x2 x3 x5 z0 F G hK
  · skip
    exact koj_X4_elements_56 ag_19 hag_19 x1 x2 x3 x5 x6 F G hK
theorem koj_X4_elements_32 {fu : Nat} {F0 : PF} (ag_19 : Int32 → Int32 → Int32 → Int32 → Int32 → PF → PG → PR) (hag_19 : ∀ (x1 : Int32) (x2 : Int32) (x3 : Int32) (x4 : Int32) (x5 : Int32) (F : PF) (G : PG) (hK : COF F0 F), PP (ag_19 x1 x2 x3 x4 x5 F G) (fun _ F' _ => COF F0 F')) (x1 : Int32) (x2 : Int32) (x3 : Int32) (x5 : Int32) (F : PF) (G : PG) (hK : COF F0 F) : PP (cb_X4_elements_32 fu ag_19 x1 x2 x3 x5 F G) (fun _ F' _ => COF F0 F') := by
  unfold cb_X4_elements_32
  refine PP.bind (ko_X3_constant F G) ?_
  intro r1 F1 G1 hK1
  dsimp only
  exact koj_X4_elements_48 ag_19 hag_19 x1 x2 x3 x5 (F 13) r1 F1 G1 (COF.tr hK hK1)
theorem koj_X4_elements_27 {fu : Nat} {F0 : PF} (ag_19 : Int32 → Int32 → Int32 → Int32 → Int32 → PF → PG → PR) (hag_19 : ∀ (x1 : Int32) (x2 : Int32) (x3 : Int32) (x4 : Int32) (x5 : Int32) (F : PF) (G : PG) (hK : COF F0 F), PP (ag_19 x1 x2 x3 x4 x5 F G) (fun _ F' _ => COF F0 F')) (x1 : Int32) (x2 : Int32) (x3 : Int32) (x4 : Int32) (x5 : Int32) (F : PF) (G : PG) (hK : COF F0 F) : PP (cb_X4_elements_27 fu ag_19 x1 x2 x3 x4 x5 F G) (fun _ F' _ => COF F0 F') := by
  unfold cb_X4_elements_27
  refine PP.ite (fun c_1 => ?_) (fun c_1 => ?_)
  · skip
    exact koj_X4_elements_140 F G hK
  · skip
    exact koj_X4_elements_32 ag_19 hag_19 x1 x2 x3 x5 F G hK
theorem koz_X4_elements_19 {fu : Nat} {F0 : PF} : ∀ (n : Nat) (x1 : Int32) (x2 : Int32) (x3 : Int32) (x4 : Int32) (x5 : Int32) (F : PF) (G : PG) (hK : COF F0 F), PP (cl_X4_elements_19 fu n x1 x2 x3 x4 x5 F G) (fun _ F' _ => COF F0 F') := by
  intro n
  induction n with
  | zero =>
    intro x1 x2 x3 x4 x5 F G hK
    exact PP.no
  | succ n ihn =>
    intro x1 x2 x3 x4 x5 F G hK
    show PP (cb_X4_elements_19 fu (cl_X4_elements_19 fu n) x1 x2 x3 x4 x5 F G) _
    unfold cb_X4_elements_19
    refine PP.ite (fun c_1 => ?_) (fun c_1 => ?_)
    · skip
      exact koj_X4_elements_140 F G hK
    · skip
      exact koj_X4_elements_27 (cl_X4_elements_19 fu n) ihn x1 x2 x3 x4 x5 F G hK
theorem koj_X4_elements_13 {fu : Nat} {F0 : PF} (x1 : Int32) (x2 : Int32) (x3 : Int32) (F : PF) (G : PG) (hK : COF F0 F) : PP (cb_X4_elements_13 fu x1 x2 x3 F G) (fun _ F' _ => COF F0 F') := by
  unfold cb_X4_elements_13
  exact koz_X4_elements_19 fu x1 x2 x3 (1 : Int32) (0 : Int32) F G hK
theorem koj_X4_elements_9 {fu : Nat} {F0 : PF} (x1 : Int32) (x2 : Int32) (x3 : Int32) (z0 : Int32) (F : PF) (G : PG) (hK : COF F0 F) : PP (cb_X4_elements_9 fu x1 x2 x3 z0 F G) (fun _ F' _ => COF F0 F') := by
  unfold cb_X4_elements_9
  refine PP.ite (fun c_1 => ?_) (fun c_1 => ?_)
  · skip
    exact koj_X4_elements_12 F G hK
  · skip
    exact koj_X4_elements_13 x1 x2 x3 F G hK
theorem ko_X4_elements {fu : Nat} (x1 : Int32) (x2 : Int32) (x3 : Int32) (F : PF) (G : PG) : PP (cf_X4_elements fu x1 x2 x3 F G) (fun _ F' _ => COF F F') := by
  unfold cf_X4_elements
  unfold cb_X4_elements_0
  refine PP.bind (cw_X2_opens (23 : Int32) F G) ?_
  intro r1 F1 G1 hK1
  dsimp only
  exact koj_X4_elements_9 x1 x2 x3 r1 F1 G1 (COF.tr COF.rf (COF.k hK1 rfl rfl rfl rfl))
theorem koj_X4_globalArray_76 {fu : Nat} {F0 : PF} (F : PF) (G : PG) (hK : COF F0 F) : PP (cb_X4_globalArray_76 fu F G) (fun _ F' _ => COF F0 F') := by
  unfold cb_X4_globalArray_76
  refine PP.ret ?_
  exact hK
theorem koj_X4_globalArray_62 {fu : Nat} {F0 : PF} (x1 : Int32) (x2 : Int32) (x3 : Int32) (x4 : Int32) (x5 : Int32) (F : PF) (G : PG) (hK : COF F0 F) : PP (cb_X4_globalArray_62 fu x1 x2 x3 x4 x5 F G) (fun _ F' _ => COF F0 F') := by
  unfold cb_X4_globalArray_62
  refine PP.bind (cw_X5_tell x1 x2 x3 x5 x4 F G) ?_
  intro r1 F1 G1 hK1
  dsimp only
  exact koj_X4_globalArray_76 F1 G1 (COF.tr hK (COF.k hK1 rfl rfl rfl rfl))
theorem koj_X4_globalArray_53 {fu : Nat} {F0 : PF} (x1 : Int32) (x2 : Int32) (x3 : Int32) (x4 : Int32) (x5 : Int32) (F : PF) (G : PG) (hK : COF F0 F) : PP (cb_X4_globalArray_53 fu x1 x2 x3 x4 x5 F G) (fun _ F' _ => COF F0 F') := by
  unfold cb_X4_globalArray_53
  refine PP.bind (cw_X2_expect (26 : Int32) F G) ?_
  intro r1 F1 G1 hK1
  dsimp only
  exact koj_X4_globalArray_62 x1 x2 x3 x4 x5 F1 G1 (COF.tr hK (COF.k hK1 rfl rfl rfl rfl))
theorem koj_X4_globalArray_44 {fu : Nat} {F0 : PF} (x1 : Int32) (x2 : Int32) (x3 : Int32) (x4 : Int32) (x5 : Int32) (F : PF) (G : PG) (hK : COF F0 F) : PP (cb_X4_globalArray_44 fu x1 x2 x3 x4 x5 F G) (fun _ F' _ => COF F0 F') := by
  unfold cb_X4_globalArray_44
  refine PP.bind (ko_X4_elements x3 x5 x4 F G) ?_
  intro r1 F1 G1 hK1
  dsimp only
  exact koj_X4_globalArray_53 x1 x2 x3 x4 x5 F1 G1 (COF.tr hK hK1)
theorem koj_X4_globalArray_37 {fu : Nat} {F0 : PF} (x1 : Int32) (x2 : Int32) (x3 : Int32) (x4 : Int32) (x5 : Int32) (F : PF) (G : PG) (hK : COF F0 F) : PP (cb_X4_globalArray_37 fu x1 x2 x3 x4 x5 F G) (fun _ F' _ => COF F0 F') := by
  unfold cb_X4_globalArray_37
  refine PP.bind (cw_X2_next F G) ?_
  intro r1 F1 G1 hK1
  dsimp only
  exact koj_X4_globalArray_44 x1 x2 x3 x4 x5 F1 G1 (COF.tr hK (COF.k hK1 rfl rfl rfl rfl))
theorem koj_X4_globalArray_23 {fu : Nat} {F0 : PF} (x1 : Int32) (x2 : Int32) (x3 : Int32) (x4 : Int32) (z0 : Int32) (F : PF) (G : PG) (hK : COF F0 F) : PP (cb_X4_globalArray_23 fu x1 x2 x3 x4 z0 F G) (fun _ F' _ => COF F0 F') := by
  unfold cb_X4_globalArray_23
  refine PP.ite (fun c_1 => ?_) (fun c_1 => ?_)
  · skip
    exact koj_X4_globalArray_37 x1 x2 x3 x4 z0 F G hK
  · skip
    exact koj_X4_globalArray_53 x1 x2 x3 x4 z0 F G hK
theorem koj_X4_globalArray_19 {fu : Nat} {F0 : PF} (x1 : Int32) (x2 : Int32) (x3 : Int32) (x4 : Int32) (z0 : Int32) (F : PF) (G : PG) (hK : COF F0 F) : PP (cb_X4_globalArray_19 fu x1 x2 x3 x4 z0 F G) (fun _ F' _ => COF F0 F') := by
  unfold cb_X4_globalArray_19
  refine PP.bind (ko_X5_globalRoom z0 x2 F G) ?_
  intro r1 F1 G1 hK1
  dsimp only
  exact koj_X4_globalArray_23 x1 x2 x3 x4 r1 F1 G1 (COF.tr hK hK1)
theorem koj_X4_globalArray_7 {fu : Nat} {F0 : PF} (x1 : Int32) (x2 : Int32) (x3 : Int32) (z0 : Int32) (F : PF) (G : PG) (hK : COF F0 F) : PP (cb_X4_globalArray_7 fu x1 x2 x3 z0 F G) (fun _ F' _ => COF F0 F') := by
  unfold cb_X4_globalArray_7
  refine PP.bind (cw_X4_wordsOf x3 z0 F G) ?_
  intro r1 F1 G1 hK1
  dsimp only
  exact koj_X4_globalArray_19 x1 x2 x3 z0 r1 F1 G1 (COF.tr hK (COF.k hK1 rfl rfl rfl rfl))
theorem ko_X4_globalArray {fu : Nat} (x1 : Int32) (x2 : Int32) (x3 : Int32) (F : PF) (G : PG) : PP (cf_X4_globalArray fu x1 x2 x3 F G) (fun _ F' _ => COF F F') := by
  unfold cf_X4_globalArray
  unfold cb_X4_globalArray_0
  refine PP.bind (ko_X3_arraySize F G) ?_
  intro r1 F1 G1 hK1
  dsimp only
  exact koj_X4_globalArray_7 x1 x2 x3 r1 F1 G1 (COF.tr COF.rf hK1)
theorem koj_X4_walk_299 {fu : Nat} {F0 : PF} (z0 : Int32) (F : PF) (G : PG) (hK : COF F0 F) : PP (cb_X4_walk_299 fu z0 F G) (fun _ F' _ => COF F0 F') := by
  unfold cb_X4_walk_299
  refine PP.ret ?_
  exact hK
theorem koj_X4_walk_292 {fu : Nat} {F0 : PF} (F : PF) (G : PG) (hK : COF F0 F) : PP (cb_X4_walk_292 fu F G) (fun _ F' _ => COF F0 F') := by
  unfold cb_X4_walk_292
  exact koj_X4_walk_299 (F 14) F G hK
theorem koj_X4_walk_289 {fu : Nat} {F0 : PF} (z0 : Int32) (F : PF) (G : PG) (hK : COF F0 F) : PP (cb_X4_walk_289 fu z0 F G) (fun _ F' _ => COF F0 F') := by
  unfold cb_X4_walk_289
  exact koj_X4_walk_299 z0 F G hK
theorem koj_X4_walk_282 {fu : Nat} {F0 : PF} (F : PF) (G : PG) (hK : COF F0 F) : PP (cb_X4_walk_282 fu F G) (fun _ F' _ => COF F0 F') := by
  unfold cb_X4_walk_282
  refine PP.bind (cw_X5_fault F G) ?_
  intro r1 F1 G1 hK1
  dsimp only
  exact koj_X4_walk_289 r1 F1 G1 (COF.tr hK (COF.k hK1 rfl rfl rfl rfl))
theorem koj_X4_walk_278 {fu : Nat} {F0 : PF} (x1 : Int32) (F : PF) (G : PG) (hK : COF F0 F) : PP (cb_X4_walk_278 fu x1 F G) (fun _ F' _ => COF F0 F') := by
  unfold cb_X4_walk_278
  refine PP.ite (fun c_1 => ?_) (fun c_1 => ?_)
  · skip
    exact koj_X4_walk_292 F G hK
  · skip
    exact koj_X4_walk_282 F G hK
theorem koj_X4_walk_262 {fu : Nat} {F0 : PF} (x1 : Int32) (F : PF) (G : PG) (hK : COF F0 F) : PP (cb_X4_walk_262 fu x1 F G) (fun _ F' _ => COF F0 F') := by
  unfold cb_X4_walk_262
  refine PP.bind (cw_X5_note (9 : Int32) (F 13) F G) ?_
  intro r1 F1 G1 hK1
  dsimp only
  exact koj_X4_walk_278 x1 F1 G1 (COF.tr hK (COF.k hK1 rfl rfl rfl rfl))
theorem koj_X4_walk_251 {fu : Nat} {F0 : PF} (x1 : Int32) (F : PF) (G : PG) (hK : COF F0 F) : PP (cb_X4_walk_251 fu x1 F G) (fun _ F' _ => COF F0 F') := by
  unfold cb_X4_walk_251
  refine PP.ite (fun c_1 => ?_) (fun c_1 => ?_)
  · skip
    exact koj_X4_walk_262 x1 F G hK
  · skip
    exact koj_X4_walk_278 x1 F G hK
theorem koj_X4_walk_245 {fu : Nat} {F0 : PF} (ag_7 : Int32 → Int32 → PF → PG → PR) (hag_7 : ∀ (x1 : Int32) (x2 : Int32) (F : PF) (G : PG) (hK : COF F0 F), PP (ag_7 x1 x2 F G) (fun _ F' _ => COF F0 F')) (x1 : Int32) (x2 : Int32) (F : PF) (G : PG) (hK : COF F0 F) : PP (cb_X4_walk_245 fu ag_7 x1 x2 F G) (fun _ F' _ => COF F0 F') := by
  unfold cb_X4_walk_245
  exact hag_7 x1 (x2 + (1 : Int32)) F G hK
theorem koj_X4_walk_234 {fu : Nat} {F0 : PF} (ag_7 : Int32 → Int32 → PF → PG → PR) (hag_7 : ∀ (x1 : Int32) (x2 : Int32) (F : PF) (G : PG) (hK : COF F0 F), PP (ag_7 x1 x2 F G) (fun _ F' _ => COF F0 F')) (x1 : Int32) (x2 : Int32) (F : PF) (G : PG) (hK : COF F0 F) : PP (cb_X4_walk_234 fu ag_7 x1 x2 F G) (fun _ F' _ => COF F0 F') := by
  unfold cb_X4_walk_234
  exact koj_X4_walk_245 ag_7 hag_7 x1 x2 F G hK
theorem koj_X4_walk_226 {fu : Nat} {F0 : PF} (ag_7 : Int32 → Int32 → PF → PG → PR) (hag_7 : ∀ (x1 : Int32) (x2 : Int32) (F : PF) (G : PG) (hK : COF F0 F), PP (ag_7 x1 x2 F G) (fun _ F' _ => COF F0 F')) (x1 : Int32) (x2 : Int32) (x5 : Int32) (x6 : Int32) (F : PF) (G : PG) (hK : COF F0 F) : PP (cb_X4_walk_226 fu ag_7 x1 x2 x5 x6 F G) (fun _ F' _ => COF F0 F') := by
  unfold cb_X4_walk_226
  refine PP.bind (ko_X4_globalInt x5 x6 F G) ?_
  intro r1 F1 G1 hK1
  dsimp only
  exact koj_X4_walk_234 ag_7 hag_7 x1 x2 F1 G1 (COF.tr hK hK1)
theorem koj_X4_walk_237 {fu : Nat} {F0 : PF} (ag_7 : Int32 → Int32 → PF → PG → PR) (hag_7 : ∀ (x1 : Int32) (x2 : Int32) (F : PF) (G : PG) (hK : COF F0 F), PP (ag_7 x1 x2 F G) (fun _ F' _ => COF F0 F')) (x1 : Int32) (x2 : Int32) (F : PF) (G : PG) (hK : COF F0 F) : PP (cb_X4_walk_237 fu ag_7 x1 x2 F G) (fun _ F' _ => COF F0 F') := by
  unfold cb_X4_walk_237
  refine PP.bind (cw_X2_fail (2 : Int32) F G) ?_
  intro r1 F1 G1 hK1
  dsimp only
  exact koj_X4_walk_245 ag_7 hag_7 x1 x2 F1 G1 (COF.tr hK (COF.k hK1 rfl rfl rfl rfl))
theorem koj_X4_walk_220 {fu : Nat} {F0 : PF} (ag_7 : Int32 → Int32 → PF → PG → PR) (hag_7 : ∀ (x1 : Int32) (x2 : Int32) (F : PF) (G : PG) (hK : COF F0 F), PP (ag_7 x1 x2 F G) (fun _ F' _ => COF F0 F')) (x1 : Int32) (x2 : Int32) (x4 : Int32) (x5 : Int32) (x6 : Int32) (F : PF) (G : PG) (hK : COF F0 F) : PP (cb_X4_walk_220 fu ag_7 x1 x2 x4 x5 x6 F G) (fun _ F' _ => COF F0 F') := by
  unfold cb_X4_walk_220
  refine PP.ite (fun c_1 => ?_) (fun c_1 => ?_)
  · skip
    exact koj_X4_walk_226 ag_7 hag_7 x1 x2 x5 x6 F G hK
  · skip
    exact koj_X4_walk_237 ag_7 hag_7 x1 x2 F G hK
theorem koj_X4_walk_217 {fu : Nat} {F0 : PF} (ag_7 : Int32 → Int32 → PF → PG → PR) (hag_7 : ∀ (x1 : Int32) (x2 : Int32) (F : PF) (G : PG) (hK : COF F0 F), PP (ag_7 x1 x2 F G) (fun _ F' _ => COF F0 F')) (x1 : Int32) (x2 : Int32) (F : PF) (G : PG) (hK : COF F0 F) : PP (cb_X4_walk_217 fu ag_7 x1 x2 F G) (fun _ F' _ => COF F0 F') := by
  unfold cb_X4_walk_217
  exact koj_X4_walk_245 ag_7 hag_7 x1 x2 F G hK
theorem koj_X4_walk_214 {fu : Nat} {F0 : PF} (ag_7 : Int32 → Int32 → PF → PG → PR) (hag_7 : ∀ (x1 : Int32) (x2 : Int32) (F : PF) (G : PG) (hK : COF F0 F), PP (ag_7 x1 x2 F G) (fun _ F' _ => COF F0 F')) (x1 : Int32) (x2 : Int32) (z0 : Int32) (z1 : Int32) (z2 : Int32) (F : PF) (G : PG) (hK : COF F0 F) : PP (cb_X4_walk_214 fu ag_7 x1 x2 z0 z1 z2 F G) (fun _ F' _ => COF F0 F') := by
  unfold cb_X4_walk_214
  refine PP.bind (ko_X4_globalArray z2 z1 z0 F G) ?_
  intro r1 F1 G1 hK1
  dsimp only
  exact koj_X4_walk_217 ag_7 hag_7 x1 x2 F1 G1 (COF.tr hK hK1)
theorem koj_X4_walk_209 {fu : Nat} {F0 : PF} (ag_7 : Int32 → Int32 → PF → PG → PR) (hag_7 : ∀ (x1 : Int32) (x2 : Int32) (F : PF) (G : PG) (hK : COF F0 F), PP (ag_7 x1 x2 F G) (fun _ F' _ => COF F0 F')) (x1 : Int32) (x2 : Int32) (z0 : Int32) (z1 : Int32) (F : PF) (G : PG) (hK : COF F0 F) : PP (cb_X4_walk_209 fu ag_7 x1 x2 z0 z1 F G) (fun _ F' _ => COF F0 F') := by
  unfold cb_X4_walk_209
  exact koj_X4_walk_214 ag_7 hag_7 x1 x2 (2 : Int32) z0 z1 F G hK
theorem koj_X4_walk_213 {fu : Nat} {F0 : PF} (ag_7 : Int32 → Int32 → PF → PG → PR) (hag_7 : ∀ (x1 : Int32) (x2 : Int32) (F : PF) (G : PG) (hK : COF F0 F), PP (ag_7 x1 x2 F G) (fun _ F' _ => COF F0 F')) (x1 : Int32) (x2 : Int32) (z0 : Int32) (z1 : Int32) (F : PF) (G : PG) (hK : COF F0 F) : PP (cb_X4_walk_213 fu ag_7 x1 x2 z0 z1 F G) (fun _ F' _ => COF F0 F') := by
  unfold cb_X4_walk_213
  exact koj_X4_walk_214 ag_7 hag_7 x1 x2 (3 : Int32) z0 z1 F G hK
theorem koj_X4_walk_198 {fu : Nat} {F0 : PF} (ag_7 : Int32 → Int32 → PF → PG → PR) (hag_7 : ∀ (x1 : Int32) (x2 : Int32) (F : PF) (G : PG) (hK : COF F0 F), PP (ag_7 x1 x2 F G) (fun _ F' _ => COF F0 F')) (x1 : Int32) (x2 : Int32) (x4 : Int32) (x5 : Int32) (x6 : Int32) (F : PF) (G : PG) (hK : COF F0 F) : PP (cb_X4_walk_198 fu ag_7 x1 x2 x4 x5 x6 F G) (fun _ F' _ => COF F0 F') := by
  unfold cb_X4_walk_198
  refine PP.ite (fun c_1 => ?_) (fun c_1 => ?_)
  · skip
    exact koj_X4_walk_209 ag_7 hag_7 x1 x2 x6 x5 F G hK
  · skip
    exact koj_X4_walk_213 ag_7 hag_7 x1 x2 x6 x5 F G hK
theorem koj_X4_walk_191 {fu : Nat} {F0 : PF} (ag_7 : Int32 → Int32 → PF → PG → PR) (hag_7 : ∀ (x1 : Int32) (x2 : Int32) (F : PF) (G : PG) (hK : COF F0 F), PP (ag_7 x1 x2 F G) (fun _ F' _ => COF F0 F')) (x1 : Int32) (x2 : Int32) (x4 : Int32) (x5 : Int32) (x6 : Int32) (F : PF) (G : PG) (hK : COF F0 F) : PP (cb_X4_walk_191 fu ag_7 x1 x2 x4 x5 x6 F G) (fun _ F' _ => COF F0 F') := by
  unfold cb_X4_walk_191
  refine PP.ite (fun c_1 => ?_) (fun c_1 => ?_)
  · skip
    exact koj_X4_walk_220 ag_7 hag_7 x1 x2 x4 x5 x6 F G hK
  · skip
    exact koj_X4_walk_198 ag_7 hag_7 x1 x2 x4 x5 x6 F G hK
theorem koj_X4_walk_179 {fu : Nat} {F0 : PF} (ag_7 : Int32 → Int32 → PF → PG → PR) (hag_7 : ∀ (x1 : Int32) (x2 : Int32) (F : PF) (G : PG) (hK : COF F0 F), PP (ag_7 x1 x2 F G) (fun _ F' _ => COF F0 F')) (x1 : Int32) (x2 : Int32) (x4 : Int32) (x5 : Int32) (x6 : Int32) (F : PF) (G : PG) (hK : COF F0 F) : PP (cb_X4_walk_179 fu ag_7 x1 x2 x4 x5 x6 F G) (fun _ F' _ => COF F0 F') := by
  unfold cb_X4_walk_179
  refine PP.ite (fun c_1 => ?_) (fun c_1 => ?_)
  · skip
    exact koj_X4_walk_191 ag_7 hag_7 x1 x2 x4 x5 x6 F G hK
  · skip
    exact koj_X4_walk_220 ag_7 hag_7 x1 x2 x4 x5 x6 F G hK
theorem koj_X4_walk_176 {fu : Nat} {F0 : PF} (ag_7 : Int32 → Int32 → PF → PG → PR) (hag_7 : ∀ (x1 : Int32) (x2 : Int32) (F : PF) (G : PG) (hK : COF F0 F), PP (ag_7 x1 x2 F G) (fun _ F' _ => COF F0 F')) (x1 : Int32) (x2 : Int32) (F : PF) (G : PG) (hK : COF F0 F) : PP (cb_X4_walk_176 fu ag_7 x1 x2 F G) (fun _ F' _ => COF F0 F') := by
  unfold cb_X4_walk_176
  exact koj_X4_walk_245 ag_7 hag_7 x1 x2 F G hK
theorem koj_X4_walk_172 {fu : Nat} {F0 : PF} (ag_7 : Int32 → Int32 → PF → PG → PR) (hag_7 : ∀ (x1 : Int32) (x2 : Int32) (F : PF) (G : PG) (hK : COF F0 F), PP (ag_7 x1 x2 F G) (fun _ F' _ => COF F0 F')) (x1 : Int32) (x2 : Int32) (F : PF) (G : PG) (hK : COF F0 F) : PP (cb_X4_walk_172 fu ag_7 x1 x2 F G) (fun _ F' _ => COF F0 F') := by
  unfold cb_X4_walk_172
  refine PP.bind (ko_X4_endFunction F G) ?_
  intro r1 F1 G1 hK1
  dsimp only
  exact koj_X4_walk_176 ag_7 hag_7 x1 x2 F1 G1 (COF.tr hK hK1)
theorem koj_X4_walk_168 {fu : Nat} {F0 : PF} (ag_7 : Int32 → Int32 → PF → PG → PR) (hag_7 : ∀ (x1 : Int32) (x2 : Int32) (F : PF) (G : PG) (hK : COF F0 F), PP (ag_7 x1 x2 F G) (fun _ F' _ => COF F0 F')) (x1 : Int32) (x2 : Int32) (F : PF) (G : PG) (hK : COF F0 F) : PP (cb_X4_walk_168 fu ag_7 x1 x2 F G) (fun _ F' _ => COF F0 F') := by
  unfold cb_X4_walk_168
  refine PP.bind (ko_X4_block F G) ?_
  intro r1 F1 G1 hK1
  dsimp only
  exact koj_X4_walk_172 ag_7 hag_7 x1 x2 F1 G1 (COF.tr hK hK1)
theorem koj_X4_walk_165 {fu : Nat} {F0 : PF} (ag_7 : Int32 → Int32 → PF → PG → PR) (hag_7 : ∀ (x1 : Int32) (x2 : Int32) (F : PF) (G : PG) (hK : COF F0 F), PP (ag_7 x1 x2 F G) (fun _ F' _ => COF F0 F')) (x1 : Int32) (x2 : Int32) (z0 : Int32) (F : PF) (G : PG) (hK : COF F0 F) : PP (cb_X4_walk_165 fu ag_7 x1 x2 z0 F G) (fun _ F' _ => COF F0 F') := by
  unfold cb_X4_walk_165
  refine PP.bind (cw_X4_formals z0 F G) ?_
  intro r1 F1 G1 hK1
  dsimp only
  exact koj_X4_walk_168 ag_7 hag_7 x1 x2 F1 G1 (COF.tr hK (COF.k hK1 rfl rfl rfl rfl))
theorem koj_X4_walk_160 {fu : Nat} {F0 : PF} (ag_7 : Int32 → Int32 → PF → PG → PR) (hag_7 : ∀ (x1 : Int32) (x2 : Int32) (F : PF) (G : PG) (hK : COF F0 F), PP (ag_7 x1 x2 F G) (fun _ F' _ => COF F0 F')) (x1 : Int32) (x2 : Int32) (F : PF) (G : PG) (hK : COF F0 F) : PP (cb_X4_walk_160 fu ag_7 x1 x2 F G) (fun _ F' _ => COF F0 F') := by
  unfold cb_X4_walk_160
  exact koj_X4_walk_165 ag_7 hag_7 x1 x2 (1 : Int32) F G hK
theorem koj_X4_walk_164 {fu : Nat} {F0 : PF} (ag_7 : Int32 → Int32 → PF → PG → PR) (hag_7 : ∀ (x1 : Int32) (x2 : Int32) (F : PF) (G : PG) (hK : COF F0 F), PP (ag_7 x1 x2 F G) (fun _ F' _ => COF F0 F')) (x1 : Int32) (x2 : Int32) (F : PF) (G : PG) (hK : COF F0 F) : PP (cb_X4_walk_164 fu ag_7 x1 x2 F G) (fun _ F' _ => COF F0 F') := by
  unfold cb_X4_walk_164
  exact koj_X4_walk_165 ag_7 hag_7 x1 x2 (0 : Int32) F G hK
theorem koj_X4_walk_150 {fu : Nat} {F0 : PF} (ag_7 : Int32 → Int32 → PF → PG → PR) (hag_7 : ∀ (x1 : Int32) (x2 : Int32) (F : PF) (G : PG) (hK : COF F0 F), PP (ag_7 x1 x2 F G) (fun _ F' _ => COF F0 F')) (x1 : Int32) (x2 : Int32) (x5 : Int32) (F : PF) (G : PG) (hK : COF F0 F) : PP (cb_X4_walk_150 fu ag_7 x1 x2 x5 F G) (fun _ F' _ => COF F0 F') := by
  unfold cb_X4_walk_150
  refine PP.ite (fun c_1 => ?_) (fun c_1 => ?_)
  · skip
    exact koj_X4_walk_160 ag_7 hag_7 x1 x2 F G hK
  · skip
    exact koj_X4_walk_164 ag_7 hag_7 x1 x2 F G hK
theorem koj_X4_walk_147 {fu : Nat} {F0 : PF} (ag_7 : Int32 → Int32 → PF → PG → PR) (hag_7 : ∀ (x1 : Int32) (x2 : Int32) (F : PF) (G : PG) (hK : COF F0 F), PP (ag_7 x1 x2 F G) (fun _ F' _ => COF F0 F')) (x1 : Int32) (x2 : Int32) (x5 : Int32) (z0 : Int32) (z1 : Int32) (z2 : Int32) (F : PF) (G : PG) (hK : COF F0 F) : PP (cb_X4_walk_147 fu ag_7 x1 x2 x5 z0 z1 z2 F G) (fun _ F' _ => COF F0 F') := by
  unfold cb_X4_walk_147
  refine PP.bind (cw_X4_startFunction z2 z1 z0 F G) ?_
  intro r1 F1 G1 hK1
  dsimp only
  exact koj_X4_walk_150 ag_7 hag_7 x1 x2 x5 F1 G1 (COF.tr hK (COF.k hK1 rfl rfl rfl rfl))
theorem koj_X4_walk_142 {fu : Nat} {F0 : PF} (ag_7 : Int32 → Int32 → PF → PG → PR) (hag_7 : ∀ (x1 : Int32) (x2 : Int32) (F : PF) (G : PG) (hK : COF F0 F), PP (ag_7 x1 x2 F G) (fun _ F' _ => COF F0 F')) (x1 : Int32) (x2 : Int32) (x5 : Int32) (z0 : Int32) (z1 : Int32) (F : PF) (G : PG) (hK : COF F0 F) : PP (cb_X4_walk_142 fu ag_7 x1 x2 x5 z0 z1 F G) (fun _ F' _ => COF F0 F') := by
  unfold cb_X4_walk_142
  exact koj_X4_walk_147 ag_7 hag_7 x1 x2 x5 (1 : Int32) z0 z1 F G hK
theorem koj_X4_walk_146 {fu : Nat} {F0 : PF} (ag_7 : Int32 → Int32 → PF → PG → PR) (hag_7 : ∀ (x1 : Int32) (x2 : Int32) (F : PF) (G : PG) (hK : COF F0 F), PP (ag_7 x1 x2 F G) (fun _ F' _ => COF F0 F')) (x1 : Int32) (x2 : Int32) (x5 : Int32) (z0 : Int32) (z1 : Int32) (F : PF) (G : PG) (hK : COF F0 F) : PP (cb_X4_walk_146 fu ag_7 x1 x2 x5 z0 z1 F G) (fun _ F' _ => COF F0 F') := by
  unfold cb_X4_walk_146
  exact koj_X4_walk_147 ag_7 hag_7 x1 x2 x5 (0 : Int32) z0 z1 F G hK
theorem koj_X4_walk_131 {fu : Nat} {F0 : PF} (ag_7 : Int32 → Int32 → PF → PG → PR) (hag_7 : ∀ (x1 : Int32) (x2 : Int32) (F : PF) (G : PG) (hK : COF F0 F), PP (ag_7 x1 x2 F G) (fun _ F' _ => COF F0 F')) (x1 : Int32) (x2 : Int32) (x4 : Int32) (x5 : Int32) (x6 : Int32) (F : PF) (G : PG) (hK : COF F0 F) : PP (cb_X4_walk_131 fu ag_7 x1 x2 x4 x5 x6 F G) (fun _ F' _ => COF F0 F') := by
  unfold cb_X4_walk_131
  refine PP.ite (fun c_1 => ?_) (fun c_1 => ?_)
  · skip
    exact koj_X4_walk_142 ag_7 hag_7 x1 x2 x5 x6 x5 F G hK
  · skip
    exact koj_X4_walk_146 ag_7 hag_7 x1 x2 x5 x6 x5 F G hK
theorem koj_X4_walk_125 {fu : Nat} {F0 : PF} (ag_7 : Int32 → Int32 → PF → PG → PR) (hag_7 : ∀ (x1 : Int32) (x2 : Int32) (F : PF) (G : PG) (hK : COF F0 F), PP (ag_7 x1 x2 F G) (fun _ F' _ => COF F0 F')) (x1 : Int32) (x2 : Int32) (x4 : Int32) (x5 : Int32) (x6 : Int32) (F : PF) (G : PG) (hK : COF F0 F) : PP (cb_X4_walk_125 fu ag_7 x1 x2 x4 x5 x6 F G) (fun _ F' _ => COF F0 F') := by
  unfold cb_X4_walk_125
  refine PP.ite (fun c_1 => ?_) (fun c_1 => ?_)
  · skip
    exact koj_X4_walk_179 ag_7 hag_7 x1 x2 x4 x5 x6 F G hK
  · skip
    exact koj_X4_walk_131 ag_7 hag_7 x1 x2 x4 x5 x6 F G hK
theorem koj_X4_walk_113 {fu : Nat} {F0 : PF} (ag_7 : Int32 → Int32 → PF → PG → PR) (hag_7 : ∀ (x1 : Int32) (x2 : Int32) (F : PF) (G : PG) (hK : COF F0 F), PP (ag_7 x1 x2 F G) (fun _ F' _ => COF F0 F')) (x1 : Int32) (x2 : Int32) (x4 : Int32) (x5 : Int32) (x6 : Int32) (F : PF) (G : PG) (hK : COF F0 F) : PP (cb_X4_walk_113 fu ag_7 x1 x2 x4 x5 x6 F G) (fun _ F' _ => COF F0 F') := by
  unfold cb_X4_walk_113
  refine PP.ite (fun c_1 => ?_) (fun c_1 => ?_)
  · skip
    exact koj_X4_walk_125 ag_7 hag_7 x1 x2 x4 x5 x6 F G hK
  · skip
    exact koj_X4_walk_179 ag_7 hag_7 x1 x2 x4 x5 x6 F G hK
theorem koj_X4_walk_110 {fu : Nat} {F0 : PF} (ag_7 : Int32 → Int32 → PF → PG → PR) (hag_7 : ∀ (x1 : Int32) (x2 : Int32) (F : PF) (G : PG) (hK : COF F0 F), PP (ag_7 x1 x2 F G) (fun _ F' _ => COF F0 F')) (x1 : Int32) (x2 : Int32) (F : PF) (G : PG) (hK : COF F0 F) : PP (cb_X4_walk_110 fu ag_7 x1 x2 F G) (fun _ F' _ => COF F0 F') := by
  unfold cb_X4_walk_110
  exact koj_X4_walk_245 ag_7 hag_7 x1 x2 F G hK
theorem koj_X4_walk_102 {fu : Nat} {F0 : PF} (ag_7 : Int32 → Int32 → PF → PG → PR) (hag_7 : ∀ (x1 : Int32) (x2 : Int32) (F : PF) (G : PG) (hK : COF F0 F), PP (ag_7 x1 x2 F G) (fun _ F' _ => COF F0 F')) (x1 : Int32) (x2 : Int32) (x5 : Int32) (x6 : Int32) (F : PF) (G : PG) (hK : COF F0 F) : PP (cb_X4_walk_102 fu ag_7 x1 x2 x5 x6 F G) (fun _ F' _ => COF F0 F') := by
  unfold cb_X4_walk_102
  refine PP.bind (ko_X4_constTold x5 x6 F G) ?_
  intro r1 F1 G1 hK1
  dsimp only
  exact koj_X4_walk_110 ag_7 hag_7 x1 x2 F1 G1 (COF.tr hK hK1)
theorem koj_X4_walk_98 {fu : Nat} {F0 : PF} (ag_7 : Int32 → Int32 → PF → PG → PR) (hag_7 : ∀ (x1 : Int32) (x2 : Int32) (F : PF) (G : PG) (hK : COF F0 F), PP (ag_7 x1 x2 F G) (fun _ F' _ => COF F0 F')) (x1 : Int32) (x2 : Int32) (x3 : Int32) (x4 : Int32) (x5 : Int32) (x6 : Int32) (F : PF) (G : PG) (hK : COF F0 F) : PP (cb_X4_walk_98 fu ag_7 x1 x2 x3 x4 x5 x6 F G) (fun _ F' _ => COF F0 F') := by
  unfold cb_X4_walk_98
  refine PP.ite (fun c_1 => ?_) (fun c_1 => ?_)
  · skip
    exact koj_X4_walk_113 ag_7 hag_7 x1 x2 x4 x5 x6 F G hK
  · skip
    exact koj_X4_walk_102 ag_7 hag_7 x1 x2 x5 x6 F G hK
theorem koj_X4_walk_70 {fu : Nat} {F0 : PF} (ag_7 : Int32 → Int32 → PF → PG → PR) (hag_7 : ∀ (x1 : Int32) (x2 : Int32) (F : PF) (G : PG) (hK : COF F0 F), PP (ag_7 x1 x2 F G) (fun _ F' _ => COF F0 F')) (x1 : Int32) (x2 : Int32) (x3 : Int32) (z0 : Int32) (F : PF) (G : PG) (hK : COF F0 F) : PP (cb_X4_walk_70 fu ag_7 x1 x2 x3 z0 F G) (fun _ F' _ => COF F0 F') := by
  unfold cb_X4_walk_70
  refine PP.bind (cw_X2_expect (2 : Int32) F G) ?_
  intro r1 F1 G1 hK1
  dsimp only
  exact koj_X4_walk_98 ag_7 hag_7 x1 x2 x3 z0 (F 12) (F 13) F1 G1 (COF.tr hK (COF.k hK1 rfl rfl rfl rfl))
theorem koj_X4_walk_65 {fu : Nat} {F0 : PF} (ag_7 : Int32 → Int32 → PF → PG → PR) (hag_7 : ∀ (x1 : Int32) (x2 : Int32) (F : PF) (G : PG) (hK : COF F0 F), PP (ag_7 x1 x2 F G) (fun _ F' _ => COF F0 F')) (x1 : Int32) (x2 : Int32) (x3 : Int32) (F : PF) (G : PG) (hK : COF F0 F) : PP (cb_X4_walk_65 fu ag_7 x1 x2 x3 F G) (fun _ F' _ => COF F0 F') := by
  unfold cb_X4_walk_65
  refine PP.bind (cw_X4_kindWord x3 F G) ?_
  intro r1 F1 G1 hK1
  dsimp only
  exact koj_X4_walk_70 ag_7 hag_7 x1 x2 x3 r1 F1 G1 (COF.tr hK (COF.k hK1 rfl rfl rfl rfl))
theorem koj_X4_walk_58 {fu : Nat} {F0 : PF} (ag_7 : Int32 → Int32 → PF → PG → PR) (hag_7 : ∀ (x1 : Int32) (x2 : Int32) (F : PF) (G : PG) (hK : COF F0 F), PP (ag_7 x1 x2 F G) (fun _ F' _ => COF F0 F')) (x1 : Int32) (x2 : Int32) (x3 : Int32) (F : PF) (G : PG) (hK : COF F0 F) : PP (cb_X4_walk_58 fu ag_7 x1 x2 x3 F G) (fun _ F' _ => COF F0 F') := by
  unfold cb_X4_walk_58
  refine PP.bind (cw_X2_next F G) ?_
  intro r1 F1 G1 hK1
  dsimp only
  exact koj_X4_walk_65 ag_7 hag_7 x1 x2 x3 F1 G1 (COF.tr hK (COF.k hK1 rfl rfl rfl rfl))
theorem koj_X4_walk_53 {fu : Nat} {F0 : PF} (ag_7 : Int32 → Int32 → PF → PG → PR) (hag_7 : ∀ (x1 : Int32) (x2 : Int32) (F : PF) (G : PG) (hK : COF F0 F), PP (ag_7 x1 x2 F G) (fun _ F' _ => COF F0 F')) (x1 : Int32) (x2 : Int32) (z0 : Int32) (F : PF) (G : PG) (hK : COF F0 F) : PP (cb_X4_walk_53 fu ag_7 x1 x2 z0 F G) (fun _ F' _ => COF F0 F') := by
  unfold cb_X4_walk_53
  refine PP.ite (fun c_1 => ?_) (fun c_1 => ?_)
  · skip
    exact koj_X4_walk_65 ag_7 hag_7 x1 x2 z0 F G hK
  · skip
    exact koj_X4_walk_58 ag_7 hag_7 x1 x2 z0 F G hK
theorem koj_X4_walk_48 {fu : Nat} {F0 : PF} (ag_7 : Int32 → Int32 → PF → PG → PR) (hag_7 : ∀ (x1 : Int32) (x2 : Int32) (F : PF) (G : PG) (hK : COF F0 F), PP (ag_7 x1 x2 F G) (fun _ F' _ => COF F0 F')) (x1 : Int32) (x2 : Int32) (F : PF) (G : PG) (hK : COF F0 F) : PP (cb_X4_walk_48 fu ag_7 x1 x2 F G) (fun _ F' _ => COF F0 F') := by
  unfold cb_X4_walk_48
  exact koj_X4_walk_53 ag_7 hag_7 x1 x2 (1 : Int32) F G hK
theorem koj_X4_walk_52 {fu : Nat} {F0 : PF} (ag_7 : Int32 → Int32 → PF → PG → PR) (hag_7 : ∀ (x1 : Int32) (x2 : Int32) (F : PF) (G : PG) (hK : COF F0 F), PP (ag_7 x1 x2 F G) (fun _ F' _ => COF F0 F')) (x1 : Int32) (x2 : Int32) (F : PF) (G : PG) (hK : COF F0 F) : PP (cb_X4_walk_52 fu ag_7 x1 x2 F G) (fun _ F' _ => COF F0 F') := by
  unfold cb_X4_walk_52
  exact koj_X4_walk_53 ag_7 hag_7 x1 x2 (0 : Int32) F G hK
theorem koj_X4_walk_36 {fu : Nat} {F0 : PF} (ag_7 : Int32 → Int32 → PF → PG → PR) (hag_7 : ∀ (x1 : Int32) (x2 : Int32) (F : PF) (G : PG) (hK : COF F0 F), PP (ag_7 x1 x2 F G) (fun _ F' _ => COF F0 F')) (x1 : Int32) (x2 : Int32) (F : PF) (G : PG) (hK : COF F0 F) : PP (cb_X4_walk_36 fu ag_7 x1 x2 F G) (fun _ F' _ => COF F0 F') := by
  unfold cb_X4_walk_36
  refine PP.ite (fun c_1 => ?_) (fun c_1 => ?_)
  · skip
    exact koj_X4_walk_48 ag_7 hag_7 x1 x2 F G hK
  · skip
    exact koj_X4_walk_52 ag_7 hag_7 x1 x2 F G hK
theorem koj_X4_walk_24 {fu : Nat} {F0 : PF} (ag_7 : Int32 → Int32 → PF → PG → PR) (hag_7 : ∀ (x1 : Int32) (x2 : Int32) (F : PF) (G : PG) (hK : COF F0 F), PP (ag_7 x1 x2 F G) (fun _ F' _ => COF F0 F')) (x1 : Int32) (x2 : Int32) (F : PF) (G : PG) (hK : COF F0 F) : PP (cb_X4_walk_24 fu ag_7 x1 x2 F G) (fun _ F' _ => COF F0 F') := by
  unfold cb_X4_walk_24
  refine PP.ite (fun c_1 => ?_) (fun c_1 => ?_)
  · skip
    exact koj_X4_walk_251 x1 F G hK
  · skip
    exact koj_X4_walk_36 ag_7 hag_7 x1 x2 F G hK
theorem koj_X4_walk_14 {fu : Nat} {F0 : PF} (ag_7 : Int32 → Int32 → PF → PG → PR) (hag_7 : ∀ (x1 : Int32) (x2 : Int32) (F : PF) (G : PG) (hK : COF F0 F), PP (ag_7 x1 x2 F G) (fun _ F' _ => COF F0 F')) (x1 : Int32) (x2 : Int32) (F : PF) (G : PG) (hK : COF F0 F) : PP (cb_X4_walk_14 fu ag_7 x1 x2 F G) (fun _ F' _ => COF F0 F') := by
  unfold cb_X4_walk_14
  refine PP.ite (fun c_1 => ?_) (fun c_1 => ?_)
  · skip
    exact koj_X4_walk_251 x1 F G hK
  · skip
    exact koj_X4_walk_24 ag_7 hag_7 x1 x2 F G hK
theorem koz_X4_walk_7 {fu : Nat} {F0 : PF} : ∀ (n : Nat) (x1 : Int32) (x2 : Int32) (F : PF) (G : PG) (hK : COF F0 F), PP (cl_X4_walk_7 fu n x1 x2 F G) (fun _ F' _ => COF F0 F') := by
  intro n
  induction n with
  | zero =>
    intro x1 x2 F G hK
    exact PP.no
  | succ n ihn =>
    intro x1 x2 F G hK
    show PP (cb_X4_walk_7 fu (cl_X4_walk_7 fu n) x1 x2 F G) _
    unfold cb_X4_walk_7
    refine PP.ite (fun c_1 => ?_) (fun c_1 => ?_)
    · skip
      exact koj_X4_walk_251 x1 F G hK
    · skip
      exact koj_X4_walk_14 (cl_X4_walk_7 fu n) ihn x1 x2 F G hK
