theorem cw_X6_enters {fu : Nat} (x1 : Int32) (x2 : Int32) (F : PF) (G : PG) : PP (cf_X6_enters fu x1 x2 F G) (fun _ F' G' => KX [56, 57, 58, 59, 61, 63, 66] [54] F G F' G') := by
  unfold cf_X6_enters
  unfold cb_X6_enters_0
  refine PP.ix (fun _ => ?_)
  refine PP.bind (cw_X6_depth F G) ?_
  intro r1 F1 G1 hK1
  dsimp only
  unfold cb_X6_enters_14
  refine PP.ite (fun c_2 => ?_) (fun c_2 => ?_)
  · skip
    unfold cb_X6_enters_36
    refine PP.bind (cw_X6_hold (F1 59) (F1 57) F1 G1) ?_
    intro r3 F3 G3 hK3
    dsimp only
    unfold cb_X6_enters_48
    refine PP.bind (cw_X6_hold ((F3 59) + (1 : Int32)) (F3 58) F3 G3) ?_
    intro r4 F4 G4 hK4
    dsimp only
    unfold cb_X6_enters_62
    refine PP.ix (fun _ => ?_)
    exact cwz_X6_enters_75 fu x1 (G 79 x1.toNatClampNeg) ((G4 81 x1.toNatClampNeg) - (1 : Int32)) F4 G4 (KX.tr (KX.tr (KX.tr KX.rf hK1 rfl rfl) hK3 rfl rfl) hK4 rfl rfl)
  · skip
    unfold cb_X6_enters_23
    unfold cb_X6_enters_28
    refine PP.bind (cw_X6_over (6 : Int32) (fup F1 66 x2) G1) ?_
    intro r5 F5 G5 hK5
    dsimp only
    unfold cb_X6_enters_34
    refine PP.ret ?_
    exact (KX.tr (KX.f (k := 66) rfl (KX.tr KX.rf hK1 rfl rfl)) hK5 rfl rfl)
theorem cw_X6_takesTurn {fu : Nat} (F : PF) (G : PG) : PP (cf_X6_takesTurn fu F G) (fun _ F' G' => KX [62, 64] [] F G F' G') := by
  unfold cf_X6_takesTurn
  unfold cb_X6_takesTurn_0
  refine PP.ite (fun c_1 => ?_) (fun c_1 => ?_)
  · skip
    unfold cb_X6_takesTurn_9
    unfold cb_X6_takesTurn_19
    unfold cb_X6_takesTurn_29
    refine PP.ret ?_
    exact (KX.f (k := 64) rfl (KX.f (k := 62) rfl KX.rf))
  · skip
    unfold cb_X6_takesTurn_7
    refine PP.ret ?_
    exact KX.rf
theorem cw_X6_stops {fu : Nat} (x1 : Int32) (x2 : Int32) (F : PF) (G : PG) : PP (cf_X6_stops fu x1 x2 F G) (fun _ F' G' => KX [57, 61, 63] [] F G F' G') := by
  unfold cf_X6_stops
  unfold cb_X6_stops_0
  unfold cb_X6_stops_5
  refine PP.bind (cw_X6_over x1 (fup F 57 x2) G) ?_
  intro r1 F1 G1 hK1
  dsimp only
  unfold cb_X6_stops_10
  refine PP.ret ?_
  exact (KX.tr (KX.f (k := 57) rfl KX.rf) hK1 rfl rfl)
theorem cwj_X6_call_44 {fu : Nat} {F0 : PF} {G0 : PG} (F : PF) (G : PG) (hK : KX [56, 57, 58, 59, 61, 62, 63, 64, 66] [54] F0 G0 F G) : PP (cb_X6_call_44 fu F G) (fun _ F' G' => KX [56, 57, 58, 59, 61, 62, 63, 64, 66] [54] F0 G0 F' G') := by
  unfold cb_X6_call_44
  refine PP.ret ?_
  exact hK
theorem cw_X6_call {fu : Nat} (x1 : Int32) (F : PF) (G : PG) : PP (cf_X6_call fu x1 F G) (fun _ F' G' => KX [56, 57, 58, 59, 61, 62, 63, 64, 66] [54] F G F' G') := by
  unfold cf_X6_call
  unfold cb_X6_call_0
  refine PP.bind (cw_X6_next F G) ?_
  intro r1 F1 G1 hK1
  dsimp only
  unfold cb_X6_call_4
  refine PP.bind (cw_X6_next F1 G1) ?_
  intro r2 F2 G2 hK2
  dsimp only
  unfold cb_X6_call_9
  refine PP.bind (cw_X6_takesTurn F2 G2) ?_
  intro r3 F3 G3 hK3
  dsimp only
  unfold cb_X6_call_14
  refine PP.ite (fun c_4 => ?_) (fun c_4 => ?_)
  · skip
    unfold cb_X6_call_17
    refine PP.bind (cw_X6_stops (1 : Int32) x1 F3 G3) ?_
    intro r5 F5 G5 hK5
    dsimp only
    unfold cb_X6_call_23
    exact cwj_X6_call_44 F5 G5 (KX.tr (KX.tr (KX.tr (KX.tr KX.rf hK1 rfl rfl) hK2 rfl rfl) hK3 rfl rfl) hK5 rfl rfl)
  · skip
    unfold cb_X6_call_26
    refine PP.bind (cw_X8_has r1 F3 G3) ?_
    intro r6 F6 G6 hK6
    dsimp only
    unfold cb_X6_call_34
    refine PP.ite (fun c_7 => ?_) (fun c_7 => ?_)
    · skip
      exact cwj_X6_call_44 F6 G6 (KX.tr (KX.tr (KX.tr (KX.tr KX.rf hK1 rfl rfl) hK2 rfl rfl) hK3 rfl rfl) hK6 rfl rfl)
    · skip
      unfold cb_X6_call_37
      refine PP.bind (cw_X6_enters r1 r2 F6 G6) ?_
      intro r8 F8 G8 hK8
      dsimp only
      unfold cb_X6_call_43
      exact cwj_X6_call_44 F8 G8 (KX.tr (KX.tr (KX.tr (KX.tr (KX.tr KX.rf hK1 rfl rfl) hK2 rfl rfl) hK3 rfl rfl) hK6 rfl rfl) hK8 rfl rfl)
theorem cw_X7_handIn {fu : Nat} (F : PF) (G : PG) : PP (cf_X7_handIn fu F G) (fun _ F' G' => KX [69, 70] [] F G F' G') := by
  unfold cf_X7_handIn
  unfold cb_X7_handIn_0
  refine PP.ite (fun c_1 => ?_) (fun c_1 => ?_)
  · skip
    unfold cb_X7_handIn_9
    refine PP.ix (fun _ => ?_)
    unfold cb_X7_handIn_33
    unfold cb_X7_handIn_43
    refine PP.ret ?_
    exact (KX.f (k := 70) rfl (KX.f (k := 69) rfl KX.rf))
  · skip
    unfold cb_X7_handIn_7
    refine PP.ret ?_
    exact KX.rf
theorem cw_X6_leave {fu : Nat} (F : PF) (G : PG) : PP (cf_X6_leave fu F G) (fun _ F' G' => KX [56, 57, 58, 59, 61, 63, 65] [] F G F' G') := by
  unfold cf_X6_leave
  unfold cb_X6_leave_0
  unfold cb_X6_leave_8
  refine PP.ite (fun c_1 => ?_) (fun c_1 => ?_)
  · skip
    unfold cb_X6_leave_18
    refine PP.bind (cw_X6_pop (fup F 59 (F 58)) G) ?_
    intro r2 F2 G2 hK2
    dsimp only
    unfold cb_X6_leave_23
    unfold cb_X6_leave_26
    refine PP.bind (cw_X6_over (3 : Int32) (fup F2 65 r2) G2) ?_
    intro r3 F3 G3 hK3
    dsimp only
    unfold cb_X6_leave_31
    refine PP.ret ?_
    exact (KX.tr (KX.f (k := 65) rfl (KX.tr (KX.f (k := 59) rfl KX.rf) hK2 rfl rfl)) hK3 rfl rfl)
  · skip
    unfold cb_X6_leave_32
    refine PP.bind (cw_X6_held (F 58) (fup F 59 (F 58)) G) ?_
    intro r4 F4 G4 hK4
    dsimp only
    unfold cb_X6_leave_41
    unfold cb_X6_leave_44
    refine PP.bind (cw_X6_held ((F4 58) + (1 : Int32)) (fup F4 57 r4) G4) ?_
    intro r5 F5 G5 hK5
    dsimp only
    unfold cb_X6_leave_55
    unfold cb_X6_leave_58
    refine PP.ret ?_
    exact (KX.f (k := 58) rfl (KX.tr (KX.f (k := 57) rfl (KX.tr (KX.f (k := 59) rfl KX.rf) hK4 rfl rfl)) hK5 rfl rfl))
theorem cwj_X7_show_39 {fu : Nat} {F0 : PF} {G0 : PG} (F : PF) (G : PG) (hK : KX [72] [71] F0 G0 F G) : PP (cb_X7_show_39 fu F G) (fun _ F' G' => KX [72] [71] F0 G0 F' G') := by
  unfold cb_X7_show_39
  refine PP.ret ?_
  exact hK
theorem cwj_X7_show_20 {fu : Nat} {F0 : PF} {G0 : PG} (F : PF) (G : PG) (hK : KX [72] [71] F0 G0 F G) : PP (cb_X7_show_20 fu F G) (fun _ F' G' => KX [72] [71] F0 G0 F' G') := by
  unfold cb_X7_show_20
  refine PP.ite (fun c_1 => ?_) (fun c_1 => ?_)
  · skip
    exact cwj_X7_show_39 F G hK
  · skip
    unfold cb_X7_show_29
    exact cwj_X7_show_39 (fup F 72 ((F 72) + (1 : Int32))) G (KX.f (k := 72) rfl hK)
theorem cw_X7_show {fu : Nat} (x1 : Int32) (F : PF) (G : PG) : PP (cf_X7_show fu x1 F G) (fun _ F' G' => KX [72] [71] F G F' G') := by
  unfold cf_X7_show
  unfold cb_X7_show_0
  refine PP.ite (fun c_1 => ?_) (fun c_1 => ?_)
  · skip
    exact cwj_X7_show_20 F G KX.rf
  · skip
    unfold cb_X7_show_10
    refine PP.ix (fun _ => ?_)
    exact cwj_X7_show_20 F (gup G 71 (F 72).toNatClampNeg x1) (KX.g (k := 71) rfl KX.rf)
theorem cwj_X6_act_143 {fu : Nat} {F0 : PF} {G0 : PG} (F : PF) (G : PG) (hK : KX [56, 57, 58, 59, 61, 62, 63, 64, 65, 66, 69, 70, 72, 300] [54, 55, 71] F0 G0 F G) : PP (cb_X6_act_143 fu F G) (fun _ F' G' => KX [56, 57, 58, 59, 61, 62, 63, 64, 65, 66, 69, 70, 72, 300] [54, 55, 71] F0 G0 F' G') := by
  unfold cb_X6_act_143
  refine PP.ret ?_
  exact hK
theorem cw_X6_act {fu : Nat} (x1 : Int32) (x2 : Int32) (F : PF) (G : PG) : PP (cf_X6_act fu x1 x2 F G) (fun _ F' G' => KX [56, 57, 58, 59, 61, 62, 63, 64, 65, 66, 69, 70, 72, 300] [54, 55, 71] F G F' G') := by
  unfold cf_X6_act
  unfold cb_X6_act_0
  refine PP.ite (fun c_1 => ?_) (fun c_1 => ?_)
  · skip
    unfold cb_X6_act_76
    refine PP.bind (cw_X6_leave F G) ?_
    intro r2 F2 G2 hK2
    dsimp only
    unfold cb_X6_act_80
    exact cwj_X6_act_143 F2 G2 (KX.tr KX.rf hK2 rfl rfl)
  refine PP.ite (fun c_3 => ?_) (fun c_3 => ?_)
  · skip
    unfold cb_X6_act_83
    refine PP.bind (cw_X6_pop F G) ?_
    intro r4 F4 G4 hK4
    dsimp only
    unfold cb_X6_act_91
    refine PP.bind (cw_X7_show r4 F4 G4) ?_
    intro r5 F5 G5 hK5
    dsimp only
    unfold cb_X6_act_94
    exact cwj_X6_act_143 F5 G5 (KX.tr (KX.tr KX.rf hK4 rfl rfl) hK5 rfl rfl)
  refine PP.ite (fun c_6 => ?_) (fun c_6 => ?_)
  · skip
    unfold cb_X6_act_97
    refine PP.ite (fun c_7 => ?_) (fun c_7 => ?_)
    · skip
      unfold cb_X6_act_121
      refine PP.bind (cw_X6_stops (2 : Int32) x2 F G) ?_
      intro r8 F8 G8 hK8
      dsimp only
      unfold cb_X6_act_127
      exact cwj_X6_act_143 F8 G8 (KX.tr KX.rf hK8 rfl rfl)
    · skip
      unfold cb_X6_act_107
      refine PP.bind (cw_X7_handIn F G) ?_
      intro r9 F9 G9 hK9
      dsimp only
      unfold cb_X6_act_115
      refine PP.bind (cw_X6_push r9 F9 G9) ?_
      intro r10 F10 G10 hK10
      dsimp only
      unfold cb_X6_act_118
      exact cwj_X6_act_143 F10 G10 (KX.tr (KX.tr KX.rf hK9 rfl rfl) hK10 rfl rfl)
  refine PP.ite (fun c_11 => ?_) (fun c_11 => ?_)
  · skip
    unfold cb_X6_act_52
    refine PP.bind (cw_X6_takesTurn F G) ?_
    intro r12 F12 G12 hK12
    dsimp only
    unfold cb_X6_act_56
    refine PP.ite (fun c_13 => ?_) (fun c_13 => ?_)
    · skip
      unfold cb_X6_act_59
      refine PP.bind (cw_X6_stops (1 : Int32) x2 F12 G12) ?_
      intro r14 F14 G14 hK14
      dsimp only
      unfold cb_X6_act_65
      exact cwj_X6_act_143 F14 G14 (KX.tr (KX.tr KX.rf hK12 rfl rfl) hK14 rfl rfl)
    · skip
      exact cwj_X6_act_143 F12 G12 (KX.tr KX.rf hK12 rfl rfl)
  refine PP.ite (fun c_15 => ?_) (fun c_15 => ?_)
  · skip
    unfold cb_X6_act_68
    refine PP.bind (cw_X6_call x2 F G) ?_
    intro r16 F16 G16 hK16
    dsimp only
    unfold cb_X6_act_73
    exact cwj_X6_act_143 F16 G16 (KX.tr KX.rf hK16 rfl rfl)
  unfold cb_X6_act_130
  refine PP.bind (cw_X6_pop F G) ?_
  intro r17 F17 G17 hK17
  dsimp only
  unfold cb_X6_act_135
  unfold cb_X6_act_138
  refine PP.bind (cw_X6_over (4 : Int32) (fup F17 65 r17) G17) ?_
  intro r18 F18 G18 hK18
  dsimp only
  exact cwj_X6_act_143 F18 G18 (KX.tr (KX.f (k := 65) rfl (KX.tr KX.rf hK17 rfl rfl)) hK18 rfl rfl)
theorem cwj_X6_step_140 {fu : Nat} {F0 : PF} {G0 : PG} (F : PF) (G : PG) (hK : KX [56, 57, 58, 59, 61, 62, 63, 64, 65, 66, 69, 70, 72, 300] [54, 55, 71] F0 G0 F G) : PP (cb_X6_step_140 fu F G) (fun _ F' G' => KX [56, 57, 58, 59, 61, 62, 63, 64, 65, 66, 69, 70, 72, 300] [54, 55, 71] F0 G0 F' G') := by
  unfold cb_X6_step_140
  refine PP.ret ?_
  exact hK
theorem cwj_X6_step_134 {fu : Nat} {F0 : PF} {G0 : PG} (x1 : Int32) (x2 : Int32) (F : PF) (G : PG) (hK : KX [56, 57, 58, 59, 61, 62, 63, 64, 65, 66, 69, 70, 72, 300] [54, 55, 71] F0 G0 F G) : PP (cb_X6_step_134 fu x1 x2 F G) (fun _ F' G' => KX [56, 57, 58, 59, 61, 62, 63, 64, 65, 66, 69, 70, 72, 300] [54, 55, 71] F0 G0 F' G') := by
  unfold cb_X6_step_134
  refine PP.bind (cw_X6_act x2 x1 F G) ?_
  intro r1 F1 G1 hK1
  dsimp only
  exact cwj_X6_step_140 F1 G1 (KX.tr hK hK1 rfl rfl)
theorem cwj_X6_step_110 {fu : Nat} {F0 : PF} {G0 : PG} (x1 : Int32) (x2 : Int32) (F : PF) (G : PG) (hK : KX [56, 57, 58, 59, 61, 62, 63, 64, 65, 66, 69, 70, 72, 300] [54, 55, 71] F0 G0 F G) : PP (cb_X6_step_110 fu x1 x2 F G) (fun _ F' G' => KX [56, 57, 58, 59, 61, 62, 63, 64, 65, 66, 69, 70, 72, 300] [54, 55, 71] F0 G0 F' G') := by
  unfold cb_X6_step_110
  refine PP.ite (fun c_1 => ?_) (fun c_1 => ?_)
  · skip
    exact cwj_X6_step_134 x1 x2 F G hK
  · skip
    unfold cb_X6_step_116
    refine PP.ite (fun c_2 => ?_) (fun c_2 => ?_)
    · skip
      exact cwj_X6_step_134 x1 x2 F G hK
    · skip
      unfold cb_X6_step_122
      refine PP.bind (cw_X6_next F G) ?_
      intro r3 F3 G3 hK3
      dsimp only
      unfold cb_X6_step_128
      refine PP.bind (cw_X6_jump x2 r3 F3 G3) ?_
      intro r4 F4 G4 hK4
      dsimp only
      unfold cb_X6_step_131
      exact cwj_X6_step_140 F4 G4 (KX.tr (KX.tr hK hK3 rfl rfl) hK4 rfl rfl)
theorem cwj_X6_step_90 {fu : Nat} {F0 : PF} {G0 : PG} (x1 : Int32) (x2 : Int32) (F : PF) (G : PG) (hK : KX [56, 57, 58, 59, 61, 62, 63, 64, 65, 66, 69, 70, 72, 300] [54, 55, 71] F0 G0 F G) : PP (cb_X6_step_90 fu x1 x2 F G) (fun _ F' G' => KX [56, 57, 58, 59, 61, 62, 63, 64, 65, 66, 69, 70, 72, 300] [54, 55, 71] F0 G0 F' G') := by
  unfold cb_X6_step_90
  refine PP.ite (fun c_1 => ?_) (fun c_1 => ?_)
  · skip
    exact cwj_X6_step_110 x1 x2 F G hK
  · skip
    unfold cb_X6_step_96
    refine PP.ite (fun c_2 => ?_) (fun c_2 => ?_)
    · skip
      exact cwj_X6_step_110 x1 x2 F G hK
    · skip
      unfold cb_X6_step_102
      refine PP.bind (cw_X6_reach x2 F G) ?_
      intro r3 F3 G3 hK3
      dsimp only
      unfold cb_X6_step_107
      exact cwj_X6_step_140 F3 G3 (KX.tr hK hK3 rfl rfl)
theorem cwj_X6_step_70 {fu : Nat} {F0 : PF} {G0 : PG} (x1 : Int32) (x2 : Int32) (F : PF) (G : PG) (hK : KX [56, 57, 58, 59, 61, 62, 63, 64, 65, 66, 69, 70, 72, 300] [54, 55, 71] F0 G0 F G) : PP (cb_X6_step_70 fu x1 x2 F G) (fun _ F' G' => KX [56, 57, 58, 59, 61, 62, 63, 64, 65, 66, 69, 70, 72, 300] [54, 55, 71] F0 G0 F' G') := by
  unfold cb_X6_step_70
  refine PP.ite (fun c_1 => ?_) (fun c_1 => ?_)
  · skip
    exact cwj_X6_step_90 x1 x2 F G hK
  · skip
    unfold cb_X6_step_76
    refine PP.ite (fun c_2 => ?_) (fun c_2 => ?_)
    · skip
      exact cwj_X6_step_90 x1 x2 F G hK
    · skip
      unfold cb_X6_step_82
      refine PP.bind (cw_X6_move x2 F G) ?_
      intro r3 F3 G3 hK3
      dsimp only
      unfold cb_X6_step_87
      exact cwj_X6_step_140 F3 G3 (KX.tr hK hK3 rfl rfl)
theorem cwj_X6_step_43 {fu : Nat} {F0 : PF} {G0 : PG} (x1 : Int32) (x2 : Int32) (F : PF) (G : PG) (hK : KX [56, 57, 58, 59, 61, 62, 63, 64, 65, 66, 69, 70, 72, 300] [54, 55, 71] F0 G0 F G) : PP (cb_X6_step_43 fu x1 x2 F G) (fun _ F' G' => KX [56, 57, 58, 59, 61, 62, 63, 64, 65, 66, 69, 70, 72, 300] [54, 55, 71] F0 G0 F' G') := by
  unfold cb_X6_step_43
  refine PP.ite (fun c_1 => ?_) (fun c_1 => ?_)
  · skip
    exact cwj_X6_step_70 x1 x2 F G hK
  · skip
    unfold cb_X6_step_49
    refine PP.ite (fun c_2 => ?_) (fun c_2 => ?_)
    · skip
      exact cwj_X6_step_70 x1 x2 F G hK
    · skip
      unfold cb_X6_step_55
      refine PP.bind (cw_X6_pop F G) ?_
      intro r3 F3 G3 hK3
      dsimp only
      unfold cb_X6_step_61
      refine PP.bind (cw_X6_changed x2 r3 F3 G3) ?_
      intro r4 F4 G4 hK4
      dsimp only
      unfold cb_X6_step_64
      refine PP.bind (cw_X6_push r4 F4 G4) ?_
      intro r5 F5 G5 hK5
      dsimp only
      unfold cb_X6_step_67
      exact cwj_X6_step_140 F5 G5 (KX.tr (KX.tr (KX.tr hK hK3 rfl rfl) hK4 rfl rfl) hK5 rfl rfl)
theorem cw_X6_step {fu : Nat} (F : PF) (G : PG) : PP (cf_X6_step fu F G) (fun _ F' G' => KX [56, 57, 58, 59, 61, 62, 63, 64, 65, 66, 69, 70, 72, 300] [54, 55, 71] F G F' G') := by
  unfold cf_X6_step
  unfold cb_X6_step_0
  refine PP.bind (cw_X6_next F G) ?_
  intro r1 F1 G1 hK1
  dsimp only
  unfold cb_X6_step_9
  refine PP.ite (fun c_2 => ?_) (fun c_2 => ?_)
  · skip
    exact cwj_X6_step_43 (F 57) r1 F1 G1 (KX.tr KX.rf hK1 rfl rfl)
  · skip
    unfold cb_X6_step_16
    refine PP.ite (fun c_3 => ?_) (fun c_3 => ?_)
    · skip
      exact cwj_X6_step_43 (F 57) r1 F1 G1 (KX.tr KX.rf hK1 rfl rfl)
    · skip
      unfold cb_X6_step_22
      refine PP.bind (cw_X6_pop F1 G1) ?_
      intro r4 F4 G4 hK4
      dsimp only
      unfold cb_X6_step_26
      refine PP.bind (cw_X6_pop F4 G4) ?_
      intro r5 F5 G5 hK5
      dsimp only
      unfold cb_X6_step_33
      refine PP.bind (cw_X11_joined r1 r5 r4 F5 G5) ?_
      intro r6 F6 G6 hK6
      dsimp only
      unfold cb_X6_step_37
      refine PP.bind (cw_X6_push r6 F6 G6) ?_
      intro r7 F7 G7 hK7
      dsimp only
      unfold cb_X6_step_40
      exact cwj_X6_step_140 F7 G7 (KX.tr (KX.tr (KX.tr (KX.tr (KX.tr KX.rf hK1 rfl rfl) hK4 rfl rfl) hK5 rfl rfl) hK6 rfl rfl) hK7 rfl rfl)
theorem cw_X6_enterMain {fu : Nat} (F : PF) (G : PG) : PP (cf_X6_enterMain fu F G) (fun _ F' G' => KX [56, 57, 58, 59, 60, 61, 63, 66] [54] F G F' G') := by
  unfold cf_X6_enterMain
  unfold cb_X6_enterMain_0
  refine PP.bind (cw_X8_has (F 76) F G) ?_
  intro r1 F1 G1 hK1
  dsimp only
  unfold cb_X6_enterMain_14
  refine PP.ite (fun c_2 => ?_) (fun c_2 => ?_)
  · skip
    unfold cb_X6_enterMain_17
    refine PP.bind (cw_X6_over (3 : Int32) F1 G1) ?_
    intro r3 F3 G3 hK3
    dsimp only
    unfold cb_X6_enterMain_22
    refine PP.ret ?_
    exact (KX.tr (KX.tr KX.rf hK1 rfl rfl) hK3 rfl rfl)
  · skip
    unfold cb_X6_enterMain_23
    refine PP.ix (fun _ => ?_)
    refine PP.bind (cw_X6_enters (F1 76) (G1 77 (F1 76).toNatClampNeg) F1 G1) ?_
    intro r4 F4 G4 hK4
    dsimp only
    unfold cb_X6_enterMain_50
    refine PP.bz (fun _ => ?_)
    unfold cb_X6_enterMain_53
    refine PP.ret ?_
    exact (KX.f (k := 60) rfl (KX.tr (KX.tr KX.rf hK1 rfl rfl) hK4 rfl rfl))
theorem cwj_X6_goOn_68 {fu : Nat} {F0 : PF} {G0 : PG} (F : PF) (G : PG) (hK : KX [56, 57, 58, 59, 60, 61, 62, 63, 64, 65, 66, 69, 70, 72, 300] [54, 55, 71] F0 G0 F G) : PP (cb_X6_goOn_68 fu F G) (fun _ F' G' => KX [56, 57, 58, 59, 60, 61, 62, 63, 64, 65, 66, 69, 70, 72, 300] [54, 55, 71] F0 G0 F' G') := by
  unfold cb_X6_goOn_68
  refine PP.ret ?_
  exact hK
theorem cwz_X6_goOn_45 {fu : Nat} {F0 : PF} {G0 : PG} : ∀ (n : Nat) (x2 : Int32) (F : PF) (G : PG) (hK : KX [56, 57, 58, 59, 60, 61, 62, 63, 64, 65, 66, 69, 70, 72, 300] [54, 55, 71] F0 G0 F G), PP (cl_X6_goOn_45 fu n x2 F G) (fun _ F' G' => KX [56, 57, 58, 59, 60, 61, 62, 63, 64, 65, 66, 69, 70, 72, 300] [54, 55, 71] F0 G0 F' G') := by
  intro n
  induction n with
  | zero =>
    intro x2 F G hK
    exact PP.no
  | succ n ihn =>
    intro x2 F G hK
    show PP (cb_X6_goOn_45 fu (cl_X6_goOn_45 fu n) x2 F G) _
    unfold cb_X6_goOn_45
    refine PP.ite (fun c_1 => ?_) (fun c_1 => ?_)
    · skip
      exact cwj_X6_goOn_68 F G hK
    · skip
      unfold cb_X6_goOn_51
      refine PP.ite (fun c_2 => ?_) (fun c_2 => ?_)
      · skip
        exact cwj_X6_goOn_68 F G hK
      · skip
        unfold cb_X6_goOn_58
        refine PP.bind (cw_X6_step F G) ?_
        intro r3 F3 G3 hK3
        dsimp only
        unfold cb_X6_goOn_62
        exact ihn (x2 + (1 : Int32)) F3 G3 (KX.tr hK hK3 rfl rfl)
theorem cwj_X6_goOn_43 {fu : Nat} {F0 : PF} {G0 : PG} (F : PF) (G : PG) (hK : KX [56, 57, 58, 59, 60, 61, 62, 63, 64, 65, 66, 69, 70, 72, 300] [54, 55, 71] F0 G0 F G) : PP (cb_X6_goOn_43 fu F G) (fun _ F' G' => KX [56, 57, 58, 59, 60, 61, 62, 63, 64, 65, 66, 69, 70, 72, 300] [54, 55, 71] F0 G0 F' G') := by
  unfold cb_X6_goOn_43
  exact cwz_X6_goOn_45 fu (0 : Int32) F G hK
theorem cwj_X6_goOn_17 {fu : Nat} {F0 : PF} {G0 : PG} (x1 : Int32) (F : PF) (G : PG) (hK : KX [56, 57, 58, 59, 60, 61, 62, 63, 64, 65, 66, 69, 70, 72, 300] [54, 55, 71] F0 G0 F G) : PP (cb_X6_goOn_17 fu x1 F G) (fun _ F' G' => KX [56, 57, 58, 59, 60, 61, 62, 63, 64, 65, 66, 69, 70, 72, 300] [54, 55, 71] F0 G0 F' G') := by
  unfold cb_X6_goOn_17
  unfold cb_X6_goOn_22
  unfold cb_X6_goOn_27
  unfold cb_X6_goOn_32
  refine PP.ite (fun c_1 => ?_) (fun c_1 => ?_)
  · skip
    unfold cb_X6_goOn_39
    refine PP.bind (cw_X6_enterMain (fup (fup (fup F 63 (1 : Int32)) 62 x1) 61 (1 : Int32)) G) ?_
    intro r2 F2 G2 hK2
    dsimp only
    exact cwj_X6_goOn_43 F2 G2 (KX.tr (KX.f (k := 61) rfl (KX.f (k := 62) rfl (KX.f (k := 63) rfl hK))) hK2 rfl rfl)
  · skip
    exact cwj_X6_goOn_43 (fup (fup (fup F 63 (1 : Int32)) 62 x1) 61 (1 : Int32)) G (KX.f (k := 61) rfl (KX.f (k := 62) rfl (KX.f (k := 63) rfl hK)))
theorem cw_X6_goOn {fu : Nat} (x1 : Int32) (F : PF) (G : PG) : PP (cf_X6_goOn fu x1 F G) (fun _ F' G' => KX [56, 57, 58, 59, 60, 61, 62, 63, 64, 65, 66, 69, 70, 72, 300] [54, 55, 71] F G F' G') := by
  unfold cf_X6_goOn
  unfold cb_X6_goOn_0
  refine PP.ite (fun c_1 => ?_) (fun c_1 => ?_)
  · skip
    exact cwj_X6_goOn_17 x1 F G KX.rf
  · skip
    unfold cb_X6_goOn_8
    refine PP.ite (fun c_2 => ?_) (fun c_2 => ?_)
    · skip
      exact cwj_X6_goOn_17 x1 F G KX.rf
    · skip
      unfold cb_X6_goOn_16
      refine PP.ret ?_
      exact KX.rf
theorem cw_X7_forgetInput {fu : Nat} (F : PF) (G : PG) : PP (cf_X7_forgetInput fu F G) (fun _ F' G' => KX [69, 70] [] F G F' G') := by
  unfold cf_X7_forgetInput
  unfold cb_X7_forgetInput_0
  unfold cb_X7_forgetInput_5
  unfold cb_X7_forgetInput_10
  refine PP.ret ?_
  exact (KX.f (k := 70) rfl (KX.f (k := 69) rfl KX.rf))
theorem cw_X7_forgetOutput {fu : Nat} (F : PF) (G : PG) : PP (cf_X7_forgetOutput fu F G) (fun _ F' G' => KX [72] [] F G F' G') := by
  unfold cf_X7_forgetOutput
  unfold cb_X7_forgetOutput_0
  unfold cb_X7_forgetOutput_5
  refine PP.ret ?_
  exact (KX.f (k := 72) rfl KX.rf)
theorem cw_X7_takes {fu : Nat} (x1 : Int32) (F : PF) (G : PG) : PP (cf_X7_takes fu x1 F G) (fun _ F' G' => KX [70] [68] F G F' G') := by
  unfold cf_X7_takes
  unfold cb_X7_takes_0
  refine PP.ite (fun c_1 => ?_) (fun c_1 => ?_)
  · skip
    unfold cb_X7_takes_12
    refine PP.ix (fun _ => ?_)
    unfold cb_X7_takes_31
    unfold cb_X7_takes_41
    refine PP.ret ?_
    exact (KX.f (k := 70) rfl (KX.g (k := 68) rfl KX.rf))
  · skip
    unfold cb_X7_takes_10
    refine PP.ret ?_
    exact KX.rf
theorem cwj_X7_shown_29 {fu : Nat} {F0 : PF} {G0 : PG} (z0 : Int32) (F : PF) (G : PG) (hK : KX [] [] F0 G0 F G) : PP (cb_X7_shown_29 fu z0 F G) (fun _ F' G' => KX [] [] F0 G0 F' G') := by
  unfold cb_X7_shown_29
  refine PP.ret ?_
  exact hK
theorem cwj_X7_shown_19 {fu : Nat} {F0 : PF} {G0 : PG} (F : PF) (G : PG) (hK : KX [] [] F0 G0 F G) : PP (cb_X7_shown_19 fu F G) (fun _ F' G' => KX [] [] F0 G0 F' G') := by
  unfold cb_X7_shown_19
  exact cwj_X7_shown_29 (0 : Int32) F G hK
theorem cw_X7_shown {fu : Nat} (x1 : Int32) (F : PF) (G : PG) : PP (cf_X7_shown fu x1 F G) (fun _ F' G' => KX [] [] F G F' G') := by
  unfold cf_X7_shown
  unfold cb_X7_shown_0
  refine PP.ite (fun c_1 => ?_) (fun c_1 => ?_)
  · skip
    exact cwj_X7_shown_19 F G KX.rf
  · skip
    unfold cb_X7_shown_4
    refine PP.ite (fun c_2 => ?_) (fun c_2 => ?_)
    · skip
      exact cwj_X7_shown_19 F G KX.rf
    · skip
      unfold cb_X7_shown_11
      refine PP.ite (fun c_3 => ?_) (fun c_3 => ?_)
      · skip
        unfold cb_X7_shown_23
        refine PP.ix (fun _ => ?_)
        exact cwj_X7_shown_29 (G 71 x1.toNatClampNeg) F G KX.rf
      · skip
        exact cwj_X7_shown_19 F G KX.rf
theorem cwj_X9_take_46 {fu : Nat} {F0 : PF} {G0 : PG} (F : PF) (G : PG) (hK : KX [88] [87] F0 G0 F G) : PP (cb_X9_take_46 fu F G) (fun _ F' G' => KX [88] [87] F0 G0 F' G') := by
  unfold cb_X9_take_46
  refine PP.ret ?_
  exact hK
theorem cwz_X9_take_3 {fu : Nat} {F0 : PF} {G0 : PG} : ∀ (n : Nat) (x1 : Int32) (x2 : Int32) (F : PF) (G : PG) (hK : KX [88] [87] F0 G0 F G), PP (cl_X9_take_3 fu n x1 x2 F G) (fun _ F' G' => KX [88] [87] F0 G0 F' G') := by
  intro n
  induction n with
  | zero =>
    intro x1 x2 F G hK
    exact PP.no
  | succ n ihn =>
    intro x1 x2 F G hK
    show PP (cb_X9_take_3 fu (cl_X9_take_3 fu n) x1 x2 F G) _
    unfold cb_X9_take_3
    refine PP.ite (fun c_1 => ?_) (fun c_1 => ?_)
    · skip
      exact cwj_X9_take_46 F G hK
    · skip
      unfold cb_X9_take_7
      refine PP.ite (fun c_2 => ?_) (fun c_2 => ?_)
      · skip
        exact cwj_X9_take_46 F G hK
      · skip
        unfold cb_X9_take_17
        refine PP.ix (fun _ => ?_)
        unfold cb_X9_take_30
        unfold cb_X9_take_40
        exact ihn x1 (x2 + (-8 : Int32)) (fup F 88 ((F 88) + (1 : Int32))) (gup G 87 (F 88).toNatClampNeg (vp_nar .byte (((x1.toUInt32 >>> (x2.toUInt32 &&& Int32.toUInt32 31)).toInt32).toInt8.toInt32))) (KX.f (k := 88) rfl (KX.g (k := 87) rfl hK))
theorem cw_X9_take {fu : Nat} (x1 : Int32) (F : PF) (G : PG) : PP (cf_X9_take fu x1 F G) (fun _ F' G' => KX [88] [87] F G F' G') := by
  unfold cf_X9_take
  unfold cb_X9_take_0
  exact cwz_X9_take_3 fu x1 (24 : Int32) F G KX.rf
theorem cwj_X9_at_26 {fu : Nat} {F0 : PF} {G0 : PG} (z0 : Int32) (F : PF) (G : PG) (hK : KX [] [] F0 G0 F G) : PP (cb_X9_at_26 fu z0 F G) (fun _ F' G' => KX [] [] F0 G0 F' G') := by
  unfold cb_X9_at_26
  refine PP.ret ?_
  exact hK
theorem cwj_X9_at_12 {fu : Nat} {F0 : PF} {G0 : PG} (F : PF) (G : PG) (hK : KX [] [] F0 G0 F G) : PP (cb_X9_at_12 fu F G) (fun _ F' G' => KX [] [] F0 G0 F' G') := by
  unfold cb_X9_at_12
  exact cwj_X9_at_26 (-1 : Int32) F G hK
theorem cw_X9_at {fu : Nat} (x1 : Int32) (F : PF) (G : PG) : PP (cf_X9_at fu x1 F G) (fun _ F' G' => KX [] [] F G F' G') := by
  unfold cf_X9_at
  unfold cb_X9_at_0
  refine PP.ite (fun c_1 => ?_) (fun c_1 => ?_)
  · skip
    exact cwj_X9_at_12 F G KX.rf
  · skip
    unfold cb_X9_at_4
    refine PP.ite (fun c_2 => ?_) (fun c_2 => ?_)
    · skip
      unfold cb_X9_at_16
      refine PP.ix (fun _ => ?_)
      exact cwj_X9_at_26 ((G 87 x1.toNatClampNeg) &&& (255 : Int32)) F G KX.rf
    · skip
      exact cwj_X9_at_12 F G KX.rf
