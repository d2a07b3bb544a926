theorem cw_X11_feed {fu : Nat} (x1 : Int32) (x2 : Int32) (x3 : Int32) (x4 : Int32) (x5 : Int32) (F : PF) (G : PG) : PP (cf_X11_feed fu x1 x2 x3 x4 x5 F G) (fun _ F' G' => KX [88] [87] F G F' G') := by
  unfold cf_X11_feed
  unfold cb_X11_feed_0
  refine PP.ite (fun c_1 => ?_) (fun c_1 => ?_)
  · skip
    unfold cb_X11_feed_15
    refine PP.bind (cw_X9_take x1 F G) ?_
    intro r2 F2 G2 hK2
    dsimp only
    unfold cb_X11_feed_23
    refine PP.bind (cw_X9_take x2 F2 G2) ?_
    intro r3 F3 G3 hK3
    dsimp only
    unfold cb_X11_feed_31
    refine PP.bind (cw_X9_take x3 F3 G3) ?_
    intro r4 F4 G4 hK4
    dsimp only
    unfold cb_X11_feed_39
    refine PP.bind (cw_X9_take x4 F4 G4) ?_
    intro r5 F5 G5 hK5
    dsimp only
    unfold cb_X11_feed_48
    refine PP.bind (cw_X9_take x5 F5 G5) ?_
    intro r6 F6 G6 hK6
    dsimp only
    unfold cb_X11_feed_57
    refine PP.ret ?_
    exact (KX.tr (KX.tr (KX.tr (KX.tr (KX.tr KX.rf hK2 rfl rfl) hK3 rfl rfl) hK4 rfl rfl) hK5 rfl rfl) hK6 rfl rfl)
  · skip
    unfold cb_X11_feed_13
    refine PP.ret ?_
    exact KX.rf
theorem cwj_X11_end_15 {fu : Nat} {F0 : PF} {G0 : PG} (F : PF) (G : PG) (hK : KX [88] [] F0 G0 F G) : PP (cb_X11_end_15 fu F G) (fun _ F' G' => KX [88] [] F0 G0 F' G') := by
  unfold cb_X11_end_15
  refine PP.ret ?_
  exact hK
theorem cw_X11_end {fu : Nat} (x1 : Int32) (F : PF) (G : PG) : PP (cf_X11_end fu x1 F G) (fun _ F' G' => KX [88] [] F G F' G') := by
  unfold cf_X11_end
  unfold cb_X11_end_0
  refine PP.ite (fun c_1 => ?_) (fun c_1 => ?_)
  · skip
    exact cwj_X11_end_15 F G KX.rf
  · skip
    unfold cb_X11_end_4
    refine PP.ite (fun c_2 => ?_) (fun c_2 => ?_)
    · skip
      unfold cb_X11_end_17
      unfold cb_X11_end_25
      refine PP.ret ?_
      exact (KX.f (k := 88) rfl KX.rf)
    · skip
      exact cwj_X11_end_15 F G KX.rf
theorem cwj_X11_give_21 {fu : Nat} {F0 : PF} {G0 : PG} (F : PF) (G : PG) (hK : KX [70] [68] F0 G0 F G) : PP (cb_X11_give_21 fu F G) (fun _ F' G' => KX [70] [68] F0 G0 F' G') := by
  unfold cb_X11_give_21
  refine PP.ret ?_
  exact hK
theorem cw_X11_give {fu : Nat} (x1 : Int32) (F : PF) (G : PG) : PP (cf_X11_give fu x1 F G) (fun _ F' G' => KX [70] [68] F G F' G') := by
  unfold cf_X11_give
  unfold cb_X11_give_0
  refine PP.ite (fun c_1 => ?_) (fun c_1 => ?_)
  · skip
    exact cwj_X11_give_21 F G KX.rf
  · skip
    unfold cb_X11_give_10
    refine PP.bind (cw_X7_takes x1 F G) ?_
    intro r2 F2 G2 hK2
    dsimp only
    unfold cb_X11_give_18
    refine PP.ite (fun c_3 => ?_) (fun c_3 => ?_)
    · skip
      exact cwj_X11_give_21 F2 G2 (KX.tr KX.rf hK2 rfl rfl)
    · skip
      unfold cb_X11_give_23
      refine PP.ret ?_
      exact (KX.tr KX.rf hK2 rfl rfl)
theorem cwj_X11_begin_22 {fu : Nat} {F0 : PF} {G0 : PG} (F : PF) (G : PG) (hK : KX [56, 59, 60, 63, 64, 65, 66, 67, 72] [54] F0 G0 F G) : PP (cb_X11_begin_22 fu F G) (fun _ F' G' => KX [56, 59, 60, 63, 64, 65, 66, 67, 72] [54] F0 G0 F' G') := by
  unfold cb_X11_begin_22
  refine PP.ret ?_
  exact hK
theorem cw_X11_begin {fu : Nat} (x1 : Int32) (F : PF) (G : PG) : PP (cf_X11_begin fu x1 F G) (fun _ F' G' => KX [56, 59, 60, 63, 64, 65, 66, 67, 72] [54] F G F' G') := by
  unfold cf_X11_begin
  unfold cb_X11_begin_0
  refine PP.ite (fun c_1 => ?_) (fun c_1 => ?_)
  · skip
    exact cwj_X11_begin_22 F G KX.rf
  · skip
    unfold cb_X11_begin_10
    refine PP.ite (fun c_2 => ?_) (fun c_2 => ?_)
    · skip
      exact cwj_X11_begin_22 F G KX.rf
    · skip
      unfold cb_X11_begin_15
      refine PP.ite (fun c_3 => ?_) (fun c_3 => ?_)
      · skip
        unfold cb_X11_begin_24
        refine PP.bind (cw_X7_forgetOutput F G) ?_
        intro r4 F4 G4 hK4
        dsimp only
        unfold cb_X11_begin_31
        refine PP.bind (cw_X6_startAnew x1 F4 G4) ?_
        intro r5 F5 G5 hK5
        dsimp only
        unfold cb_X11_begin_39
        refine PP.ret ?_
        exact (KX.tr (KX.tr KX.rf hK4 rfl rfl) hK5 rfl rfl)
      · skip
        exact cwj_X11_begin_22 F G KX.rf
theorem cwj_X11_run_21 {fu : Nat} {F0 : PF} {G0 : PG} (F : PF) (G : PG) (hK : KX [56, 57, 58, 59, 60, 61, 62, 63, 64, 65, 66, 69, 70, 72, 300] [54, 55, 71] F0 G0 F G) : PP (cb_X11_run_21 fu F G) (fun _ F' G' => KX [56, 57, 58, 59, 60, 61, 62, 63, 64, 65, 66, 69, 70, 72, 300] [54, 55, 71] F0 G0 F' G') := by
  unfold cb_X11_run_21
  refine PP.ret ?_
  exact hK
theorem cw_X11_run {fu : Nat} (x1 : Int32) (F : PF) (G : PG) : PP (cf_X11_run fu x1 F G) (fun _ F' G' => KX [56, 57, 58, 59, 60, 61, 62, 63, 64, 65, 66, 69, 70, 72, 300] [54, 55, 71] F G F' G') := by
  unfold cf_X11_run
  unfold cb_X11_run_0
  refine PP.ite (fun c_1 => ?_) (fun c_1 => ?_)
  · skip
    exact cwj_X11_run_21 F G KX.rf
  · skip
    unfold cb_X11_run_4
    refine PP.ite (fun c_2 => ?_) (fun c_2 => ?_)
    · skip
      exact cwj_X11_run_21 F G KX.rf
    · skip
      unfold cb_X11_run_11
      refine PP.ite (fun c_3 => ?_) (fun c_3 => ?_)
      · skip
        exact cwj_X11_run_21 F G KX.rf
      · skip
        unfold cb_X11_run_23
        refine PP.bind (cw_X6_goOn x1 F G) ?_
        intro r4 F4 G4 hK4
        dsimp only
        unfold cb_X11_run_31
        refine PP.ret ?_
        exact (KX.tr KX.rf hK4 rfl rfl)
theorem cw_X11_put {fu : Nat} (x1 : Int32) (x2 : Int32) (F : PF) (G : PG) : PP (cf_X11_put fu x1 x2 F G) (fun _ F' G' => KX [] [0] F G F' G') := by
  unfold cf_X11_put
  unfold cb_X11_put_0
  refine PP.bind (cw_X0_hold x1 x2 F G) ?_
  intro r1 F1 G1 hK1
  dsimp only
  unfold cb_X11_put_9
  refine PP.bz (fun _ => ?_)
  refine PP.ret ?_
  exact (KX.tr KX.rf hK1 rfl rfl)
theorem cw_X11_set {fu : Nat} (x1 : Int32) (x2 : Int32) (F : PF) (G : PG) : PP (cf_X11_set fu x1 x2 F G) (fun _ F' G' => KX [2] [1] F G F' G') := by
  unfold cf_X11_set
  unfold cb_X11_set_0
  refine PP.bind (cw_X0_change x1 x2 F G) ?_
  intro r1 F1 G1 hK1
  dsimp only
  unfold cb_X11_set_9
  refine PP.bz (fun _ => ?_)
  refine PP.ret ?_
  exact (KX.tr KX.rf hK1 rfl rfl)
theorem cwj_X11_go_24 {fu : Nat} {F0 : PF} {G0 : PG} (z0 : Int32) (F : PF) (G : PG) (hK : KX [2, 3, 4] [0, 1] F0 G0 F G) : PP (cb_X11_go_24 fu z0 F G) (fun _ F' G' => KX [2, 3, 4] [0, 1] F0 G0 F' G') := by
  unfold cb_X11_go_24
  refine PP.ret ?_
  exact hK
theorem cwj_X11_go_12 {fu : Nat} {F0 : PF} {G0 : PG} (F : PF) (G : PG) (hK : KX [2, 3, 4] [0, 1] F0 G0 F G) : PP (cb_X11_go_12 fu F G) (fun _ F' G' => KX [2, 3, 4] [0, 1] F0 G0 F' G') := by
  unfold cb_X11_go_12
  exact cwj_X11_go_24 (-1 : Int32) F G hK
theorem cw_X11_go {fu : Nat} (x1 : Int32) (F : PF) (G : PG) : PP (cf_X11_go fu x1 F G) (fun _ F' G' => KX [2, 3, 4] [0, 1] F G F' G') := by
  unfold cf_X11_go
  unfold cb_X11_go_0
  refine PP.ite (fun c_1 => ?_) (fun c_1 => ?_)
  · skip
    exact cwj_X11_go_12 F G KX.rf
  · skip
    unfold cb_X11_go_5
    refine PP.ite (fun c_2 => ?_) (fun c_2 => ?_)
    · skip
      unfold cb_X11_go_16
      refine PP.bind (cw_X0_doWords x1 F G) ?_
      intro r3 F3 G3 hK3
      dsimp only
      exact cwj_X11_go_24 r3 F3 G3 (KX.tr KX.rf hK3 rfl rfl)
    · skip
      exact cwj_X11_go_12 F G KX.rf
