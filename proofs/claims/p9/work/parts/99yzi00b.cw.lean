theorem cwj_X5_elements_12 {fu : Nat} {F0 : PF} {G0 : PG} (x2 : Int32) (F : PF) (G : PG) (hK : KX [43, 44, 47] [] F0 G0 F G) : PP (cb_X5_elements_12 fu x2 F G) (fun _ F' G' => KX [43, 44, 47] [] F0 G0 F' G') := by
  unfold cb_X5_elements_12
  refine PP.bind (cw_X5_note (7 : Int32) x2 F G) ?_
  intro r1 F1 G1 hK1
  dsimp only
  unfold cb_X5_elements_19
  refine PP.ret ?_
  exact (KX.tr hK hK1 rfl rfl)
theorem cw_X5_elements {fu : Nat} (x1 : Int32) (x2 : Int32) (F : PF) (G : PG) : PP (cf_X5_elements fu x1 x2 F G) (fun _ F' G' => KX [43, 44, 47] [] F G F' G') := by
  unfold cf_X5_elements
  unfold cb_X5_elements_0
  refine PP.ite (fun c_1 => ?_) (fun c_1 => ?_)
  · skip
    exact cwj_X5_elements_12 x2 F G KX.rf
  · skip
    unfold cb_X5_elements_5
    refine PP.ite (fun c_2 => ?_) (fun c_2 => ?_)
    · skip
      unfold cb_X5_elements_21
      refine PP.ret ?_
      exact KX.rf
    · skip
      exact cwj_X5_elements_12 x2 F G KX.rf
theorem cwj_X3_arraySize_71 {fu : Nat} {F0 : PF} {G0 : PG} (x2 : Int32) (z0 : Int32) (F : PF) (G : PG) (hK : KX [6, 9, 10, 11, 12, 13, 14, 21, 43, 44, 46, 47, 56, 57, 300] [5, 20, 55] F0 G0 F G) : PP (cb_X3_arraySize_71 fu x2 z0 F G) (fun _ F' G' => KX [6, 9, 10, 11, 12, 13, 14, 21, 43, 44, 46, 47, 56, 57, 300] [5, 20, 55] F0 G0 F' G') := by
  unfold cb_X3_arraySize_71
  refine PP.bind (cw_X1_cut x2 F G) ?_
  intro r1 F1 G1 hK1
  dsimp only
  unfold cb_X3_arraySize_80
  refine PP.bind (cw_X2_closesWith (22 : Int32) F1 G1) ?_
  intro r2 F2 G2 hK2
  dsimp only
  unfold cb_X3_arraySize_89
  refine PP.ret ?_
  exact (KX.tr (KX.tr hK hK1 rfl rfl) hK2 rfl rfl)
theorem cw_X3_arraySize {fu : Nat} (F : PF) (G : PG) : PP (cf_X3_arraySize fu F G) (fun _ F' G' => KX [6, 9, 10, 11, 12, 13, 14, 21, 43, 44, 46, 47, 56, 57, 300] [5, 20, 55] F G F' G') := by
  unfold cf_X3_arraySize
  unfold cb_X3_arraySize_0
  refine PP.bind (cw_X2_opens (21 : Int32) F G) ?_
  intro r1 F1 G1 hK1
  dsimp only
  unfold cb_X3_arraySize_9
  refine PP.ite (fun c_2 => ?_) (fun c_2 => ?_)
  · skip
    unfold cb_X3_arraySize_12
    refine PP.ret ?_
    exact (KX.tr KX.rf hK1 rfl rfl)
  · skip
    unfold cb_X3_arraySize_14
    refine PP.bind (cw_X5_startConstant F1 G1) ?_
    intro r3 F3 G3 hK3
    dsimp only
    unfold cb_X3_arraySize_37
    refine PP.bind (cw_X3_expression F3 G3) ?_
    intro r4 F4 G4 hK4
    dsimp only
    unfold cb_X3_arraySize_41
    refine PP.bind (cw_X5_endsConstant F4 G4) ?_
    intro r5 F5 G5 hK5
    dsimp only
    unfold cb_X3_arraySize_48
    refine PP.ite (fun c_6 => ?_) (fun c_6 => ?_)
    · skip
      unfold cb_X3_arraySize_70
      exact cwj_X3_arraySize_71 (F1 6) (0 : Int32) F5 G5 (KX.tr (KX.tr (KX.tr (KX.tr KX.rf hK1 rfl rfl) hK3 rfl rfl) hK4 rfl rfl) hK5 rfl rfl)
    · skip
      unfold cb_X3_arraySize_51
      refine PP.bind (cw_X6_valueFrom (F1 6) F5 G5) ?_
      intro r7 F7 G7 hK7
      dsimp only
      unfold cb_X3_arraySize_63
      refine PP.bind (cw_X5_elements r7 (F1 13) F7 G7) ?_
      intro r8 F8 G8 hK8
      dsimp only
      unfold cb_X3_arraySize_67
      exact cwj_X3_arraySize_71 (F1 6) r8 F8 G8 (KX.tr (KX.tr (KX.tr (KX.tr (KX.tr (KX.tr KX.rf hK1 rfl rfl) hK3 rfl rfl) hK4 rfl rfl) hK5 rfl rfl) hK7 rfl rfl) hK8 rfl rfl)
theorem cwj_X3_keep_23 {fu : Nat} {F0 : PF} {G0 : PG} (z0 : Int32) (F : PF) (G : PG) (hK : KX [6] [5] F0 G0 F G) : PP (cb_X3_keep_23 fu z0 F G) (fun _ F' G' => KX [6] [5] F0 G0 F' G') := by
  unfold cb_X3_keep_23
  refine PP.bind (cw_X1_add z0 F G) ?_
  intro r1 F1 G1 hK1
  dsimp only
  unfold cb_X3_keep_26
  refine PP.ret ?_
  exact (KX.tr hK hK1 rfl rfl)
theorem cw_X3_keep {fu : Nat} (x1 : Int32) (F : PF) (G : PG) : PP (cf_X3_keep fu x1 F G) (fun _ F' G' => KX [6] [5] F G F' G') := by
  unfold cf_X3_keep
  unfold cb_X3_keep_0
  refine PP.bind (cw_X5_kind x1 F G) ?_
  intro r1 F1 G1 hK1
  dsimp only
  unfold cb_X3_keep_12
  refine PP.ite (fun c_2 => ?_) (fun c_2 => ?_)
  · skip
    unfold cb_X3_keep_16
    exact cwj_X3_keep_23 (80 : Int32) F1 G1 (KX.tr KX.rf hK1 rfl rfl)
  · skip
    unfold cb_X3_keep_21
    exact cwj_X3_keep_23 (79 : Int32) F1 G1 (KX.tr KX.rf hK1 rfl rfl)
theorem cwj_X3_store_22 {fu : Nat} {F0 : PF} {G0 : PG} (x1 : Int32) (z0 : Int32) (F : PF) (G : PG) (hK : KX [6] [5] F0 G0 F G) : PP (cb_X3_store_22 fu x1 z0 F G) (fun _ F' G' => KX [6] [5] F0 G0 F' G') := by
  unfold cb_X3_store_22
  refine PP.bind (cw_X5_value x1 F G) ?_
  intro r1 F1 G1 hK1
  dsimp only
  unfold cb_X3_store_30
  refine PP.bind (cw_X1_addPair z0 r1 F1 G1) ?_
  intro r2 F2 G2 hK2
  dsimp only
  unfold cb_X3_store_33
  refine PP.ret ?_
  exact (KX.tr (KX.tr hK hK1 rfl rfl) hK2 rfl rfl)
theorem cw_X3_store {fu : Nat} (x1 : Int32) (F : PF) (G : PG) : PP (cf_X3_store fu x1 F G) (fun _ F' G' => KX [6] [5] F G F' G') := by
  unfold cf_X3_store
  unfold cb_X3_store_0
  refine PP.bind (cw_X5_isGlobal x1 F G) ?_
  intro r1 F1 G1 hK1
  dsimp only
  unfold cb_X3_store_12
  refine PP.ite (fun c_2 => ?_) (fun c_2 => ?_)
  · skip
    unfold cb_X3_store_20
    exact cwj_X3_store_22 x1 (72 : Int32) F1 G1 (KX.tr KX.rf hK1 rfl rfl)
  · skip
    unfold cb_X3_store_15
    exact cwj_X3_store_22 x1 (71 : Int32) F1 G1 (KX.tr KX.rf hK1 rfl rfl)
theorem cw_X5_clear {fu : Nat} (F : PF) (G : PG) : PP (cf_X5_clear fu F G) (fun _ F' G' => KX [41, 42, 43, 44, 45, 46, 47] [40] F G F' G') := by
  unfold cf_X5_clear
  unfold cb_X5_clear_0
  unfold cb_X5_clear_5
  unfold cb_X5_clear_10
  unfold cb_X5_clear_17
  unfold cb_X5_clear_22
  unfold cb_X5_clear_27
  unfold cb_X5_clear_32
  unfold cb_X5_clear_37
  refine PP.bind (cw_fill_40 (-1 : Int32) (fup (fup (fup (fup (fup (fup (fup F 41 (0 : Int32)) 42 (0 : Int32)) 43 (4001 : Int32)) 44 (0 : Int32)) 45 (0 : Int32)) 46 (0 : Int32)) 47 (1 : Int32)) G) ?_
  intro r1 F1 G1 hK1
  dsimp only
  unfold cb_X5_clear_45
  refine PP.ret ?_
  exact (KX.tr (KX.f (k := 47) rfl (KX.f (k := 46) rfl (KX.f (k := 45) rfl (KX.f (k := 44) rfl (KX.f (k := 43) rfl (KX.f (k := 42) rfl (KX.f (k := 41) rfl KX.rf))))))) hK1 rfl rfl)
theorem cw_X8_clear {fu : Nat} (F : PF) (G : PG) : PP (cf_X8_clear fu F G) (fun _ F' G' => KX [73, 74, 75, 76, 85] [86] F G F' G') := by
  unfold cf_X8_clear
  unfold cb_X8_clear_0
  unfold cb_X8_clear_5
  unfold cb_X8_clear_10
  unfold cb_X8_clear_15
  unfold cb_X8_clear_20
  unfold cb_X8_clear_25
  refine PP.bind (cw_fill_86 (0 : Int32) (fup (fup (fup (fup (fup F 73 (0 : Int32)) 74 (0 : Int32)) 75 (0 : Int32)) 76 (-1 : Int32)) 85 (0 : Int32)) G) ?_
  intro r1 F1 G1 hK1
  dsimp only
  unfold cb_X8_clear_33
  refine PP.ret ?_
  exact (KX.tr (KX.f (k := 85) rfl (KX.f (k := 76) rfl (KX.f (k := 75) rfl (KX.f (k := 74) rfl (KX.f (k := 73) rfl KX.rf))))) hK1 rfl rfl)
theorem cw_X4_clear {fu : Nat} (x1 : Int32) (F : PF) (G : PG) : PP (cf_X4_clear fu x1 F G) (fun _ F' G' => KX [6, 27, 41, 42, 43, 44, 45, 46, 47, 73, 74, 75, 76, 85] [40, 86] F G F' G') := by
  unfold cf_X4_clear
  unfold cb_X4_clear_0
  unfold cb_X4_clear_5
  refine PP.bind (cw_X8_clear (fup F 27 x1) G) ?_
  intro r1 F1 G1 hK1
  dsimp only
  unfold cb_X4_clear_12
  refine PP.bind (cw_X5_clear F1 G1) ?_
  intro r2 F2 G2 hK2
  dsimp only
  unfold cb_X4_clear_19
  unfold cb_X4_clear_27
  refine PP.ret ?_
  exact (KX.f (k := 6) rfl (KX.tr (KX.tr (KX.f (k := 27) rfl KX.rf) hK1 rfl rfl) hK2 rfl rfl))
theorem cwj_X8_addFormal_82 {fu : Nat} {F0 : PF} {G0 : PG} (F : PF) (G : PG) (hK : KX [85] [78, 81, 84] F0 G0 F G) : PP (cb_X8_addFormal_82 fu F G) (fun _ F' G' => KX [85] [78, 81, 84] F0 G0 F' G') := by
  unfold cb_X8_addFormal_82
  refine PP.ret ?_
  exact hK
theorem cwj_X8_addFormal_80 {fu : Nat} {F0 : PF} {G0 : PG} (z0 : Int32) (z1 : Int32) (z2 : Int32) (F : PF) (G : PG) (hK : KX [85] [78, 81, 84] F0 G0 F G) : PP (cb_X8_addFormal_80 fu z0 z1 z2 F G) (fun _ F' G' => KX [85] [78, 81, 84] F0 G0 F' G') := by
  unfold cb_X8_addFormal_80
  refine PP.ix (fun _ => ?_)
  exact cwj_X8_addFormal_82 F (gup G 81 z2.toNatClampNeg (z1 + z0)) (KX.g (k := 81) rfl hK)
theorem cw_X8_addFormal {fu : Nat} (x1 : Int32) (F : PF) (G : PG) : PP (cf_X8_addFormal fu x1 F G) (fun _ F' G' => KX [85] [78, 81, 84] F G F' G') := by
  unfold cf_X8_addFormal
  unfold cb_X8_addFormal_0
  refine PP.ite (fun c_1 => ?_) (fun c_1 => ?_)
  · skip
    exact cwj_X8_addFormal_82 F G KX.rf
  · skip
    unfold cb_X8_addFormal_10
    refine PP.bind (cw_X8_has ((F 74) - (1 : Int32)) F G) ?_
    intro r2 F2 G2 hK2
    dsimp only
    unfold cb_X8_addFormal_20
    refine PP.ite (fun c_3 => ?_) (fun c_3 => ?_)
    · skip
      exact cwj_X8_addFormal_82 F2 G2 (KX.tr KX.rf hK2 rfl rfl)
    · skip
      unfold cb_X8_addFormal_23
      refine PP.ix (fun _ => ?_)
      unfold cb_X8_addFormal_33
      unfold cb_X8_addFormal_43
      refine PP.ix (fun _ => ?_)
      refine PP.ix (fun _ => ?_)
      unfold cb_X8_addFormal_58
      refine PP.ix (fun _ => ?_)
      refine PP.ite (fun c_4 => ?_) (fun c_4 => ?_)
      · skip
        unfold cb_X8_addFormal_75
        exact cwj_X8_addFormal_80 (1 : Int32) (G2 81 ((F2 74) - (1 : Int32)).toNatClampNeg) ((F2 74) - (1 : Int32)) (fup F2 85 ((F2 85) + (1 : Int32))) (gup (gup G2 84 (F2 85).toNatClampNeg x1) 78 ((F2 74) - (1 : Int32)).toNatClampNeg ((G2 78 ((F2 74) - (1 : Int32)).toNatClampNeg) + (1 : Int32))) (KX.g (k := 78) rfl (KX.f (k := 85) rfl (KX.g (k := 84) rfl (KX.tr KX.rf hK2 rfl rfl))))
      · skip
        unfold cb_X8_addFormal_79
        exact cwj_X8_addFormal_80 (2 : Int32) (G2 81 ((F2 74) - (1 : Int32)).toNatClampNeg) ((F2 74) - (1 : Int32)) (fup F2 85 ((F2 85) + (1 : Int32))) (gup (gup G2 84 (F2 85).toNatClampNeg x1) 78 ((F2 74) - (1 : Int32)).toNatClampNeg ((G2 78 ((F2 74) - (1 : Int32)).toNatClampNeg) + (1 : Int32))) (KX.g (k := 78) rfl (KX.f (k := 85) rfl (KX.g (k := 84) rfl (KX.tr KX.rf hK2 rfl rfl))))
theorem cw_X5_measure {fu : Nat} (F : PF) (G : PG) : PP (cf_X5_measure fu F G) (fun _ F' G' => KX [] [] F G F' G') := by
  unfold cf_X5_measure
  unfold cb_X5_measure_0
  refine PP.ret ?_
  exact KX.rf
theorem cwj_X5_install_121 {fu : Nat} {F0 : PF} {G0 : PG} (F : PF) (G : PG) (hK : KX [41] [33, 34, 35, 36, 37, 38, 39, 40] F0 G0 F G) : PP (cb_X5_install_121 fu F G) (fun _ F' G' => KX [41] [33, 34, 35, 36, 37, 38, 39, 40] F0 G0 F' G') := by
  unfold cb_X5_install_121
  refine PP.ret ?_
  exact hK
theorem cw_X5_install {fu : Nat} (x1 : Int32) (x2 : Int32) (x3 : Int32) (x4 : Int32) (x5 : Int32) (F : PF) (G : PG) : PP (cf_X5_install fu x1 x2 x3 x4 x5 F G) (fun _ F' G' => KX [41] [33, 34, 35, 36, 37, 38, 39, 40] F G F' G') := by
  unfold cf_X5_install
  unfold cb_X5_install_0
  refine PP.ite (fun c_1 => ?_) (fun c_1 => ?_)
  · skip
    exact cwj_X5_install_121 F G KX.rf
  · skip
    unfold cb_X5_install_10
    refine PP.ite (fun c_2 => ?_) (fun c_2 => ?_)
    · skip
      exact cwj_X5_install_121 F G KX.rf
    · skip
      unfold cb_X5_install_14
      refine PP.ite (fun c_3 => ?_) (fun c_3 => ?_)
      · skip
        exact cwj_X5_install_121 F G KX.rf
      · skip
        unfold cb_X5_install_21
        refine PP.ix (fun _ => ?_)
        unfold cb_X5_install_31
        refine PP.ix (fun _ => ?_)
        unfold cb_X5_install_44
        refine PP.ix (fun _ => ?_)
        unfold cb_X5_install_54
        refine PP.ix (fun _ => ?_)
        unfold cb_X5_install_64
        refine PP.ix (fun _ => ?_)
        unfold cb_X5_install_75
        refine PP.ix (fun _ => ?_)
        unfold cb_X5_install_86
        refine PP.ix (fun _ => ?_)
        refine PP.ix (fun _ => ?_)
        unfold cb_X5_install_101
        refine PP.ix (fun _ => ?_)
        unfold cb_X5_install_111
        exact cwj_X5_install_121 (fup F 41 ((F 41) + (1 : Int32))) (gup (gup (gup (gup (gup (gup (gup (gup G 33 (F 41).toNatClampNeg x1) 34 (F 41).toNatClampNeg (F 42)) 35 (F 41).toNatClampNeg x3) 36 (F 41).toNatClampNeg x2) 37 (F 41).toNatClampNeg x4) 38 (F 41).toNatClampNeg x5) 39 (F 41).toNatClampNeg (G 40 x1.toNatClampNeg)) 40 x1.toNatClampNeg (F 41)) (KX.f (k := 41) rfl (KX.g (k := 40) rfl (KX.g (k := 39) rfl (KX.g (k := 38) rfl (KX.g (k := 37) rfl (KX.g (k := 36) rfl (KX.g (k := 35) rfl (KX.g (k := 34) rfl (KX.g (k := 33) rfl KX.rf)))))))))
theorem cwj_X5_tell_114 {fu : Nat} {F0 : PF} {G0 : PG} (F : PF) (G : PG) (hK : KX [41, 43, 44, 47] [33, 34, 35, 36, 37, 38, 39, 40] F0 G0 F G) : PP (cb_X5_tell_114 fu F G) (fun _ F' G' => KX [41, 43, 44, 47] [33, 34, 35, 36, 37, 38, 39, 40] F0 G0 F' G') := by
  unfold cb_X5_tell_114
  refine PP.ret ?_
  exact hK
theorem cwj_X5_tell_103 {fu : Nat} {F0 : PF} {G0 : PG} (x1 : Int32) (x2 : Int32) (x3 : Int32) (x4 : Int32) (x5 : Int32) (F : PF) (G : PG) (hK : KX [41, 43, 44, 47] [33, 34, 35, 36, 37, 38, 39, 40] F0 G0 F G) : PP (cb_X5_tell_103 fu x1 x2 x3 x4 x5 F G) (fun _ F' G' => KX [41, 43, 44, 47] [33, 34, 35, 36, 37, 38, 39, 40] F0 G0 F' G') := by
  unfold cb_X5_tell_103
  refine PP.bind (cw_X5_install x1 x2 x3 x4 x5 F G) ?_
  intro r1 F1 G1 hK1
  dsimp only
  exact cwj_X5_tell_114 F1 G1 (KX.tr hK hK1 rfl rfl)
theorem cwj_X5_tell_82 {fu : Nat} {F0 : PF} {G0 : PG} (x1 : Int32) (x2 : Int32) (x3 : Int32) (x4 : Int32) (x5 : Int32) (x7 : Int32) (z0 : Int32) (F : PF) (G : PG) (hK : KX [41, 43, 44, 47] [33, 34, 35, 36, 37, 38, 39, 40] F0 G0 F G) : PP (cb_X5_tell_82 fu x1 x2 x3 x4 x5 x7 z0 F G) (fun _ F' G' => KX [41, 43, 44, 47] [33, 34, 35, 36, 37, 38, 39, 40] F0 G0 F' G') := by
  unfold cb_X5_tell_82
  refine PP.ite (fun c_1 => ?_) (fun c_1 => ?_)
  · skip
    exact cwj_X5_tell_103 x1 x2 x3 x4 x5 F G hK
  · skip
    unfold cb_X5_tell_89
    refine PP.ite (fun c_2 => ?_) (fun c_2 => ?_)
    · skip
      unfold cb_X5_tell_94
      refine PP.bind (cw_X5_note (1 : Int32) x2 F G) ?_
      intro r3 F3 G3 hK3
      dsimp only
      unfold cb_X5_tell_100
      exact cwj_X5_tell_114 F3 G3 (KX.tr hK hK3 rfl rfl)
    · skip
      exact cwj_X5_tell_103 x1 x2 x3 x4 x5 F G hK
theorem cwj_X5_tell_81 {fu : Nat} {F0 : PF} {G0 : PG} (x1 : Int32) (x2 : Int32) (x3 : Int32) (x4 : Int32) (x5 : Int32) (x7 : Int32) (F : PF) (G : PG) (hK : KX [41, 43, 44, 47] [33, 34, 35, 36, 37, 38, 39, 40] F0 G0 F G) : PP (cb_X5_tell_81 fu x1 x2 x3 x4 x5 x7 F G) (fun _ F' G' => KX [41, 43, 44, 47] [33, 34, 35, 36, 37, 38, 39, 40] F0 G0 F' G') := by
  unfold cb_X5_tell_81
  exact cwj_X5_tell_82 x1 x2 x3 x4 x5 x7 (0 : Int32) F G hK
theorem cwj_X5_tell_48 {fu : Nat} {F0 : PF} {G0 : PG} (x1 : Int32) (x2 : Int32) (x3 : Int32) (x4 : Int32) (x5 : Int32) (x6 : Int32) (z0 : Int32) (F : PF) (G : PG) (hK : KX [41, 43, 44, 47] [33, 34, 35, 36, 37, 38, 39, 40] F0 G0 F G) : PP (cb_X5_tell_48 fu x1 x2 x3 x4 x5 x6 z0 F G) (fun _ F' G' => KX [41, 43, 44, 47] [33, 34, 35, 36, 37, 38, 39, 40] F0 G0 F' G') := by
  unfold cb_X5_tell_48
  refine PP.ite (fun c_1 => ?_) (fun c_1 => ?_)
  · skip
    exact cwj_X5_tell_81 x1 x2 x3 x4 x5 z0 F G hK
  · skip
    unfold cb_X5_tell_55
    refine PP.ix (fun _ => ?_)
    refine PP.ite (fun c_2 => ?_) (fun c_2 => ?_)
    · skip
      unfold cb_X5_tell_66
      refine PP.ix (fun _ => ?_)
      refine PP.ite (fun c_3 => ?_) (fun c_3 => ?_)
      · skip
        exact cwj_X5_tell_81 x1 x2 x3 x4 x5 z0 F G hK
      · skip
        unfold cb_X5_tell_77
        exact cwj_X5_tell_82 x1 x2 x3 x4 x5 z0 (1 : Int32) F G hK
    · skip
      exact cwj_X5_tell_81 x1 x2 x3 x4 x5 z0 F G hK
theorem cwj_X5_tell_47 {fu : Nat} {F0 : PF} {G0 : PG} (x1 : Int32) (x2 : Int32) (x3 : Int32) (x4 : Int32) (x5 : Int32) (x6 : Int32) (F : PF) (G : PG) (hK : KX [41, 43, 44, 47] [33, 34, 35, 36, 37, 38, 39, 40] F0 G0 F G) : PP (cb_X5_tell_47 fu x1 x2 x3 x4 x5 x6 F G) (fun _ F' G' => KX [41, 43, 44, 47] [33, 34, 35, 36, 37, 38, 39, 40] F0 G0 F' G') := by
  unfold cb_X5_tell_47
  exact cwj_X5_tell_48 x1 x2 x3 x4 x5 x6 (0 : Int32) F G hK
theorem cw_X5_tell {fu : Nat} (x1 : Int32) (x2 : Int32) (x3 : Int32) (x4 : Int32) (x5 : Int32) (F : PF) (G : PG) : PP (cf_X5_tell fu x1 x2 x3 x4 x5 F G) (fun _ F' G' => KX [41, 43, 44, 47] [33, 34, 35, 36, 37, 38, 39, 40] F G F' G') := by
  unfold cf_X5_tell
  unfold cb_X5_tell_0
  refine PP.ite (fun c_1 => ?_) (fun c_1 => ?_)
  · skip
    unfold cb_X5_tell_7
    refine PP.ret ?_
    exact KX.rf
  · skip
    unfold cb_X5_tell_8
    refine PP.bind (cw_X5_known x1 F G) ?_
    intro r2 F2 G2 hK2
    dsimp only
    unfold cb_X5_tell_13
    refine PP.ite (fun c_3 => ?_) (fun c_3 => ?_)
    · skip
      exact cwj_X5_tell_47 x1 x2 x3 x4 x5 r2 F2 G2 (KX.tr KX.rf hK2 rfl rfl)
    · skip
      unfold cb_X5_tell_20
      refine PP.ite (fun c_4 => ?_) (fun c_4 => ?_)
      · skip
        exact cwj_X5_tell_47 x1 x2 x3 x4 x5 r2 F2 G2 (KX.tr KX.rf hK2 rfl rfl)
      · skip
        unfold cb_X5_tell_29
        refine PP.ix (fun _ => ?_)
        refine PP.ite (fun c_5 => ?_) (fun c_5 => ?_)
        · skip
          unfold cb_X5_tell_43
          exact cwj_X5_tell_48 x1 x2 x3 x4 x5 r2 (1 : Int32) F2 G2 (KX.tr KX.rf hK2 rfl rfl)
        · skip
          exact cwj_X5_tell_47 x1 x2 x3 x4 x5 r2 F2 G2 (KX.tr KX.rf hK2 rfl rfl)
theorem cwj_X5_tellFormal_21 {fu : Nat} {F0 : PF} {G0 : PG} (x1 : Int32) (x2 : Int32) (x3 : Int32) (x4 : Int32) (z0 : Int32) (z1 : Int32) (F : PF) (G : PG) (hK : KX [41, 43, 44, 47, 49] [33, 34, 35, 36, 37, 38, 39, 40] F0 G0 F G) : PP (cb_X5_tellFormal_21 fu x1 x2 x3 x4 z0 z1 F G) (fun _ F' G' => KX [41, 43, 44, 47, 49] [33, 34, 35, 36, 37, 38, 39, 40] F0 G0 F' G') := by
  unfold cb_X5_tellFormal_21
  unfold cb_X5_tellFormal_25
  refine PP.bind (cw_X5_tell x1 x2 x3 x4 (0 : Int32) (fup F 49 (z1 + z0)) G) ?_
  intro r1 F1 G1 hK1
  dsimp only
  unfold cb_X5_tellFormal_35
  refine PP.ret ?_
  exact (KX.tr (KX.f (k := 49) rfl hK) hK1 rfl rfl)
theorem cw_X5_tellFormal {fu : Nat} (x1 : Int32) (x2 : Int32) (x3 : Int32) (F : PF) (G : PG) : PP (cf_X5_tellFormal fu x1 x2 x3 F G) (fun _ F' G' => KX [41, 43, 44, 47, 49] [33, 34, 35, 36, 37, 38, 39, 40] F G F' G') := by
  unfold cf_X5_tellFormal
  unfold cb_X5_tellFormal_0
  refine PP.bind (cw_X5_measure F G) ?_
  intro r1 F1 G1 hK1
  dsimp only
  unfold cb_X5_tellFormal_4
  refine PP.ite (fun c_2 => ?_) (fun c_2 => ?_)
  · skip
    unfold cb_X5_tellFormal_16
    exact cwj_X5_tellFormal_21 x1 x2 x3 r1 (1 : Int32) (F1 49) F1 G1 (KX.tr KX.rf hK1 rfl rfl)
  · skip
    unfold cb_X5_tellFormal_20
    exact cwj_X5_tellFormal_21 x1 x2 x3 r1 (2 : Int32) (F1 49) F1 G1 (KX.tr KX.rf hK1 rfl rfl)
theorem cwj_X4_formal_182 {fu : Nat} {F0 : PF} {G0 : PG} (F : PF) (G : PG) (hK : KX [9, 10, 11, 12, 13, 14, 41, 43, 44, 47, 49, 85] [33, 34, 35, 36, 37, 38, 39, 40, 78, 81, 84] F0 G0 F G) : PP (cb_X4_formal_182 fu F G) (fun _ F' G' => KX [9, 10, 11, 12, 13, 14, 41, 43, 44, 47, 49, 85] [33, 34, 35, 36, 37, 38, 39, 40, 78, 81, 84] F0 G0 F' G') := by
  unfold cb_X4_formal_182
  refine PP.ret ?_
  exact hK
theorem cwj_X4_formal_133 {fu : Nat} {F0 : PF} {G0 : PG} (x1 : Int32) (x4 : Int32) (x5 : Int32) (x6 : Int32) (F : PF) (G : PG) (hK : KX [9, 10, 11, 12, 13, 14, 41, 43, 44, 47, 49, 85] [33, 34, 35, 36, 37, 38, 39, 40, 78, 81, 84] F0 G0 F G) : PP (cb_X4_formal_133 fu x1 x4 x5 x6 F G) (fun _ F' G' => KX [9, 10, 11, 12, 13, 14, 41, 43, 44, 47, 49, 85] [33, 34, 35, 36, 37, 38, 39, 40, 78, 81, 84] F0 G0 F' G') := by
  unfold cb_X4_formal_133
  refine PP.ite (fun c_1 => ?_) (fun c_1 => ?_)
  · skip
    unfold cb_X4_formal_143
    refine PP.bind (cw_X8_addFormal x6 F G) ?_
    intro r2 F2 G2 hK2
    dsimp only
    unfold cb_X4_formal_152
    refine PP.ret ?_
    exact (KX.tr hK hK2 rfl rfl)
  · skip
    unfold cb_X4_formal_153
    refine PP.bind (cw_X5_tellFormal x4 x5 x6 F G) ?_
    intro r3 F3 G3 hK3
    dsimp only
    unfold cb_X4_formal_166
    refine PP.ite (fun c_4 => ?_) (fun c_4 => ?_)
    · skip
      exact cwj_X4_formal_182 F3 G3 (KX.tr hK hK3 rfl rfl)
    · skip
      unfold cb_X4_formal_171
      refine PP.bind (cw_X5_note (8 : Int32) x5 F3 G3) ?_
      intro r5 F5 G5 hK5
      dsimp only
      exact cwj_X4_formal_182 F5 G5 (KX.tr (KX.tr hK hK3 rfl rfl) hK5 rfl rfl)
theorem cwj_X4_formal_110 {fu : Nat} {F0 : PF} {G0 : PG} (x1 : Int32) (x4 : Int32) (x5 : Int32) (z0 : Int32) (F : PF) (G : PG) (hK : KX [9, 10, 11, 12, 13, 14, 41, 43, 44, 47, 49, 85] [33, 34, 35, 36, 37, 38, 39, 40, 78, 81, 84] F0 G0 F G) : PP (cb_X4_formal_110 fu x1 x4 x5 z0 F G) (fun _ F' G' => KX [9, 10, 11, 12, 13, 14, 41, 43, 44, 47, 49, 85] [33, 34, 35, 36, 37, 38, 39, 40, 78, 81, 84] F0 G0 F' G') := by
  unfold cb_X4_formal_110
  refine PP.bind (cw_X2_opens (21 : Int32) F G) ?_
  intro r1 F1 G1 hK1
  dsimp only
  unfold cb_X4_formal_121
  refine PP.ite (fun c_2 => ?_) (fun c_2 => ?_)
  · skip
    exact cwj_X4_formal_133 x1 x4 x5 z0 F1 G1 (KX.tr hK hK1 rfl rfl)
  · skip
    unfold cb_X4_formal_124
    refine PP.bind (cw_X2_closesWith (22 : Int32) F1 G1) ?_
    intro r3 F3 G3 hK3
    dsimp only
    exact cwj_X4_formal_133 x1 x4 x5 z0 F3 G3 (KX.tr (KX.tr hK hK1 rfl rfl) hK3 rfl rfl)
theorem cwj_X4_formal_100 {fu : Nat} {F0 : PF} {G0 : PG} (x1 : Int32) (x3 : Int32) (x4 : Int32) (x5 : Int32) (F : PF) (G : PG) (hK : KX [9, 10, 11, 12, 13, 14, 41, 43, 44, 47, 49, 85] [33, 34, 35, 36, 37, 38, 39, 40, 78, 81, 84] F0 G0 F G) : PP (cb_X4_formal_100 fu x1 x3 x4 x5 F G) (fun _ F' G' => KX [9, 10, 11, 12, 13, 14, 41, 43, 44, 47, 49, 85] [33, 34, 35, 36, 37, 38, 39, 40, 78, 81, 84] F0 G0 F' G') := by
  unfold cb_X4_formal_100
  refine PP.ite (fun c_1 => ?_) (fun c_1 => ?_)
  · skip
    unfold cb_X4_formal_105
    exact cwj_X4_formal_110 x1 x4 x5 (2 : Int32) F G hK
  · skip
    unfold cb_X4_formal_109
    exact cwj_X4_formal_110 x1 x4 x5 (3 : Int32) F G hK
theorem cwj_X4_formal_47 {fu : Nat} {F0 : PF} {G0 : PG} (x1 : Int32) (x3 : Int32) (F : PF) (G : PG) (hK : KX [9, 10, 11, 12, 13, 14, 41, 43, 44, 47, 49, 85] [33, 34, 35, 36, 37, 38, 39, 40, 78, 81, 84] F0 G0 F G) : PP (cb_X4_formal_47 fu x1 x3 F G) (fun _ F' G' => KX [9, 10, 11, 12, 13, 14, 41, 43, 44, 47, 49, 85] [33, 34, 35, 36, 37, 38, 39, 40, 78, 81, 84] F0 G0 F' G') := by
  unfold cb_X4_formal_47
  refine PP.bind (cw_X2_next F G) ?_
  intro r1 F1 G1 hK1
  dsimp only
  unfold cb_X4_formal_54
  refine PP.bind (cw_X2_expect (2 : Int32) F1 G1) ?_
  intro r2 F2 G2 hK2
  dsimp only
  unfold cb_X4_formal_80
  refine PP.ite (fun c_3 => ?_) (fun c_3 => ?_)
  · skip
    exact cwj_X4_formal_100 x1 x3 (F1 12) (F1 13) F2 G2 (KX.tr (KX.tr hK hK1 rfl rfl) hK2 rfl rfl)
  · skip
    unfold cb_X4_formal_95
    refine PP.ite (fun c_4 => ?_) (fun c_4 => ?_)
    · skip
      exact cwj_X4_formal_100 x1 x3 (F1 12) (F1 13) F2 G2 (KX.tr (KX.tr hK hK1 rfl rfl) hK2 rfl rfl)
    · skip
      exact cwj_X4_formal_133 x1 (F1 12) (F1 13) (1 : Int32) F2 G2 (KX.tr (KX.tr hK hK1 rfl rfl) hK2 rfl rfl)
theorem cwj_X4_formal_27 {fu : Nat} {F0 : PF} {G0 : PG} (x1 : Int32) (x2 : Int32) (x3 : Int32) (F : PF) (G : PG) (hK : KX [9, 10, 11, 12, 13, 14, 41, 43, 44, 47, 49, 85] [33, 34, 35, 36, 37, 38, 39, 40, 78, 81, 84] F0 G0 F G) : PP (cb_X4_formal_27 fu x1 x2 x3 F G) (fun _ F' G' => KX [9, 10, 11, 12, 13, 14, 41, 43, 44, 47, 49, 85] [33, 34, 35, 36, 37, 38, 39, 40, 78, 81, 84] F0 G0 F' G') := by
  unfold cb_X4_formal_27
  refine PP.ite (fun c_1 => ?_) (fun c_1 => ?_)
  · skip
    exact cwj_X4_formal_47 x1 x3 F G hK
  · skip
    unfold cb_X4_formal_31
    refine PP.bind (cw_X5_note (9 : Int32) (F 13) F G) ?_
    intro r2 F2 G2 hK2
    dsimp only
    exact cwj_X4_formal_47 x1 x3 F2 G2 (KX.tr hK hK2 rfl rfl)
theorem cw_X4_formal {fu : Nat} (x1 : Int32) (x2 : Int32) (F : PF) (G : PG) : PP (cf_X4_formal fu x1 x2 F G) (fun _ F' G' => KX [9, 10, 11, 12, 13, 14, 41, 43, 44, 47, 49, 85] [33, 34, 35, 36, 37, 38, 39, 40, 78, 81, 84] F G F' G') := by
  unfold cf_X4_formal
  unfold cb_X4_formal_0
  refine PP.ite (fun c_1 => ?_) (fun c_1 => ?_)
  · skip
    exact cwj_X4_formal_27 x1 x2 (F 11) F G KX.rf
  · skip
    unfold cb_X4_formal_13
    refine PP.ite (fun c_2 => ?_) (fun c_2 => ?_)
    · skip
      exact cwj_X4_formal_27 x1 x2 (F 11) F G KX.rf
    · skip
      unfold cb_X4_formal_18
      refine PP.bind (cw_X2_fail (2 : Int32) F G) ?_
      intro r3 F3 G3 hK3
      dsimp only
      unfold cb_X4_formal_26
      refine PP.ret ?_
      exact (KX.tr KX.rf hK3 rfl rfl)
theorem cwj_X4_formals_85 {fu : Nat} {F0 : PF} {G0 : PG} (F : PF) (G : PG) (hK : KX [9, 10, 11, 12, 13, 14, 41, 43, 44, 47, 49, 85] [33, 34, 35, 36, 37, 38, 39, 40, 78, 81, 84] F0 G0 F G) : PP (cb_X4_formals_85 fu F G) (fun _ F' G' => KX [9, 10, 11, 12, 13, 14, 41, 43, 44, 47, 49, 85] [33, 34, 35, 36, 37, 38, 39, 40, 78, 81, 84] F0 G0 F' G') := by
  unfold cb_X4_formals_85
  refine PP.bind (cw_X2_closesWith (20 : Int32) F G) ?_
  intro r1 F1 G1 hK1
  dsimp only
  unfold cb_X4_formals_94
  refine PP.ret ?_
  exact (KX.tr hK hK1 rfl rfl)
theorem cwj_X4_formals_79 {fu : Nat} {F0 : PF} {G0 : PG} (ag_33 : Int32 → Int32 → Int32 → PF → PG → PR) (hag_33 : ∀ (x1 : Int32) (x2 : Int32) (x3 : Int32) (F : PF) (G : PG) (hK : KX [9, 10, 11, 12, 13, 14, 41, 43, 44, 47, 49, 85] [33, 34, 35, 36, 37, 38, 39, 40, 78, 81, 84] F0 G0 F G), PP (ag_33 x1 x2 x3 F G) (fun _ F' G' => KX [9, 10, 11, 12, 13, 14, 41, 43, 44, 47, 49, 85] [33, 34, 35, 36, 37, 38, 39, 40, 78, 81, 84] F0 G0 F' G')) (x1 : Int32) (x2 : Int32) (x3 : Int32) (F : PF) (G : PG) (hK : KX [9, 10, 11, 12, 13, 14, 41, 43, 44, 47, 49, 85] [33, 34, 35, 36, 37, 38, 39, 40, 78, 81, 84] F0 G0 F G) : PP (cb_X4_formals_79 fu ag_33 x1 x2 x3 F G) (fun _ F' G' => KX [9, 10, 11, 12, 13, 14, 41, 43, 44, 47, 49, 85] [33, 34, 35, 36, 37, 38, 39, 40, 78, 81, 84] F0 G0 F' G') := by
  unfold cb_X4_formals_79
  exact hag_33 x1 x2 (x3 + (1 : Int32)) F G hK
theorem cwj_X4_formals_67 {fu : Nat} {F0 : PF} {G0 : PG} (ag_33 : Int32 → Int32 → Int32 → PF → PG → PR) (hag_33 : ∀ (x1 : Int32) (x2 : Int32) (x3 : Int32) (F : PF) (G : PG) (hK : KX [9, 10, 11, 12, 13, 14, 41, 43, 44, 47, 49, 85] [33, 34, 35, 36, 37, 38, 39, 40, 78, 81, 84] F0 G0 F G), PP (ag_33 x1 x2 x3 F G) (fun _ F' G' => KX [9, 10, 11, 12, 13, 14, 41, 43, 44, 47, 49, 85] [33, 34, 35, 36, 37, 38, 39, 40, 78, 81, 84] F0 G0 F' G')) (x1 : Int32) (x3 : Int32) (z0 : Int32) (F : PF) (G : PG) (hK : KX [9, 10, 11, 12, 13, 14, 41, 43, 44, 47, 49, 85] [33, 34, 35, 36, 37, 38, 39, 40, 78, 81, 84] F0 G0 F G) : PP (cb_X4_formals_67 fu ag_33 x1 x3 z0 F G) (fun _ F' G' => KX [9, 10, 11, 12, 13, 14, 41, 43, 44, 47, 49, 85] [33, 34, 35, 36, 37, 38, 39, 40, 78, 81, 84] F0 G0 F' G') := by
  unfold cb_X4_formals_67
  refine PP.ite (fun c_1 => ?_) (fun c_1 => ?_)
  · skip
    exact cwj_X4_formals_79 ag_33 hag_33 x1 z0 x3 F G hK
  · skip
    unfold cb_X4_formals_72
    refine PP.bind (cw_X2_next F G) ?_
    intro r2 F2 G2 hK2
    dsimp only
    exact cwj_X4_formals_79 ag_33 hag_33 x1 z0 x3 F2 G2 (KX.tr hK hK2 rfl rfl)
theorem cwz_X4_formals_33 {fu : Nat} {F0 : PF} {G0 : PG} : ∀ (n : Nat) (x1 : Int32) (x2 : Int32) (x3 : Int32) (F : PF) (G : PG) (hK : KX [9, 10, 11, 12, 13, 14, 41, 43, 44, 47, 49, 85] [33, 34, 35, 36, 37, 38, 39, 40, 78, 81, 84] F0 G0 F G), PP (cl_X4_formals_33 fu n x1 x2 x3 F G) (fun _ F' G' => KX [9, 10, 11, 12, 13, 14, 41, 43, 44, 47, 49, 85] [33, 34, 35, 36, 37, 38, 39, 40, 78, 81, 84] F0 G0 F' G') := by
  intro n
  induction n with
  | zero =>
    intro x1 x2 x3 F G hK
    exact PP.no
  | succ n ihn =>
    intro x1 x2 x3 F G hK
    show PP (cb_X4_formals_33 fu (cl_X4_formals_33 fu n) x1 x2 x3 F G) _
    unfold cb_X4_formals_33
    refine PP.ite (fun c_1 => ?_) (fun c_1 => ?_)
    · skip
      exact cwj_X4_formals_85 F G hK
    · skip
      unfold cb_X4_formals_40
      refine PP.ite (fun c_2 => ?_) (fun c_2 => ?_)
      · skip
        exact cwj_X4_formals_85 F G hK
      · skip
        unfold cb_X4_formals_44
        refine PP.bind (cw_X4_formal x3 x1 F G) ?_
        intro r3 F3 G3 hK3
        dsimp only
        unfold cb_X4_formals_50
        refine PP.ite (fun c_4 => ?_) (fun c_4 => ?_)
        · skip
          unfold cb_X4_formals_62
          exact cwj_X4_formals_67 (cl_X4_formals_33 fu n) ihn x1 x3 (1 : Int32) F3 G3 (KX.tr hK hK3 rfl rfl)
        · skip
          unfold cb_X4_formals_66
          exact cwj_X4_formals_67 (cl_X4_formals_33 fu n) ihn x1 x3 (0 : Int32) F3 G3 (KX.tr hK hK3 rfl rfl)
theorem cwj_X4_formals_30 {fu : Nat} {F0 : PF} {G0 : PG} (x1 : Int32) (z0 : Int32) (F : PF) (G : PG) (hK : KX [9, 10, 11, 12, 13, 14, 41, 43, 44, 47, 49, 85] [33, 34, 35, 36, 37, 38, 39, 40, 78, 81, 84] F0 G0 F G) : PP (cb_X4_formals_30 fu x1 z0 F G) (fun _ F' G' => KX [9, 10, 11, 12, 13, 14, 41, 43, 44, 47, 49, 85] [33, 34, 35, 36, 37, 38, 39, 40, 78, 81, 84] F0 G0 F' G') := by
  unfold cb_X4_formals_30
  exact cwz_X4_formals_33 fu x1 z0 (0 : Int32) F G hK
theorem cw_X4_formals {fu : Nat} (x1 : Int32) (F : PF) (G : PG) : PP (cf_X4_formals fu x1 F G) (fun _ F' G' => KX [9, 10, 11, 12, 13, 14, 41, 43, 44, 47, 49, 85] [33, 34, 35, 36, 37, 38, 39, 40, 78, 81, 84] F G F' G') := by
  unfold cf_X4_formals
  unfold cb_X4_formals_0
  refine PP.bind (cw_X2_opens (19 : Int32) F G) ?_
  intro r1 F1 G1 hK1
  dsimp only
  unfold cb_X4_formals_9
  refine PP.ite (fun c_2 => ?_) (fun c_2 => ?_)
  · skip
    unfold cb_X4_formals_12
    refine PP.ret ?_
    exact (KX.tr KX.rf hK1 rfl rfl)
  · skip
    unfold cb_X4_formals_13
    refine PP.ite (fun c_3 => ?_) (fun c_3 => ?_)
    · skip
      unfold cb_X4_formals_29
      exact cwj_X4_formals_30 x1 (0 : Int32) F1 G1 (KX.tr KX.rf hK1 rfl rfl)
    · skip
      unfold cb_X4_formals_25
      exact cwj_X4_formals_30 x1 (1 : Int32) F1 G1 (KX.tr KX.rf hK1 rfl rfl)
theorem cwj_X5_globalRoom_48 {fu : Nat} {F0 : PF} {G0 : PG} (x3 : Int32) (F : PF) (G : PG) (hK : KX [43, 44, 47, 75] [] F0 G0 F G) : PP (cb_X5_globalRoom_48 fu x3 F G) (fun _ F' G' => KX [43, 44, 47, 75] [] F0 G0 F' G') := by
  unfold cb_X5_globalRoom_48
  refine PP.ret ?_
  exact hK
theorem cw_X5_globalRoom {fu : Nat} (x1 : Int32) (x2 : Int32) (F : PF) (G : PG) : PP (cf_X5_globalRoom fu x1 x2 F G) (fun _ F' G' => KX [43, 44, 47, 75] [] F G F' G') := by
  unfold cf_X5_globalRoom
  unfold cb_X5_globalRoom_0
  refine PP.ite (fun c_1 => ?_) (fun c_1 => ?_)
  · skip
    exact cwj_X5_globalRoom_48 (F 75) F G KX.rf
  · skip
    unfold cb_X5_globalRoom_15
    unfold cb_X5_globalRoom_28
    refine PP.ite (fun c_2 => ?_) (fun c_2 => ?_)
    · skip
      exact cwj_X5_globalRoom_48 (F 75) (fup F 75 ((F 75) + x1)) G (KX.f (k := 75) rfl KX.rf)
    · skip
      unfold cb_X5_globalRoom_41
      refine PP.bind (cw_X5_note (8 : Int32) x2 (fup F 75 ((F 75) + x1)) G) ?_
      intro r3 F3 G3 hK3
      dsimp only
      exact cwj_X5_globalRoom_48 (F 75) F3 G3 (KX.tr (KX.f (k := 75) rfl KX.rf) hK3 rfl rfl)
theorem cwj_X8_tellInt_18 {fu : Nat} {F0 : PF} {G0 : PG} (F : PF) (G : PG) (hK : KX [] [86] F0 G0 F G) : PP (cb_X8_tellInt_18 fu F G) (fun _ F' G' => KX [] [86] F0 G0 F' G') := by
  unfold cb_X8_tellInt_18
  refine PP.ret ?_
  exact hK
theorem cw_X8_tellInt {fu : Nat} (x1 : Int32) (x2 : Int32) (F : PF) (G : PG) : PP (cf_X8_tellInt fu x1 x2 F G) (fun _ F' G' => KX [] [86] F G F' G') := by
  unfold cf_X8_tellInt
  unfold cb_X8_tellInt_0
  refine PP.ite (fun c_1 => ?_) (fun c_1 => ?_)
  · skip
    exact cwj_X8_tellInt_18 F G KX.rf
  · skip
    unfold cb_X8_tellInt_4
    refine PP.ite (fun c_2 => ?_) (fun c_2 => ?_)
    · skip
      exact cwj_X8_tellInt_18 F G KX.rf
    · skip
      unfold cb_X8_tellInt_11
      refine PP.ix (fun _ => ?_)
      exact cwj_X8_tellInt_18 F (gup G 86 x1.toNatClampNeg x2) (KX.g (k := 86) rfl KX.rf)
theorem cwj_X4_globalInt_29 {fu : Nat} {F0 : PF} {G0 : PG} (x1 : Int32) (x2 : Int32) (x3 : Int32) (F : PF) (G : PG) (hK : KX [6, 9, 10, 11, 12, 13, 14, 21, 41, 43, 44, 46, 47, 56, 57, 75, 300] [5, 20, 33, 34, 35, 36, 37, 38, 39, 40, 55, 86] F0 G0 F G) : PP (cb_X4_globalInt_29 fu x1 x2 x3 F G) (fun _ F' G' => KX [6, 9, 10, 11, 12, 13, 14, 21, 41, 43, 44, 46, 47, 56, 57, 75, 300] [5, 20, 33, 34, 35, 36, 37, 38, 39, 40, 55, 86] F0 G0 F' G') := by
  unfold cb_X4_globalInt_29
  refine PP.bind (cw_X2_expect (26 : Int32) F G) ?_
  intro r1 F1 G1 hK1
  dsimp only
  unfold cb_X4_globalInt_38
  refine PP.bind (cw_X5_globalRoom (1 : Int32) x2 F1 G1) ?_
  intro r2 F2 G2 hK2
  dsimp only
  unfold cb_X4_globalInt_47
  refine PP.bind (cw_X8_tellInt r2 x3 F2 G2) ?_
  intro r3 F3 G3 hK3
  dsimp only
  unfold cb_X4_globalInt_59
  refine PP.bind (cw_X5_tell x1 x2 (1 : Int32) r2 (0 : Int32) F3 G3) ?_
  intro r4 F4 G4 hK4
  dsimp only
  unfold cb_X4_globalInt_72
  refine PP.ret ?_
  exact (KX.tr (KX.tr (KX.tr (KX.tr hK hK1 rfl rfl) hK2 rfl rfl) hK3 rfl rfl) hK4 rfl rfl)
theorem cw_X4_globalInt {fu : Nat} (x1 : Int32) (x2 : Int32) (F : PF) (G : PG) : PP (cf_X4_globalInt fu x1 x2 F G) (fun _ F' G' => KX [6, 9, 10, 11, 12, 13, 14, 21, 41, 43, 44, 46, 47, 56, 57, 75, 300] [5, 20, 33, 34, 35, 36, 37, 38, 39, 40, 55, 86] F G F' G') := by
  unfold cf_X4_globalInt
  unfold cb_X4_globalInt_0
  refine PP.ite (fun c_1 => ?_) (fun c_1 => ?_)
  · skip
    unfold cb_X4_globalInt_14
    refine PP.bind (cw_X2_next F G) ?_
    intro r2 F2 G2 hK2
    dsimp only
    unfold cb_X4_globalInt_21
    refine PP.bind (cw_X3_constant F2 G2) ?_
    intro r3 F3 G3 hK3
    dsimp only
    unfold cb_X4_globalInt_28
    exact cwj_X4_globalInt_29 x1 x2 r3 F3 G3 (KX.tr (KX.tr KX.rf hK2 rfl rfl) hK3 rfl rfl)
  · skip
    exact cwj_X4_globalInt_29 x1 x2 (0 : Int32) F G KX.rf
theorem cwj_X5_fault_30 {fu : Nat} {F0 : PF} {G0 : PG} (z0 : Int32) (F : PF) (G : PG) (hK : KX [] [] F0 G0 F G) : PP (cb_X5_fault_30 fu z0 F G) (fun _ F' G' => KX [] [] F0 G0 F' G') := by
  unfold cb_X5_fault_30
  refine PP.ret ?_
  exact hK
theorem cw_X5_fault {fu : Nat} (F : PF) (G : PG) : PP (cf_X5_fault fu F G) (fun _ F' G' => KX [] [] F G F' G') := by
  unfold cf_X5_fault
  unfold cb_X5_fault_0
  refine PP.ite (fun c_1 => ?_) (fun c_1 => ?_)
  · skip
    unfold cb_X5_fault_14
    refine PP.ix (fun _ => ?_)
    exact cwj_X5_fault_30 (((F 43) * (16 : Int32)) + (tb_0 (F 44).toNatClampNeg)) F G KX.rf
  · skip
    unfold cb_X5_fault_10
    exact cwj_X5_fault_30 (0 : Int32) F G KX.rf
theorem cwj_X5_leave_65 {fu : Nat} {F0 : PF} {G0 : PG} (F : PF) (G : PG) (hK : KX [41, 42] [40] F0 G0 F G) : PP (cb_X5_leave_65 fu F G) (fun _ F' G' => KX [41, 42] [40] F0 G0 F' G') := by
  unfold cb_X5_leave_65
  unfold cb_X5_leave_75
  refine PP.ret ?_
  exact (KX.f (k := 42) rfl hK)
theorem cwj_X5_leave_54 {fu : Nat} {F0 : PF} {G0 : PG} (ag_7 : Int32 → PF → PG → PR) (hag_7 : ∀ (x1 : Int32) (F : PF) (G : PG) (hK : KX [41, 42] [40] F0 G0 F G), PP (ag_7 x1 F G) (fun _ F' G' => KX [41, 42] [40] F0 G0 F' G')) (x1 : Int32) (F : PF) (G : PG) (hK : KX [41, 42] [40] F0 G0 F G) : PP (cb_X5_leave_54 fu ag_7 x1 F G) (fun _ F' G' => KX [41, 42] [40] F0 G0 F' G') := by
  unfold cb_X5_leave_54
  unfold cb_X5_leave_59
  exact hag_7 (x1 + (-1 : Int32)) (fup F 41 x1) G (KX.f (k := 41) rfl hK)
theorem cwz_X5_leave_7 {fu : Nat} {F0 : PF} {G0 : PG} : ∀ (n : Nat) (x1 : Int32) (F : PF) (G : PG) (hK : KX [41, 42] [40] F0 G0 F G), PP (cl_X5_leave_7 fu n x1 F G) (fun _ F' G' => KX [41, 42] [40] F0 G0 F' G') := by
  intro n
  induction n with
  | zero =>
    intro x1 F G hK
    exact PP.no
  | succ n ihn =>
    intro x1 F G hK
    show PP (cb_X5_leave_7 fu (cl_X5_leave_7 fu n) x1 F G) _
    unfold cb_X5_leave_7
    refine PP.ite (fun c_1 => ?_) (fun c_1 => ?_)
    · skip
      exact cwj_X5_leave_65 F G hK
    · skip
      unfold cb_X5_leave_11
      refine PP.ix (fun _ => ?_)
      refine PP.ite (fun c_2 => ?_) (fun c_2 => ?_)
      · skip
        unfold cb_X5_leave_24
        refine PP.ix (fun _ => ?_)
        refine PP.ite (fun c_3 => ?_) (fun c_3 => ?_)
        · skip
          exact cwj_X5_leave_54 (cl_X5_leave_7 fu n) ihn x1 F G hK
        · skip
          unfold cb_X5_leave_35
          refine PP.ite (fun c_4 => ?_) (fun c_4 => ?_)
          · skip
            exact cwj_X5_leave_54 (cl_X5_leave_7 fu n) ihn x1 F G hK
          · skip
            unfold cb_X5_leave_42
            refine PP.ix (fun _ => ?_)
            refine PP.ix (fun _ => ?_)
            exact cwj_X5_leave_54 (cl_X5_leave_7 fu n) ihn x1 F (gup G 40 (G 33 x1.toNatClampNeg).toNatClampNeg (G 39 x1.toNatClampNeg)) (KX.g (k := 40) rfl hK)
      · skip
        exact cwj_X5_leave_65 F G hK
theorem cw_X5_leave {fu : Nat} (F : PF) (G : PG) : PP (cf_X5_leave fu F G) (fun _ F' G' => KX [41, 42] [40] F G F' G') := by
  unfold cf_X5_leave
  unfold cb_X5_leave_0
  exact cwz_X5_leave_7 fu ((F 41) - (1 : Int32)) F G KX.rf
theorem cwj_X4_endFunction_62 {fu : Nat} {F0 : PF} {G0 : PG} (F : PF) (G : PG) (hK : KX [6, 28, 41, 42] [5, 40, 79] F0 G0 F G) : PP (cb_X4_endFunction_62 fu F G) (fun _ F' G' => KX [6, 28, 41, 42] [5, 40, 79] F0 G0 F' G') := by
  unfold cb_X4_endFunction_62
  refine PP.bind (cw_X5_leave F G) ?_
  intro r1 F1 G1 hK1
  dsimp only
  unfold cb_X4_endFunction_69
  unfold cb_X4_endFunction_79
  refine PP.ret ?_
  exact (KX.f (k := 28) rfl (KX.tr hK hK1 rfl rfl))
theorem cw_X4_endFunction {fu : Nat} (F : PF) (G : PG) : PP (cf_X4_endFunction fu F G) (fun _ F' G' => KX [6, 28, 41, 42] [5, 40, 79] F G F' G') := by
  unfold cf_X4_endFunction
  unfold cb_X4_endFunction_0
  refine PP.bind (cw_X1_addPair (66 : Int32) (0 : Int32) F G) ?_
  intro r1 F1 G1 hK1
  dsimp only
  unfold cb_X4_endFunction_10
  refine PP.bind (cw_X1_add (15 : Int32) F1 G1) ?_
  intro r2 F2 G2 hK2
  dsimp only
  unfold cb_X4_endFunction_19
  refine PP.ite (fun c_3 => ?_) (fun c_3 => ?_)
  · skip
    exact cwj_X4_endFunction_62 F2 G2 (KX.tr (KX.tr KX.rf hK1 rfl rfl) hK2 rfl rfl)
  · skip
    unfold cb_X4_endFunction_29
    refine PP.bind (cw_X8_has (F2 28) F2 G2) ?_
    intro r4 F4 G4 hK4
    dsimp only
    unfold cb_X4_endFunction_40
    refine PP.ite (fun c_5 => ?_) (fun c_5 => ?_)
    · skip
      exact cwj_X4_endFunction_62 F4 G4 (KX.tr (KX.tr (KX.tr KX.rf hK1 rfl rfl) hK2 rfl rfl) hK4 rfl rfl)
    · skip
      unfold cb_X4_endFunction_43
      refine PP.bind (cw_X5_measure F4 G4) ?_
      intro r6 F6 G6 hK6
      dsimp only
      unfold cb_X4_endFunction_61
      refine PP.ix (fun _ => ?_)
      exact cwj_X4_endFunction_62 F6 (gup G6 79 (F4 28).toNatClampNeg r6) (KX.g (k := 79) rfl (KX.tr (KX.tr (KX.tr (KX.tr KX.rf hK1 rfl rfl) hK2 rfl rfl) hK4 rfl rfl) hK6 rfl rfl))
theorem cw_X4_start {fu : Nat} (x1 : Int32) (F : PF) (G : PG) : PP (cf_X4_start fu x1 F G) (fun _ F' G' => KX [7, 9, 10, 11, 12, 13, 14, 21, 28, 29, 30, 31, 42, 45] [] F G F' G') := by
  unfold cf_X4_start
  unfold cb_X4_start_0
  unfold cb_X4_start_5
  unfold cb_X4_start_10
  unfold cb_X4_start_15
  unfold cb_X4_start_20
  unfold cb_X4_start_28
  refine PP.bz (fun _ => ?_)
  unfold cb_X4_start_36
  refine PP.bz (fun _ => ?_)
  unfold cb_X4_start_44
  refine PP.bind (cw_X3_start (fup (fup (fup (fup (fup (fup (fup F 28 (0 : Int32)) 29 (0 : Int32)) 30 (-1 : Int32)) 31 (-1 : Int32)) 42 (0 : Int32)) 45 x1) 7 x1) G) ?_
  intro r1 F1 G1 hK1
  dsimp only
  unfold cb_X4_start_51
  refine PP.bind (cw_X2_start F1 G1) ?_
  intro r2 F2 G2 hK2
  dsimp only
  unfold cb_X4_start_58
  refine PP.ret ?_
  exact (KX.tr (KX.tr (KX.f (k := 7) rfl (KX.f (k := 45) rfl (KX.f (k := 42) rfl (KX.f (k := 31) rfl (KX.f (k := 30) rfl (KX.f (k := 29) rfl (KX.f (k := 28) rfl KX.rf))))))) hK1 rfl rfl) hK2 rfl rfl)
theorem cwj_X8_addFunction_96 {fu : Nat} {F0 : PF} {G0 : PG} (F : PF) (G : PG) (hK : KX [74] [77, 78, 79, 80, 81, 82, 83] F0 G0 F G) : PP (cb_X8_addFunction_96 fu F G) (fun _ F' G' => KX [74] [77, 78, 79, 80, 81, 82, 83] F0 G0 F' G') := by
  unfold cb_X8_addFunction_96
  refine PP.ret ?_
  exact hK
theorem cw_X8_addFunction {fu : Nat} (x1 : Int32) (x2 : Int32) (F : PF) (G : PG) : PP (cf_X8_addFunction fu x1 x2 F G) (fun _ F' G' => KX [74] [77, 78, 79, 80, 81, 82, 83] F G F' G') := by
  unfold cf_X8_addFunction
  unfold cb_X8_addFunction_0
  refine PP.ite (fun c_1 => ?_) (fun c_1 => ?_)
  · skip
    exact cwj_X8_addFunction_96 F G KX.rf
  · skip
    unfold cb_X8_addFunction_10
    refine PP.ix (fun _ => ?_)
    unfold cb_X8_addFunction_20
    refine PP.bind (cw_X11_truth x2 F (gup G 77 (F 74).toNatClampNeg x1)) ?_
    intro r2 F2 G2 hK2
    dsimp only
    unfold cb_X8_addFunction_32
    refine PP.ix (fun _ => ?_)
    unfold cb_X8_addFunction_33
    refine PP.ix (fun _ => ?_)
    unfold cb_X8_addFunction_46
    refine PP.ix (fun _ => ?_)
    unfold cb_X8_addFunction_56
    refine PP.ix (fun _ => ?_)
    unfold cb_X8_addFunction_66
    refine PP.ix (fun _ => ?_)
    unfold cb_X8_addFunction_76
    refine PP.ix (fun _ => ?_)
    unfold cb_X8_addFunction_86
    exact cwj_X8_addFunction_96 (fup F2 74 ((F2 74) + (1 : Int32))) (gup (gup (gup (gup (gup (gup G2 82 (F 74).toNatClampNeg r2) 83 (F2 74).toNatClampNeg (F2 85)) 78 (F2 74).toNatClampNeg (0 : Int32)) 81 (F2 74).toNatClampNeg (0 : Int32)) 79 (F2 74).toNatClampNeg (4 : Int32)) 80 (F2 74).toNatClampNeg (0 : Int32)) (KX.f (k := 74) rfl (KX.g (k := 80) rfl (KX.g (k := 79) rfl (KX.g (k := 81) rfl (KX.g (k := 78) rfl (KX.g (k := 83) rfl (KX.g (k := 82) rfl (KX.tr (KX.g (k := 77) rfl KX.rf) hK2 rfl rfl))))))))
theorem cw_X5_enter {fu : Nat} (F : PF) (G : PG) : PP (cf_X5_enter fu F G) (fun _ F' G' => KX [42] [] F G F' G') := by
  unfold cf_X5_enter
  unfold cb_X5_enter_0
  unfold cb_X5_enter_10
  refine PP.ret ?_
  exact (KX.f (k := 42) rfl KX.rf)
theorem cw_X5_enterFunction {fu : Nat} (x1 : Int32) (F : PF) (G : PG) : PP (cf_X5_enterFunction fu x1 F G) (fun _ F' G' => KX [42, 48, 49, 50] [] F G F' G') := by
  unfold cf_X5_enterFunction
  unfold cb_X5_enterFunction_0
  refine PP.bz (fun _ => ?_)
  unfold cb_X5_enterFunction_5
  unfold cb_X5_enterFunction_10
  unfold cb_X5_enterFunction_15
  refine PP.bind (cw_X5_enter (fup (fup (fup F 48 x1) 49 (0 : Int32)) 50 (0 : Int32)) G) ?_
  intro r1 F1 G1 hK1
  dsimp only
  unfold cb_X5_enterFunction_19
  refine PP.ret ?_
  exact (KX.tr (KX.f (k := 50) rfl (KX.f (k := 49) rfl (KX.f (k := 48) rfl KX.rf))) hK1 rfl rfl)
theorem cwj_X5_tellFunction_46 {fu : Nat} {F0 : PF} {G0 : PG} (F : PF) (G : PG) (hK : KX [43, 44, 47] [] F0 G0 F G) : PP (cb_X5_tellFunction_46 fu F G) (fun _ F' G' => KX [43, 44, 47] [] F0 G0 F' G') := by
  unfold cb_X5_tellFunction_46
  refine PP.ret ?_
  exact hK
theorem cwj_X5_tellFunction_33 {fu : Nat} {F0 : PF} {G0 : PG} (x2 : Int32) (x3 : Int32) (F : PF) (G : PG) (hK : KX [43, 44, 47] [] F0 G0 F G) : PP (cb_X5_tellFunction_33 fu x2 x3 F G) (fun _ F' G' => KX [43, 44, 47] [] F0 G0 F' G') := by
  unfold cb_X5_tellFunction_33
  refine PP.ite (fun c_1 => ?_) (fun c_1 => ?_)
  · skip
    exact cwj_X5_tellFunction_46 F G hK
  · skip
    unfold cb_X5_tellFunction_39
    refine PP.bind (cw_X5_note (8 : Int32) x2 F G) ?_
    intro r2 F2 G2 hK2
    dsimp only
    exact cwj_X5_tellFunction_46 F2 G2 (KX.tr hK hK2 rfl rfl)
theorem cwj_X5_tellFunction_27 {fu : Nat} {F0 : PF} {G0 : PG} (x2 : Int32) (x3 : Int32) (F : PF) (G : PG) (hK : KX [43, 44, 47] [] F0 G0 F G) : PP (cb_X5_tellFunction_27 fu x2 x3 F G) (fun _ F' G' => KX [43, 44, 47] [] F0 G0 F' G') := by
  unfold cb_X5_tellFunction_27
  refine PP.bind (cw_X5_note (1 : Int32) x2 F G) ?_
  intro r1 F1 G1 hK1
  dsimp only
  exact cwj_X5_tellFunction_33 x2 x3 F1 G1 (KX.tr hK hK1 rfl rfl)
theorem cw_X5_tellFunction {fu : Nat} (x1 : Int32) (x2 : Int32) (x3 : Int32) (F : PF) (G : PG) : PP (cf_X5_tellFunction fu x1 x2 x3 F G) (fun _ F' G' => KX [43, 44, 47] [] F G F' G') := by
  unfold cf_X5_tellFunction
  unfold cb_X5_tellFunction_0
  refine PP.bind (cw_X5_known x1 F G) ?_
  intro r1 F1 G1 hK1
  dsimp only
  unfold cb_X5_tellFunction_5
  refine PP.bind (cw_X5_kind r1 F1 G1) ?_
  intro r2 F2 G2 hK2
  dsimp only
  unfold cb_X5_tellFunction_13
  refine PP.ite (fun c_3 => ?_) (fun c_3 => ?_)
  · skip
    unfold cb_X5_tellFunction_17
    refine PP.bind (cw_X5_value r1 F2 G2) ?_
    intro r4 F4 G4 hK4
    dsimp only
    unfold cb_X5_tellFunction_23
    refine PP.ite (fun c_5 => ?_) (fun c_5 => ?_)
    · skip
      exact cwj_X5_tellFunction_33 x2 x3 F4 G4 (KX.tr (KX.tr (KX.tr KX.rf hK1 rfl rfl) hK2 rfl rfl) hK4 rfl rfl)
    · skip
      exact cwj_X5_tellFunction_27 x2 x3 F4 G4 (KX.tr (KX.tr (KX.tr KX.rf hK1 rfl rfl) hK2 rfl rfl) hK4 rfl rfl)
  · skip
    exact cwj_X5_tellFunction_27 x2 x3 F2 G2 (KX.tr (KX.tr KX.rf hK1 rfl rfl) hK2 rfl rfl)
theorem cwj_X5_announce_18 {fu : Nat} {F0 : PF} {G0 : PG} (F : PF) (G : PG) (hK : KX [41] [33, 34, 35, 36, 37, 38, 39, 40] F0 G0 F G) : PP (cb_X5_announce_18 fu F G) (fun _ F' G' => KX [41] [33, 34, 35, 36, 37, 38, 39, 40] F0 G0 F' G') := by
  unfold cb_X5_announce_18
  refine PP.ret ?_
  exact hK
theorem cw_X5_announce {fu : Nat} (x1 : Int32) (x2 : Int32) (x3 : Int32) (F : PF) (G : PG) : PP (cf_X5_announce fu x1 x2 x3 F G) (fun _ F' G' => KX [41] [33, 34, 35, 36, 37, 38, 39, 40] F G F' G') := by
  unfold cf_X5_announce
  unfold cb_X5_announce_0
  refine PP.bind (cw_X5_known x1 F G) ?_
  intro r1 F1 G1 hK1
  dsimp only
  unfold cb_X5_announce_5
  refine PP.ite (fun c_2 => ?_) (fun c_2 => ?_)
  · skip
    unfold cb_X5_announce_9
    refine PP.bind (cw_X5_install x1 x2 (4 : Int32) x3 (0 : Int32) F1 G1) ?_
    intro r3 F3 G3 hK3
    dsimp only
    exact cwj_X5_announce_18 F3 G3 (KX.tr (KX.tr KX.rf hK1 rfl rfl) hK3 rfl rfl)
  · skip
    exact cwj_X5_announce_18 F1 G1 (KX.tr KX.rf hK1 rfl rfl)
theorem cwj_X4_startFunction_111 {fu : Nat} {F0 : PF} {G0 : PG} (x3 : Int32) (F : PF) (G : PG) (hK : KX [41, 42, 43, 44, 47, 48, 49, 50, 74, 76] [33, 34, 35, 36, 37, 38, 39, 40, 77, 78, 79, 80, 81, 82, 83] F0 G0 F G) : PP (cb_X4_startFunction_111 fu x3 F G) (fun _ F' G' => KX [41, 42, 43, 44, 47, 48, 49, 50, 74, 76] [33, 34, 35, 36, 37, 38, 39, 40, 77, 78, 79, 80, 81, 82, 83] F0 G0 F' G') := by
  unfold cb_X4_startFunction_111
  refine PP.bind (cw_X5_enterFunction x3 F G) ?_
  intro r1 F1 G1 hK1
  dsimp only
  unfold cb_X4_startFunction_119
  refine PP.ret ?_
  exact (KX.tr hK hK1 rfl rfl)
theorem cwj_X4_startFunction_78 {fu : Nat} {F0 : PF} {G0 : PG} (x3 : Int32) (F : PF) (G : PG) (hK : KX [41, 42, 43, 44, 47, 48, 49, 50, 74, 76] [33, 34, 35, 36, 37, 38, 39, 40, 77, 78, 79, 80, 81, 82, 83] F0 G0 F G) : PP (cb_X4_startFunction_78 fu x3 F G) (fun _ F' G' => KX [41, 42, 43, 44, 47, 48, 49, 50, 74, 76] [33, 34, 35, 36, 37, 38, 39, 40, 77, 78, 79, 80, 81, 82, 83] F0 G0 F' G') := by
  unfold cb_X4_startFunction_78
  refine PP.bind (cw_X8_has (F 28) F G) ?_
  intro r1 F1 G1 hK1
  dsimp only
  unfold cb_X4_startFunction_89
  refine PP.ite (fun c_2 => ?_) (fun c_2 => ?_)
  · skip
    exact cwj_X4_startFunction_111 x3 F1 G1 (KX.tr hK hK1 rfl rfl)
  · skip
    unfold cb_X4_startFunction_92
    refine PP.ix (fun _ => ?_)
    exact cwj_X4_startFunction_111 x3 F1 (gup G1 80 (F1 28).toNatClampNeg (F1 6)) (KX.g (k := 80) rfl (KX.tr hK hK1 rfl rfl))
theorem cw_X4_startFunction {fu : Nat} (x1 : Int32) (x2 : Int32) (x3 : Int32) (F : PF) (G : PG) : PP (cf_X4_startFunction fu x1 x2 x3 F G) (fun _ F' G' => KX [41, 42, 43, 44, 47, 48, 49, 50, 74, 76] [33, 34, 35, 36, 37, 38, 39, 40, 77, 78, 79, 80, 81, 82, 83] F G F' G') := by
  unfold cf_X4_startFunction
  unfold cb_X4_startFunction_0
  refine PP.ite (fun c_1 => ?_) (fun c_1 => ?_)
  · skip
    unfold cb_X4_startFunction_26
    refine PP.bind (cw_X8_addFunction x2 x3 F G) ?_
    intro r2 F2 G2 hK2
    dsimp only
    unfold cb_X4_startFunction_35
    refine PP.bind (cw_X5_announce x1 x2 (F2 28) F2 G2) ?_
    intro r3 F3 G3 hK3
    dsimp only
    unfold cb_X4_startFunction_48
    refine PP.ite (fun c_4 => ?_) (fun c_4 => ?_)
    · skip
      unfold cb_X4_startFunction_56
      refine PP.ite (fun c_5 => ?_) (fun c_5 => ?_)
      · skip
        unfold cb_X4_startFunction_67
        exact cwj_X4_startFunction_78 x3 (fup F3 76 (F3 28)) G3 (KX.f (k := 76) rfl (KX.tr (KX.tr KX.rf hK2 rfl rfl) hK3 rfl rfl))
      · skip
        exact cwj_X4_startFunction_78 x3 F3 G3 (KX.tr (KX.tr KX.rf hK2 rfl rfl) hK3 rfl rfl)
    · skip
      exact cwj_X4_startFunction_78 x3 F3 G3 (KX.tr (KX.tr KX.rf hK2 rfl rfl) hK3 rfl rfl)
  · skip
    unfold cb_X4_startFunction_10
    refine PP.bind (cw_X5_tellFunction x1 x2 (F 28) F G) ?_
    intro r6 F6 G6 hK6
    dsimp only
    unfold cb_X4_startFunction_23
    exact cwj_X4_startFunction_78 x3 F6 G6 (KX.tr KX.rf hK6 rfl rfl)
theorem cwj_X4_condition_28 {fu : Nat} {F0 : PF} {G0 : PG} (F : PF) (G : PG) (hK : KX [6, 9, 10, 11, 12, 13, 14, 21, 43, 44, 47] [5, 20] F0 G0 F G) : PP (cb_X4_condition_28 fu F G) (fun _ F' G' => KX [6, 9, 10, 11, 12, 13, 14, 21, 43, 44, 47] [5, 20] F0 G0 F' G') := by
  unfold cb_X4_condition_28
  refine PP.ret ?_
  exact hK
theorem cw_X4_condition {fu : Nat} (F : PF) (G : PG) : PP (cf_X4_condition fu F G) (fun _ F' G' => KX [6, 9, 10, 11, 12, 13, 14, 21, 43, 44, 47] [5, 20] F G F' G') := by
  unfold cf_X4_condition
  unfold cb_X4_condition_0
  refine PP.bind (cw_X2_opens (19 : Int32) F G) ?_
  intro r1 F1 G1 hK1
  dsimp only
  unfold cb_X4_condition_9
  refine PP.ite (fun c_2 => ?_) (fun c_2 => ?_)
  · skip
    exact cwj_X4_condition_28 F1 G1 (KX.tr KX.rf hK1 rfl rfl)
  · skip
    unfold cb_X4_condition_12
    refine PP.bind (cw_X3_expression F1 G1) ?_
    intro r3 F3 G3 hK3
    dsimp only
    unfold cb_X4_condition_19
    refine PP.bind (cw_X2_closesWith (20 : Int32) F3 G3) ?_
    intro r4 F4 G4 hK4
    dsimp only
    exact cwj_X4_condition_28 F4 G4 (KX.tr (KX.tr (KX.tr KX.rf hK1 rfl rfl) hK3 rfl rfl) hK4 rfl rfl)
theorem cw_X4_handOut {fu : Nat} (F : PF) (G : PG) : PP (cf_X4_handOut fu F G) (fun _ F' G' => KX [6, 9, 10, 11, 12, 13, 14, 21, 43, 44, 47] [5, 20] F G F' G') := by
  unfold cf_X4_handOut
  unfold cb_X4_handOut_0
  refine PP.bind (cw_X2_next F G) ?_
  intro r1 F1 G1 hK1
  dsimp only
  unfold cb_X4_handOut_15
  refine PP.bind (cw_X4_condition F1 G1) ?_
  intro r2 F2 G2 hK2
  dsimp only
  unfold cb_X4_handOut_19
  refine PP.bind (cw_X1_add (F 11) F2 G2) ?_
  intro r3 F3 G3 hK3
  dsimp only
  unfold cb_X4_handOut_27
  refine PP.bind (cw_X2_expect (26 : Int32) F3 G3) ?_
  intro r4 F4 G4 hK4
  dsimp only
  unfold cb_X4_handOut_36
  refine PP.ret ?_
  exact (KX.tr (KX.tr (KX.tr (KX.tr KX.rf hK1 rfl rfl) hK2 rfl rfl) hK3 rfl rfl) hK4 rfl rfl)
theorem cwj_X5_localRoom_32 {fu : Nat} {F0 : PF} {G0 : PG} (x3 : Int32) (F : PF) (G : PG) (hK : KX [43, 44, 47, 50] [] F0 G0 F G) : PP (cb_X5_localRoom_32 fu x3 F G) (fun _ F' G' => KX [43, 44, 47, 50] [] F0 G0 F' G') := by
  unfold cb_X5_localRoom_32
  refine PP.ret ?_
  exact hK
theorem cw_X5_localRoom {fu : Nat} (x1 : Int32) (x2 : Int32) (F : PF) (G : PG) : PP (cf_X5_localRoom fu x1 x2 F G) (fun _ F' G' => KX [43, 44, 47, 50] [] F G F' G') := by
  unfold cf_X5_localRoom
  unfold cb_X5_localRoom_0
  refine PP.bind (cw_X5_measure F G) ?_
  intro r1 F1 G1 hK1
  dsimp only
  unfold cb_X5_localRoom_4
  unfold cb_X5_localRoom_15
  refine PP.ite (fun c_2 => ?_) (fun c_2 => ?_)
  · skip
    exact cwj_X5_localRoom_32 r1 (fup F1 50 ((F1 50) + x1)) G1 (KX.f (k := 50) rfl (KX.tr KX.rf hK1 rfl rfl))
  · skip
    unfold cb_X5_localRoom_25
    refine PP.bind (cw_X5_note (8 : Int32) x2 (fup F1 50 ((F1 50) + x1)) G1) ?_
    intro r3 F3 G3 hK3
    dsimp only
    exact cwj_X5_localRoom_32 r1 F3 G3 (KX.tr (KX.f (k := 50) rfl (KX.tr KX.rf hK1 rfl rfl)) hK3 rfl rfl)
theorem cwj_X4_wordsOf_14 {fu : Nat} {F0 : PF} {G0 : PG} (z0 : Int32) (F : PF) (G : PG) (hK : KX [] [] F0 G0 F G) : PP (cb_X4_wordsOf_14 fu z0 F G) (fun _ F' G' => KX [] [] F0 G0 F' G') := by
  unfold cb_X4_wordsOf_14
  refine PP.ret ?_
  exact hK
theorem cw_X4_wordsOf {fu : Nat} (x0 : Int32) (x1 : Int32) (F : PF) (G : PG) : PP (cf_X4_wordsOf fu x0 x1 F G) (fun _ F' G' => KX [] [] F G F' G') := by
  unfold cf_X4_wordsOf
  unfold cb_X4_wordsOf_0
  refine PP.ite (fun c_1 => ?_) (fun c_1 => ?_)
  · skip
    unfold cb_X4_wordsOf_5
    exact cwj_X4_wordsOf_14 x1 F G KX.rf
  · skip
    unfold cb_X4_wordsOf_9
    exact cwj_X4_wordsOf_14 ((x1 + (3 : Int32)) / (4 : Int32)) F G KX.rf
theorem cw_X4_localArray {fu : Nat} (x1 : Int32) (x2 : Int32) (x3 : Int32) (x4 : Int32) (F : PF) (G : PG) : PP (cf_X4_localArray fu x1 x2 x3 x4 F G) (fun _ F' G' => KX [6, 41, 43, 44, 47, 50] [5, 33, 34, 35, 36, 37, 38, 39, 40] F G F' G') := by
  unfold cf_X4_localArray
  unfold cb_X4_localArray_0
  refine PP.bind (cw_X4_wordsOf x3 x4 F G) ?_
  intro r1 F1 G1 hK1
  dsimp only
  unfold cb_X4_localArray_6
  refine PP.bind (cw_X5_localRoom r1 x2 F1 G1) ?_
  intro r2 F2 G2 hK2
  dsimp only
  unfold cb_X4_localArray_18
  refine PP.bind (cw_X1_addPair (73 : Int32) r2 F2 G2) ?_
  intro r3 F3 G3 hK3
  dsimp only
  unfold cb_X4_localArray_31
  refine PP.bind (cw_X1_add r1 F3 G3) ?_
  intro r4 F4 G4 hK4
  dsimp only
  unfold cb_X4_localArray_40
  refine PP.bind (cw_X5_tell x1 x2 x3 r2 x4 F4 G4) ?_
  intro r5 F5 G5 hK5
  dsimp only
  unfold cb_X4_localArray_54
  refine PP.ret ?_
  exact (KX.tr (KX.tr (KX.tr (KX.tr (KX.tr KX.rf hK1 rfl rfl) hK2 rfl rfl) hK3 rfl rfl) hK4 rfl rfl) hK5 rfl rfl)
theorem cw_X4_localInt {fu : Nat} (x1 : Int32) (x2 : Int32) (F : PF) (G : PG) : PP (cf_X4_localInt fu x1 x2 F G) (fun _ F' G' => KX [6, 41, 43, 44, 47, 50] [5, 33, 34, 35, 36, 37, 38, 39, 40] F G F' G') := by
  unfold cf_X4_localInt
  unfold cb_X4_localInt_0
  refine PP.bind (cw_X5_localRoom (1 : Int32) x2 F G) ?_
  intro r1 F1 G1 hK1
  dsimp only
  unfold cb_X4_localInt_9
  refine PP.bind (cw_X1_addPair (72 : Int32) r1 F1 G1) ?_
  intro r2 F2 G2 hK2
  dsimp only
  unfold cb_X4_localInt_20
  refine PP.bind (cw_X5_tell x1 x2 (1 : Int32) r1 (0 : Int32) F2 G2) ?_
  intro r3 F3 G3 hK3
  dsimp only
  unfold cb_X4_localInt_32
  refine PP.ret ?_
  exact (KX.tr (KX.tr (KX.tr KX.rf hK1 rfl rfl) hK2 rfl rfl) hK3 rfl rfl)
theorem cwj_X4_localTold_168 {fu : Nat} {F0 : PF} {G0 : PG} (F : PF) (G : PG) (hK : KX [6, 9, 10, 11, 12, 13, 14, 21, 41, 43, 44, 46, 47, 50, 56, 57, 300] [5, 20, 33, 34, 35, 36, 37, 38, 39, 40, 55] F0 G0 F G) : PP (cb_X4_localTold_168 fu F G) (fun _ F' G' => KX [6, 9, 10, 11, 12, 13, 14, 21, 41, 43, 44, 46, 47, 50, 56, 57, 300] [5, 20, 33, 34, 35, 36, 37, 38, 39, 40, 55] F0 G0 F' G') := by
  unfold cb_X4_localTold_168
  refine PP.ret ?_
  exact hK
theorem cwj_X4_localTold_107 {fu : Nat} {F0 : PF} {G0 : PG} (x5 : Int32) (z0 : Int32) (z1 : Int32) (z2 : Int32) (F : PF) (G : PG) (hK : KX [6, 9, 10, 11, 12, 13, 14, 21, 41, 43, 44, 46, 47, 50, 56, 57, 300] [5, 20, 33, 34, 35, 36, 37, 38, 39, 40, 55] F0 G0 F G) : PP (cb_X4_localTold_107 fu x5 z0 z1 z2 F G) (fun _ F' G' => KX [6, 9, 10, 11, 12, 13, 14, 21, 41, 43, 44, 46, 47, 50, 56, 57, 300] [5, 20, 33, 34, 35, 36, 37, 38, 39, 40, 55] F0 G0 F' G') := by
  unfold cb_X4_localTold_107
  refine PP.bind (cw_X4_localArray z2 z1 z0 x5 F G) ?_
  intro r1 F1 G1 hK1
  dsimp only
  unfold cb_X4_localTold_112
  exact cwj_X4_localTold_168 F1 G1 (KX.tr hK hK1 rfl rfl)
theorem cwj_X4_localTold_84 {fu : Nat} {F0 : PF} {G0 : PG} (x2 : Int32) (x3 : Int32) (x4 : Int32) (F : PF) (G : PG) (hK : KX [6, 9, 10, 11, 12, 13, 14, 21, 41, 43, 44, 46, 47, 50, 56, 57, 300] [5, 20, 33, 34, 35, 36, 37, 38, 39, 40, 55] F0 G0 F G) : PP (cb_X4_localTold_84 fu x2 x3 x4 F G) (fun _ F' G' => KX [6, 9, 10, 11, 12, 13, 14, 21, 41, 43, 44, 46, 47, 50, 56, 57, 300] [5, 20, 33, 34, 35, 36, 37, 38, 39, 40, 55] F0 G0 F' G') := by
  unfold cb_X4_localTold_84
  refine PP.bind (cw_X3_arraySize F G) ?_
  intro r1 F1 G1 hK1
  dsimp only
  unfold cb_X4_localTold_91
  refine PP.ite (fun c_2 => ?_) (fun c_2 => ?_)
  · skip
    unfold cb_X4_localTold_102
    exact cwj_X4_localTold_107 r1 (2 : Int32) x4 x3 F1 G1 (KX.tr hK hK1 rfl rfl)
  · skip
    unfold cb_X4_localTold_106
    exact cwj_X4_localTold_107 r1 (3 : Int32) x4 x3 F1 G1 (KX.tr hK hK1 rfl rfl)
theorem cwj_X4_localTold_67 {fu : Nat} {F0 : PF} {G0 : PG} (x2 : Int32) (x3 : Int32) (x4 : Int32) (F : PF) (G : PG) (hK : KX [6, 9, 10, 11, 12, 13, 14, 21, 41, 43, 44, 46, 47, 50, 56, 57, 300] [5, 20, 33, 34, 35, 36, 37, 38, 39, 40, 55] F0 G0 F G) : PP (cb_X4_localTold_67 fu x2 x3 x4 F G) (fun _ F' G' => KX [6, 9, 10, 11, 12, 13, 14, 21, 41, 43, 44, 46, 47, 50, 56, 57, 300] [5, 20, 33, 34, 35, 36, 37, 38, 39, 40, 55] F0 G0 F' G') := by
  unfold cb_X4_localTold_67
  refine PP.ite (fun c_1 => ?_) (fun c_1 => ?_)
  · skip
    exact cwj_X4_localTold_84 x2 x3 x4 F G hK
  · skip
    unfold cb_X4_localTold_79
    refine PP.ite (fun c_2 => ?_) (fun c_2 => ?_)
    · skip
      exact cwj_X4_localTold_84 x2 x3 x4 F G hK
    · skip
      unfold cb_X4_localTold_115
      refine PP.ite (fun c_3 => ?_) (fun c_3 => ?_)
      · skip
        unfold cb_X4_localTold_127
        refine PP.bind (cw_X2_next F G) ?_
        intro r4 F4 G4 hK4
        dsimp only
        unfold cb_X4_localTold_134
        refine PP.bind (cw_X3_expression F4 G4) ?_
        intro r5 F5 G5 hK5
        dsimp only
        unfold cb_X4_localTold_141
        refine PP.bind (cw_X4_localInt x3 x4 F5 G5) ?_
        intro r6 F6 G6 hK6
        dsimp only
        unfold cb_X4_localTold_148
        exact cwj_X4_localTold_168 F6 G6 (KX.tr (KX.tr (KX.tr hK hK4 rfl rfl) hK5 rfl rfl) hK6 rfl rfl)
      · skip
        unfold cb_X4_localTold_151
        refine PP.bind (cw_X1_addPair (66 : Int32) (0 : Int32) F G) ?_
        intro r7 F7 G7 hK7
        dsimp only
        unfold cb_X4_localTold_161
        refine PP.bind (cw_X4_localInt x3 x4 F7 G7) ?_
        intro r8 F8 G8 hK8
        dsimp only
        exact cwj_X4_localTold_168 F8 G8 (KX.tr (KX.tr hK hK7 rfl rfl) hK8 rfl rfl)
theorem cw_X4_localTold {fu : Nat} (x1 : Int32) (F : PF) (G : PG) : PP (cf_X4_localTold fu x1 F G) (fun _ F' G' => KX [6, 9, 10, 11, 12, 13, 14, 21, 41, 43, 44, 46, 47, 50, 56, 57, 300] [5, 20, 33, 34, 35, 36, 37, 38, 39, 40, 55] F G F' G') := by
  unfold cf_X4_localTold
  unfold cb_X4_localTold_0
  refine PP.bind (cw_X2_next F G) ?_
  intro r1 F1 G1 hK1
  dsimp only
  unfold cb_X4_localTold_15
  refine PP.bind (cw_X2_expect (2 : Int32) F1 G1) ?_
  intro r2 F2 G2 hK2
  dsimp only
  unfold cb_X4_localTold_40
  refine PP.ite (fun c_3 => ?_) (fun c_3 => ?_)
  · skip
    exact cwj_X4_localTold_67 (F 11) (F1 12) (F1 13) F2 G2 (KX.tr (KX.tr KX.rf hK1 rfl rfl) hK2 rfl rfl)
  · skip
    unfold cb_X4_localTold_44
    refine PP.ite (fun c_4 => ?_) (fun c_4 => ?_)
    · skip
      exact cwj_X4_localTold_67 (F 11) (F1 12) (F1 13) F2 G2 (KX.tr (KX.tr KX.rf hK1 rfl rfl) hK2 rfl rfl)
    · skip
      unfold cb_X4_localTold_56
      refine PP.bind (cw_X2_fail (2 : Int32) F2 G2) ?_
      intro r5 F5 G5 hK5
      dsimp only
      unfold cb_X4_localTold_64
      exact cwj_X4_localTold_168 F5 G5 (KX.tr (KX.tr (KX.tr KX.rf hK1 rfl rfl) hK2 rfl rfl) hK5 rfl rfl)
theorem cwj_X4_leap_72 {fu : Nat} {F0 : PF} {G0 : PG} (F : PF) (G : PG) (hK : KX [6, 9, 11, 12, 13, 14, 30, 31, 43, 44, 47] [5] F0 G0 F G) : PP (cb_X4_leap_72 fu F G) (fun _ F' G' => KX [6, 9, 11, 12, 13, 14, 30, 31, 43, 44, 47] [5] F0 G0 F' G') := by
  unfold cb_X4_leap_72
  refine PP.bind (cw_X2_next F G) ?_
  intro r1 F1 G1 hK1
  dsimp only
  unfold cb_X4_leap_79
  refine PP.bind (cw_X2_expect (26 : Int32) F1 G1) ?_
  intro r2 F2 G2 hK2
  dsimp only
  unfold cb_X4_leap_88
  refine PP.ret ?_
  exact (KX.tr (KX.tr hK hK1 rfl rfl) hK2 rfl rfl)
theorem cwj_X4_leap_23 {fu : Nat} {F0 : PF} {G0 : PG} (F : PF) (G : PG) (hK : KX [6, 9, 11, 12, 13, 14, 30, 31, 43, 44, 47] [5] F0 G0 F G) : PP (cb_X4_leap_23 fu F G) (fun _ F' G' => KX [6, 9, 11, 12, 13, 14, 30, 31, 43, 44, 47] [5] F0 G0 F' G') := by
  unfold cb_X4_leap_23
  refine PP.ite (fun c_1 => ?_) (fun c_1 => ?_)
  · skip
    unfold cb_X4_leap_35
    refine PP.bind (cw_X1_addJump (84 : Int32) (F 30) F G) ?_
    intro r2 F2 G2 hK2
    dsimp only
    unfold cb_X4_leap_49
    unfold cb_X4_leap_52
    exact cwj_X4_leap_72 (fup F2 30 r2) G2 (KX.f (k := 30) rfl (KX.tr hK hK2 rfl rfl))
  · skip
    unfold cb_X4_leap_55
    refine PP.bind (cw_X1_addJump (84 : Int32) (F 31) F G) ?_
    intro r3 F3 G3 hK3
    dsimp only
    unfold cb_X4_leap_69
    exact cwj_X4_leap_72 (fup F3 31 r3) G3 (KX.f (k := 31) rfl (KX.tr hK hK3 rfl rfl))
theorem cw_X4_leap {fu : Nat} (F : PF) (G : PG) : PP (cf_X4_leap fu F G) (fun _ F' G' => KX [6, 9, 11, 12, 13, 14, 30, 31, 43, 44, 47] [5] F G F' G') := by
  unfold cf_X4_leap
  unfold cb_X4_leap_0
  refine PP.ite (fun c_1 => ?_) (fun c_1 => ?_)
  · skip
    unfold cb_X4_leap_7
    refine PP.bind (cw_X5_note (6 : Int32) (F 13) F G) ?_
    intro r2 F2 G2 hK2
    dsimp only
    exact cwj_X4_leap_23 F2 G2 (KX.tr KX.rf hK2 rfl rfl)
  · skip
    exact cwj_X4_leap_23 F G KX.rf
theorem cwj_X4_returnStatement_75 {fu : Nat} {F0 : PF} {G0 : PG} (F : PF) (G : PG) (hK : KX [6, 9, 10, 11, 12, 13, 14, 21, 43, 44, 47] [5, 20] F0 G0 F G) : PP (cb_X4_returnStatement_75 fu F G) (fun _ F' G' => KX [6, 9, 10, 11, 12, 13, 14, 21, 43, 44, 47] [5, 20] F0 G0 F' G') := by
  unfold cb_X4_returnStatement_75
  refine PP.bind (cw_X1_add (15 : Int32) F G) ?_
  intro r1 F1 G1 hK1
  dsimp only
  unfold cb_X4_returnStatement_84
  refine PP.bind (cw_X2_expect (26 : Int32) F1 G1) ?_
  intro r2 F2 G2 hK2
  dsimp only
  unfold cb_X4_returnStatement_93
  refine PP.ret ?_
  exact (KX.tr (KX.tr hK hK1 rfl rfl) hK2 rfl rfl)
theorem cwj_X4_returnStatement_51 {fu : Nat} {F0 : PF} {G0 : PG} (x1 : Int32) (F : PF) (G : PG) (hK : KX [6, 9, 10, 11, 12, 13, 14, 21, 43, 44, 47] [5, 20] F0 G0 F G) : PP (cb_X4_returnStatement_51 fu x1 F G) (fun _ F' G' => KX [6, 9, 10, 11, 12, 13, 14, 21, 43, 44, 47] [5, 20] F0 G0 F' G') := by
  unfold cb_X4_returnStatement_51
  refine PP.ite (fun c_1 => ?_) (fun c_1 => ?_)
  · skip
    unfold cb_X4_returnStatement_68
    refine PP.bind (cw_X3_expression F G) ?_
    intro r2 F2 G2 hK2
    dsimp only
    exact cwj_X4_returnStatement_75 F2 G2 (KX.tr hK hK2 rfl rfl)
  · skip
    unfold cb_X4_returnStatement_55
    refine PP.bind (cw_X1_addPair (66 : Int32) (0 : Int32) F G) ?_
    intro r3 F3 G3 hK3
    dsimp only
    unfold cb_X4_returnStatement_65
    exact cwj_X4_returnStatement_75 F3 G3 (KX.tr hK hK3 rfl rfl)
theorem cwj_X4_returnStatement_24 {fu : Nat} {F0 : PF} {G0 : PG} (z0 : Int32) (F : PF) (G : PG) (hK : KX [6, 9, 10, 11, 12, 13, 14, 21, 43, 44, 47] [5, 20] F0 G0 F G) : PP (cb_X4_returnStatement_24 fu z0 F G) (fun _ F' G' => KX [6, 9, 10, 11, 12, 13, 14, 21, 43, 44, 47] [5, 20] F0 G0 F' G') := by
  unfold cb_X4_returnStatement_24
  refine PP.ite (fun c_1 => ?_) (fun c_1 => ?_)
  · skip
    unfold cb_X4_returnStatement_36
    refine PP.bind (cw_X5_note (3 : Int32) (F 13) F G) ?_
    intro r2 F2 G2 hK2
    dsimp only
    exact cwj_X4_returnStatement_51 z0 F2 G2 (KX.tr hK hK2 rfl rfl)
  · skip
    exact cwj_X4_returnStatement_51 z0 F G hK
theorem cw_X4_returnStatement {fu : Nat} (F : PF) (G : PG) : PP (cf_X4_returnStatement fu F G) (fun _ F' G' => KX [6, 9, 10, 11, 12, 13, 14, 21, 43, 44, 47] [5, 20] F G F' G') := by
  unfold cf_X4_returnStatement
  unfold cb_X4_returnStatement_0
  refine PP.bind (cw_X2_next F G) ?_
  intro r1 F1 G1 hK1
  dsimp only
  unfold cb_X4_returnStatement_7
  refine PP.ite (fun c_2 => ?_) (fun c_2 => ?_)
  · skip
    unfold cb_X4_returnStatement_19
    exact cwj_X4_returnStatement_24 (1 : Int32) F1 G1 (KX.tr KX.rf hK1 rfl rfl)
  · skip
    unfold cb_X4_returnStatement_23
    exact cwj_X4_returnStatement_24 (0 : Int32) F1 G1 (KX.tr KX.rf hK1 rfl rfl)
theorem cwj_X5_wantPlace_28 {fu : Nat} {F0 : PF} {G0 : PG} (F : PF) (G : PG) (hK : KX [43, 44, 47] [] F0 G0 F G) : PP (cb_X5_wantPlace_28 fu F G) (fun _ F' G' => KX [43, 44, 47] [] F0 G0 F' G') := by
  unfold cb_X5_wantPlace_28
  refine PP.ret ?_
  exact hK
theorem cw_X5_wantPlace {fu : Nat} (x1 : Int32) (x2 : Int32) (x3 : Int32) (F : PF) (G : PG) : PP (cf_X5_wantPlace fu x1 x2 x3 F G) (fun _ F' G' => KX [43, 44, 47] [] F G F' G') := by
  unfold cf_X5_wantPlace
  unfold cb_X5_wantPlace_0
  refine PP.bind (cw_X5_kind x1 F G) ?_
  intro r1 F1 G1 hK1
  dsimp only
  unfold cb_X5_wantPlace_5
  refine PP.ite (fun c_2 => ?_) (fun c_2 => ?_)
  · skip
    exact cwj_X5_wantPlace_28 F1 G1 (KX.tr KX.rf hK1 rfl rfl)
  · skip
    unfold cb_X5_wantPlace_13
    refine PP.bind (cw_X5_fits r1 x3 F1 G1) ?_
    intro r3 F3 G3 hK3
    dsimp only
    unfold cb_X5_wantPlace_19
    refine PP.ite (fun c_4 => ?_) (fun c_4 => ?_)
    · skip
      unfold cb_X5_wantPlace_22
      refine PP.bind (cw_X5_note (4 : Int32) x2 F3 G3) ?_
      intro r5 F5 G5 hK5
      dsimp only
      exact cwj_X5_wantPlace_28 F5 G5 (KX.tr (KX.tr (KX.tr KX.rf hK1 rfl rfl) hK3 rfl rfl) hK5 rfl rfl)
    · skip
      exact cwj_X5_wantPlace_28 F3 G3 (KX.tr (KX.tr KX.rf hK1 rfl rfl) hK3 rfl rfl)
theorem cwj_X4_oldValue_32 {fu : Nat} {F0 : PF} {G0 : PG} (F : PF) (G : PG) (hK : KX [6] [5] F0 G0 F G) : PP (cb_X4_oldValue_32 fu F G) (fun _ F' G' => KX [6] [5] F0 G0 F' G') := by
  unfold cb_X4_oldValue_32
  refine PP.ret ?_
  exact hK
theorem cw_X4_oldValue {fu : Nat} (x1 : Int32) (x2 : Int32) (F : PF) (G : PG) : PP (cf_X4_oldValue fu x1 x2 F G) (fun _ F' G' => KX [6] [5] F G F' G') := by
  unfold cf_X4_oldValue
  unfold cb_X4_oldValue_0
  refine PP.ite (fun c_1 => ?_) (fun c_1 => ?_)
  · skip
    unfold cb_X4_oldValue_24
    refine PP.bind (cw_X3_load x1 F G) ?_
    intro r2 F2 G2 hK2
    dsimp only
    exact cwj_X4_oldValue_32 F2 G2 (KX.tr KX.rf hK2 rfl rfl)
  · skip
    unfold cb_X4_oldValue_4
    refine PP.bind (cw_X1_add (67 : Int32) F G) ?_
    intro r3 F3 G3 hK3
    dsimp only
    unfold cb_X4_oldValue_13
    refine PP.bind (cw_X3_fetch x1 F3 G3) ?_
    intro r4 F4 G4 hK4
    dsimp only
    unfold cb_X4_oldValue_21
    exact cwj_X4_oldValue_32 F4 G4 (KX.tr (KX.tr KX.rf hK3 rfl rfl) hK4 rfl rfl)
theorem cwj_X4_simple_149 {fu : Nat} {F0 : PF} {G0 : PG} (F : PF) (G : PG) (hK : KX [6, 9, 10, 11, 12, 13, 14, 21, 43, 44, 47] [5, 20] F0 G0 F G) : PP (cb_X4_simple_149 fu F G) (fun _ F' G' => KX [6, 9, 10, 11, 12, 13, 14, 21, 43, 44, 47] [5, 20] F0 G0 F' G') := by
  unfold cb_X4_simple_149
  refine PP.bind (cw_X2_fail (2 : Int32) F G) ?_
  intro r1 F1 G1 hK1
  dsimp only
  unfold cb_X4_simple_157
  refine PP.ret ?_
  exact (KX.tr hK hK1 rfl rfl)
theorem cwj_X4_simple_253 {fu : Nat} {F0 : PF} {G0 : PG} (F : PF) (G : PG) (hK : KX [6, 9, 10, 11, 12, 13, 14, 21, 43, 44, 47] [5, 20] F0 G0 F G) : PP (cb_X4_simple_253 fu F G) (fun _ F' G' => KX [6, 9, 10, 11, 12, 13, 14, 21, 43, 44, 47] [5, 20] F0 G0 F' G') := by
  unfold cb_X4_simple_253
  refine PP.ret ?_
  exact hK
theorem cwj_X4_simple_229 {fu : Nat} {F0 : PF} {G0 : PG} (x3 : Int32) (x4 : Int32) (F : PF) (G : PG) (hK : KX [6, 9, 10, 11, 12, 13, 14, 21, 43, 44, 47] [5, 20] F0 G0 F G) : PP (cb_X4_simple_229 fu x3 x4 F G) (fun _ F' G' => KX [6, 9, 10, 11, 12, 13, 14, 21, 43, 44, 47] [5, 20] F0 G0 F' G') := by
  unfold cb_X4_simple_229
  refine PP.ite (fun c_1 => ?_) (fun c_1 => ?_)
  · skip
    unfold cb_X4_simple_245
    refine PP.bind (cw_X3_store x3 F G) ?_
    intro r2 F2 G2 hK2
    dsimp only
    exact cwj_X4_simple_253 F2 G2 (KX.tr hK hK2 rfl rfl)
  · skip
    unfold cb_X4_simple_234
    refine PP.bind (cw_X3_keep x3 F G) ?_
    intro r3 F3 G3 hK3
    dsimp only
    unfold cb_X4_simple_242
    exact cwj_X4_simple_253 F3 G3 (KX.tr hK hK3 rfl rfl)
theorem cwj_X4_simple_206 {fu : Nat} {F0 : PF} {G0 : PG} (x3 : Int32) (x4 : Int32) (x5 : Int32) (F : PF) (G : PG) (hK : KX [6, 9, 10, 11, 12, 13, 14, 21, 43, 44, 47] [5, 20] F0 G0 F G) : PP (cb_X4_simple_206 fu x3 x4 x5 F G) (fun _ F' G' => KX [6, 9, 10, 11, 12, 13, 14, 21, 43, 44, 47] [5, 20] F0 G0 F' G') := by
  unfold cb_X4_simple_206
  refine PP.ite (fun c_1 => ?_) (fun c_1 => ?_)
  · skip
    exact cwj_X4_simple_229 x3 x4 F G hK
  · skip
    unfold cb_X4_simple_213
    refine PP.ix (fun _ => ?_)
    refine PP.bind (cw_X1_add (tb_5 (x5 - (30 : Int32)).toNatClampNeg) F G) ?_
    intro r2 F2 G2 hK2
    dsimp only
    exact cwj_X4_simple_229 x3 x4 F2 G2 (KX.tr hK hK2 rfl rfl)
theorem cwj_X4_simple_179 {fu : Nat} {F0 : PF} {G0 : PG} (x3 : Int32) (x4 : Int32) (x5 : Int32) (F : PF) (G : PG) (hK : KX [6, 9, 10, 11, 12, 13, 14, 21, 43, 44, 47] [5, 20] F0 G0 F G) : PP (cb_X4_simple_179 fu x3 x4 x5 F G) (fun _ F' G' => KX [6, 9, 10, 11, 12, 13, 14, 21, 43, 44, 47] [5, 20] F0 G0 F' G') := by
  unfold cb_X4_simple_179
  refine PP.ite (fun c_1 => ?_) (fun c_1 => ?_)
  · skip
    unfold cb_X4_simple_196
    refine PP.bind (cw_X1_addPair (66 : Int32) (1 : Int32) F G) ?_
    intro r2 F2 G2 hK2
    dsimp only
    exact cwj_X4_simple_206 x3 x4 x5 F2 G2 (KX.tr hK hK2 rfl rfl)
  · skip
    unfold cb_X4_simple_186
    refine PP.bind (cw_X3_expression F G) ?_
    intro r3 F3 G3 hK3
    dsimp only
    unfold cb_X4_simple_193
    exact cwj_X4_simple_206 x3 x4 x5 F3 G3 (KX.tr hK hK3 rfl rfl)
theorem cwj_X4_simple_126 {fu : Nat} {F0 : PF} {G0 : PG} (x3 : Int32) (x4 : Int32) (F : PF) (G : PG) (hK : KX [6, 9, 10, 11, 12, 13, 14, 21, 43, 44, 47] [5, 20] F0 G0 F G) : PP (cb_X4_simple_126 fu x3 x4 F G) (fun _ F' G' => KX [6, 9, 10, 11, 12, 13, 14, 21, 43, 44, 47] [5, 20] F0 G0 F' G') := by
  unfold cb_X4_simple_126
  refine PP.ite (fun c_1 => ?_) (fun c_1 => ?_)
  · skip
    exact cwj_X4_simple_149 F G hK
  · skip
    unfold cb_X4_simple_142
    refine PP.ite (fun c_2 => ?_) (fun c_2 => ?_)
    · skip
      unfold cb_X4_simple_158
      refine PP.bind (cw_X2_next F G) ?_
      intro r3 F3 G3 hK3
      dsimp only
      unfold cb_X4_simple_165
      refine PP.ite (fun c_4 => ?_) (fun c_4 => ?_)
      · skip
        exact cwj_X4_simple_179 x3 x4 (F 11) F3 G3 (KX.tr hK hK3 rfl rfl)
      · skip
        unfold cb_X4_simple_172
        refine PP.bind (cw_X4_oldValue x3 x4 F3 G3) ?_
        intro r5 F5 G5 hK5
        dsimp only
        exact cwj_X4_simple_179 x3 x4 (F 11) F5 G5 (KX.tr (KX.tr hK hK3 rfl rfl) hK5 rfl rfl)
    · skip
      exact cwj_X4_simple_149 F G hK
theorem cwj_X4_simple_111 {fu : Nat} {F0 : PF} {G0 : PG} (x3 : Int32) (z0 : Int32) (F : PF) (G : PG) (hK : KX [6, 9, 10, 11, 12, 13, 14, 21, 43, 44, 47] [5, 20] F0 G0 F G) : PP (cb_X4_simple_111 fu x3 z0 F G) (fun _ F' G' => KX [6, 9, 10, 11, 12, 13, 14, 21, 43, 44, 47] [5, 20] F0 G0 F' G') := by
  unfold cb_X4_simple_111
  refine PP.ite (fun c_1 => ?_) (fun c_1 => ?_)
  · skip
    exact cwj_X4_simple_126 x3 z0 F G hK
  · skip
    unfold cb_X4_simple_118
    refine PP.bind (cw_X3_index x3 F G) ?_
    intro r2 F2 G2 hK2
    dsimp only
    exact cwj_X4_simple_126 x3 z0 F2 G2 (KX.tr hK hK2 rfl rfl)
theorem cw_X4_simple {fu : Nat} (F : PF) (G : PG) : PP (cf_X4_simple fu F G) (fun _ F' G' => KX [6, 9, 10, 11, 12, 13, 14, 21, 43, 44, 47] [5, 20] F G F' G') := by
  unfold cf_X4_simple
  unfold cb_X4_simple_0
  refine PP.bind (cw_X2_expect (2 : Int32) F G) ?_
  intro r1 F1 G1 hK1
  dsimp only
  unfold cb_X4_simple_24
  refine PP.ite (fun c_2 => ?_) (fun c_2 => ?_)
  · skip
    unfold cb_X4_simple_36
    refine PP.ret ?_
    exact (KX.tr KX.rf hK1 rfl rfl)
  · skip
    unfold cb_X4_simple_37
    refine PP.bind (cw_X5_meant (F 12) (F 13) F1 G1) ?_
    intro r3 F3 G3 hK3
    dsimp only
    unfold cb_X4_simple_46
    refine PP.bind (cw_X5_wantPlace r3 (F 13) (F3 11) F3 G3) ?_
    intro r4 F4 G4 hK4
    dsimp only
    unfold cb_X4_simple_63
    refine PP.ite (fun c_5 => ?_) (fun c_5 => ?_)
    · skip
      unfold cb_X4_simple_75
      refine PP.bind (cw_X3_call r3 (F 13) F4 G4) ?_
      intro r6 F6 G6 hK6
      dsimp only
      unfold cb_X4_simple_84
      refine PP.bind (cw_X1_add (68 : Int32) F6 G6) ?_
      intro r7 F7 G7 hK7
      dsimp only
      unfold cb_X4_simple_93
      refine PP.ret ?_
      exact (KX.tr (KX.tr (KX.tr (KX.tr (KX.tr KX.rf hK1 rfl rfl) hK3 rfl rfl) hK4 rfl rfl) hK6 rfl rfl) hK7 rfl rfl)
    · skip
      unfold cb_X4_simple_94
      refine PP.ite (fun c_8 => ?_) (fun c_8 => ?_)
      · skip
        unfold cb_X4_simple_106
        exact cwj_X4_simple_111 r3 (1 : Int32) F4 G4 (KX.tr (KX.tr (KX.tr KX.rf hK1 rfl rfl) hK3 rfl rfl) hK4 rfl rfl)
      · skip
        unfold cb_X4_simple_110
        exact cwj_X4_simple_111 r3 (0 : Int32) F4 G4 (KX.tr (KX.tr (KX.tr KX.rf hK1 rfl rfl) hK3 rfl rfl) hK4 rfl rfl)
def cKI2 (rc : RC) : Prop := ∀ (i : Nat) (x y : Int32) (F : PF) (G : PG), PP (rc i x y F G) (fun _ F' G' => KX [6, 9, 10, 11, 12, 13, 14, 21, 29, 30, 31, 41, 42, 43, 44, 46, 47, 50, 56, 57, 300] [5, 20, 33, 34, 35, 36, 37, 38, 39, 40, 55] F G F' G')
theorem cwj_X4_block_56 {fu : Nat} (rc : RC) (ih : cKI2 rc) {F0 : PF} {G0 : PG} (F : PF) (G : PG) (hK : KX [6, 9, 10, 11, 12, 13, 14, 21, 29, 30, 31, 41, 42, 43, 44, 46, 47, 50, 56, 57, 300] [5, 20, 33, 34, 35, 36, 37, 38, 39, 40, 55] F0 G0 F G) : PP (cb_X4_block_56 fu rc F G) (fun _ F' G' => KX [6, 9, 10, 11, 12, 13, 14, 21, 29, 30, 31, 41, 42, 43, 44, 46, 47, 50, 56, 57, 300] [5, 20, 33, 34, 35, 36, 37, 38, 39, 40, 55] F0 G0 F' G') := by
  unfold cb_X4_block_56
  refine PP.bind (cw_X2_closesWith (24 : Int32) F G) ?_
  intro r1 F1 G1 hK1
  dsimp only
  unfold cb_X4_block_65
  refine PP.ret ?_
  exact (KX.tr hK hK1 rfl rfl)
theorem cwz_X4_block_15 {fu : Nat} (rc : RC) (ih : cKI2 rc) {F0 : PF} {G0 : PG} : ∀ (n : Nat) (x1 : Int32) (F : PF) (G : PG) (hK : KX [6, 9, 10, 11, 12, 13, 14, 21, 29, 30, 31, 41, 42, 43, 44, 46, 47, 50, 56, 57, 300] [5, 20, 33, 34, 35, 36, 37, 38, 39, 40, 55] F0 G0 F G), PP (cl_X4_block_15 fu rc n x1 F G) (fun _ F' G' => KX [6, 9, 10, 11, 12, 13, 14, 21, 29, 30, 31, 41, 42, 43, 44, 46, 47, 50, 56, 57, 300] [5, 20, 33, 34, 35, 36, 37, 38, 39, 40, 55] F0 G0 F' G') := by
  intro n
  induction n with
  | zero =>
    intro x1 F G hK
    exact PP.no
  | succ n ihn =>
    intro x1 F G hK
    show PP (cb_X4_block_15 fu rc (cl_X4_block_15 fu rc n) x1 F G) _
    unfold cb_X4_block_15
    refine PP.ite (fun c_1 => ?_) (fun c_1 => ?_)
    · skip
      exact cwj_X4_block_56 rc ih F G hK
    · skip
      unfold cb_X4_block_22
      refine PP.ite (fun c_2 => ?_) (fun c_2 => ?_)
      · skip
        exact cwj_X4_block_56 rc ih F G hK
      · skip
        unfold cb_X4_block_34
        refine PP.ite (fun c_3 => ?_) (fun c_3 => ?_)
        · skip
          exact cwj_X4_block_56 rc ih F G hK
        · skip
          unfold cb_X4_block_46
          refine PP.bind (ih 6 0 0 F G) ?_
          intro r4 F4 G4 hK4
          dsimp only
          unfold cb_X4_block_50
          exact ihn (x1 + (1 : Int32)) F4 G4 (KX.tr hK hK4 rfl rfl)
theorem cwt_X4_block {fu : Nat} (rc : RC) (ih : cKI2 rc) (F : PF) (G : PG) : PP (ch_X4_block fu rc F G) (fun _ F' G' => KX [6, 9, 10, 11, 12, 13, 14, 21, 29, 30, 31, 41, 42, 43, 44, 46, 47, 50, 56, 57, 300] [5, 20, 33, 34, 35, 36, 37, 38, 39, 40, 55] F G F' G') := by
  unfold ch_X4_block
  unfold cb_X4_block_0
  refine PP.bind (cw_X2_opens (23 : Int32) F G) ?_
  intro r1 F1 G1 hK1
  dsimp only
  unfold cb_X4_block_9
  refine PP.ite (fun c_2 => ?_) (fun c_2 => ?_)
  · skip
    unfold cb_X4_block_12
    refine PP.ret ?_
    exact (KX.tr KX.rf hK1 rfl rfl)
  · skip
    unfold cb_X4_block_13
    exact cwz_X4_block_15 rc ih fu (0 : Int32) F1 G1 (KX.tr KX.rf hK1 rfl rfl)
theorem cwt_X4_doStatement {fu : Nat} (rc : RC) (ih : cKI2 rc) (F : PF) (G : PG) : PP (ch_X4_doStatement fu rc F G) (fun _ F' G' => KX [6, 9, 10, 11, 12, 13, 14, 21, 29, 30, 31, 41, 42, 43, 44, 46, 47, 50, 56, 57, 300] [5, 20, 33, 34, 35, 36, 37, 38, 39, 40, 55] F G F' G') := by
  unfold ch_X4_doStatement
  unfold cb_X4_doStatement_0
  refine PP.bind (cw_X2_opens (11 : Int32) F G) ?_
  intro r1 F1 G1 hK1
  dsimp only
  unfold cb_X4_doStatement_9
  refine PP.ite (fun c_2 => ?_) (fun c_2 => ?_)
  · skip
    unfold cb_X4_doStatement_12
    refine PP.ret ?_
    exact (KX.tr KX.rf hK1 rfl rfl)
  · skip
    unfold cb_X4_doStatement_13
    refine PP.bind (ih 5 0 0 F1 G1) ?_
    intro r3 F3 G3 hK3
    dsimp only
    unfold cb_X4_doStatement_35
    refine PP.bind (cw_X1_aim (F3 31) (F3 6) F3 G3) ?_
    intro r4 F4 G4 hK4
    dsimp only
    unfold cb_X4_doStatement_53
    refine PP.bind (cw_X2_expect (10 : Int32) F4 G4) ?_
    intro r5 F5 G5 hK5
    dsimp only
    unfold cb_X4_doStatement_62
    refine PP.bind (cw_X4_condition F5 G5) ?_
    intro r6 F6 G6 hK6
    dsimp only
    unfold cb_X4_doStatement_66
    refine PP.bind (cw_X2_expect (26 : Int32) F6 G6) ?_
    intro r7 F7 G7 hK7
    dsimp only
    unfold cb_X4_doStatement_75
    refine PP.bind (cw_X1_addPair (85 : Int32) (F1 6) F7 G7) ?_
    intro r8 F8 G8 hK8
    dsimp only
    unfold cb_X4_doStatement_85
    refine PP.bind (cw_X1_aim (F8 30) (F8 6) F8 G8) ?_
    intro r9 F9 G9 hK9
    dsimp only
    unfold cb_X4_doStatement_103
    unfold cb_X4_doStatement_108
    unfold cb_X4_doStatement_113
    refine PP.bind (cw_X2_closes (fup (fup F9 30 (F1 30)) 31 (F1 31)) G9) ?_
    intro r10 F10 G10 hK10
    dsimp only
    unfold cb_X4_doStatement_120
    refine PP.ret ?_
    exact (KX.tr (KX.f (k := 31) rfl (KX.f (k := 30) rfl (KX.tr (KX.tr (KX.tr (KX.tr (KX.tr (KX.tr (KX.tr (KX.tr KX.rf hK1 rfl rfl) hK3 rfl rfl) hK4 rfl rfl) hK5 rfl rfl) hK6 rfl rfl) hK7 rfl rfl) hK8 rfl rfl) hK9 rfl rfl))) hK10 rfl rfl)
theorem cwj_X4_forStatement_181 {fu : Nat} (rc : RC) (ih : cKI2 rc) {F0 : PF} {G0 : PG} (x1 : Int32) (x2 : Int32) (x4 : Int32) (x5 : Int32) (x6 : Int32) (x7 : Int32) (F : PF) (G : PG) (hK : KX [6, 9, 10, 11, 12, 13, 14, 21, 29, 30, 31, 41, 42, 43, 44, 46, 47, 50, 56, 57, 300] [5, 20, 33, 34, 35, 36, 37, 38, 39, 40, 55] F0 G0 F G) : PP (cb_X4_forStatement_181 fu rc x1 x2 x4 x5 x6 x7 F G) (fun _ F' G' => KX [6, 9, 10, 11, 12, 13, 14, 21, 29, 30, 31, 41, 42, 43, 44, 46, 47, 50, 56, 57, 300] [5, 20, 33, 34, 35, 36, 37, 38, 39, 40, 55] F0 G0 F' G') := by
  unfold cb_X4_forStatement_181
  refine PP.bind (cw_X1_addPair (84 : Int32) x4 F G) ?_
  intro r1 F1 G1 hK1
  dsimp only
  unfold cb_X4_forStatement_192
  refine PP.bind (cw_X2_closesWith (20 : Int32) F1 G1) ?_
  intro r2 F2 G2 hK2
  dsimp only
  unfold cb_X4_forStatement_201
  refine PP.bind (cw_X1_aim x6 (F2 6) F2 G2) ?_
  intro r3 F3 G3 hK3
  dsimp only
  unfold cb_X4_forStatement_217
  refine PP.bind (ih 5 0 0 F3 G3) ?_
  intro r4 F4 G4 hK4
  dsimp only
  unfold cb_X4_forStatement_221
  refine PP.bind (cw_X1_addPair (84 : Int32) x7 F4 G4) ?_
  intro r5 F5 G5 hK5
  dsimp only
  unfold cb_X4_forStatement_232
  refine PP.bind (cw_X1_aim (F5 31) x7 F5 G5) ?_
  intro r6 F6 G6 hK6
  dsimp only
  unfold cb_X4_forStatement_245
  refine PP.bind (cw_X1_aim x5 (F6 6) F6 G6) ?_
  intro r7 F7 G7 hK7
  dsimp only
  unfold cb_X4_forStatement_261
  refine PP.bind (cw_X1_aim (F7 30) (F7 6) F7 G7) ?_
  intro r8 F8 G8 hK8
  dsimp only
  unfold cb_X4_forStatement_279
  refine PP.bind (cw_X5_leave F8 G8) ?_
  intro r9 F9 G9 hK9
  dsimp only
  unfold cb_X4_forStatement_286
  unfold cb_X4_forStatement_291
  unfold cb_X4_forStatement_296
  refine PP.bind (cw_X2_closes (fup (fup F9 30 x1) 31 x2) G9) ?_
  intro r10 F10 G10 hK10
  dsimp only
  unfold cb_X4_forStatement_303
  refine PP.ret ?_
  exact (KX.tr (KX.f (k := 31) rfl (KX.f (k := 30) rfl (KX.tr (KX.tr (KX.tr (KX.tr (KX.tr (KX.tr (KX.tr (KX.tr (KX.tr hK hK1 rfl rfl) hK2 rfl rfl) hK3 rfl rfl) hK4 rfl rfl) hK5 rfl rfl) hK6 rfl rfl) hK7 rfl rfl) hK8 rfl rfl) hK9 rfl rfl))) hK10 rfl rfl)
theorem cwj_X4_forStatement_135 {fu : Nat} (rc : RC) (ih : cKI2 rc) {F0 : PF} {G0 : PG} (x1 : Int32) (x2 : Int32) (x4 : Int32) (x5 : Int32) (F : PF) (G : PG) (hK : KX [6, 9, 10, 11, 12, 13, 14, 21, 29, 30, 31, 41, 42, 43, 44, 46, 47, 50, 56, 57, 300] [5, 20, 33, 34, 35, 36, 37, 38, 39, 40, 55] F0 G0 F G) : PP (cb_X4_forStatement_135 fu rc x1 x2 x4 x5 F G) (fun _ F' G' => KX [6, 9, 10, 11, 12, 13, 14, 21, 29, 30, 31, 41, 42, 43, 44, 46, 47, 50, 56, 57, 300] [5, 20, 33, 34, 35, 36, 37, 38, 39, 40, 55] F0 G0 F' G') := by
  unfold cb_X4_forStatement_135
  refine PP.bind (cw_X2_expect (26 : Int32) F G) ?_
  intro r1 F1 G1 hK1
  dsimp only
  unfold cb_X4_forStatement_144
  refine PP.bind (cw_X1_addJump (84 : Int32) (-1 : Int32) F1 G1) ?_
  intro r2 F2 G2 hK2
  dsimp only
  unfold cb_X4_forStatement_154
  refine PP.ite (fun c_3 => ?_) (fun c_3 => ?_)
  · skip
    exact cwj_X4_forStatement_181 rc ih x1 x2 x4 x5 r2 (F2 6) F2 G2 (KX.tr (KX.tr hK hK1 rfl rfl) hK2 rfl rfl)
  · skip
    unfold cb_X4_forStatement_177
    refine PP.bind (cw_X4_simple F2 G2) ?_
    intro r4 F4 G4 hK4
    dsimp only
    exact cwj_X4_forStatement_181 rc ih x1 x2 x4 x5 r2 (F2 6) F4 G4 (KX.tr (KX.tr (KX.tr hK hK1 rfl rfl) hK2 rfl rfl) hK4 rfl rfl)
theorem cwj_X4_forStatement_83 {fu : Nat} (rc : RC) (ih : cKI2 rc) {F0 : PF} {G0 : PG} (x1 : Int32) (x2 : Int32) (F : PF) (G : PG) (hK : KX [6, 9, 10, 11, 12, 13, 14, 21, 29, 30, 31, 41, 42, 43, 44, 46, 47, 50, 56, 57, 300] [5, 20, 33, 34, 35, 36, 37, 38, 39, 40, 55] F0 G0 F G) : PP (cb_X4_forStatement_83 fu rc x1 x2 F G) (fun _ F' G' => KX [6, 9, 10, 11, 12, 13, 14, 21, 29, 30, 31, 41, 42, 43, 44, 46, 47, 50, 56, 57, 300] [5, 20, 33, 34, 35, 36, 37, 38, 39, 40, 55] F0 G0 F' G') := by
  unfold cb_X4_forStatement_83
  refine PP.bind (cw_X2_expect (26 : Int32) F G) ?_
  intro r1 F1 G1 hK1
  dsimp only
  unfold cb_X4_forStatement_92
  refine PP.ite (fun c_2 => ?_) (fun c_2 => ?_)
  · skip
    exact cwj_X4_forStatement_135 rc ih x1 x2 (F1 6) (-1 : Int32) F1 G1 (KX.tr hK hK1 rfl rfl)
  · skip
    unfold cb_X4_forStatement_116
    refine PP.bind (cw_X3_expression F1 G1) ?_
    intro r3 F3 G3 hK3
    dsimp only
    unfold cb_X4_forStatement_123
    refine PP.bind (cw_X1_addJump (86 : Int32) (-1 : Int32) F3 G3) ?_
    intro r4 F4 G4 hK4
    dsimp only
    unfold cb_X4_forStatement_133
    exact cwj_X4_forStatement_135 rc ih x1 x2 (F1 6) r4 F4 G4 (KX.tr (KX.tr (KX.tr hK hK1 rfl rfl) hK3 rfl rfl) hK4 rfl rfl)
theorem cwj_X4_forStatement_63 {fu : Nat} (rc : RC) (ih : cKI2 rc) {F0 : PF} {G0 : PG} (x1 : Int32) (x2 : Int32) (x3 : Int32) (F : PF) (G : PG) (hK : KX [6, 9, 10, 11, 12, 13, 14, 21, 29, 30, 31, 41, 42, 43, 44, 46, 47, 50, 56, 57, 300] [5, 20, 33, 34, 35, 36, 37, 38, 39, 40, 55] F0 G0 F G) : PP (cb_X4_forStatement_63 fu rc x1 x2 x3 F G) (fun _ F' G' => KX [6, 9, 10, 11, 12, 13, 14, 21, 29, 30, 31, 41, 42, 43, 44, 46, 47, 50, 56, 57, 300] [5, 20, 33, 34, 35, 36, 37, 38, 39, 40, 55] F0 G0 F' G') := by
  unfold cb_X4_forStatement_63
  refine PP.ite (fun c_1 => ?_) (fun c_1 => ?_)
  · skip
    exact cwj_X4_forStatement_83 rc ih x1 x2 F G hK
  · skip
    unfold cb_X4_forStatement_67
    refine PP.ite (fun c_2 => ?_) (fun c_2 => ?_)
    · skip
      exact cwj_X4_forStatement_83 rc ih x1 x2 F G hK
    · skip
      unfold cb_X4_forStatement_79
      refine PP.bind (cw_X4_simple F G) ?_
      intro r3 F3 G3 hK3
      dsimp only
      exact cwj_X4_forStatement_83 rc ih x1 x2 F3 G3 (KX.tr hK hK3 rfl rfl)
theorem cwt_X4_forStatement {fu : Nat} (rc : RC) (ih : cKI2 rc) (F : PF) (G : PG) : PP (ch_X4_forStatement fu rc F G) (fun _ F' G' => KX [6, 9, 10, 11, 12, 13, 14, 21, 29, 30, 31, 41, 42, 43, 44, 46, 47, 50, 56, 57, 300] [5, 20, 33, 34, 35, 36, 37, 38, 39, 40, 55] F G F' G') := by
  unfold ch_X4_forStatement
  unfold cb_X4_forStatement_0
  refine PP.bind (cw_X2_opens (12 : Int32) F G) ?_
  intro r1 F1 G1 hK1
  dsimp only
  unfold cb_X4_forStatement_9
  refine PP.ite (fun c_2 => ?_) (fun c_2 => ?_)
  · skip
    unfold cb_X4_forStatement_12
    refine PP.ret ?_
    exact (KX.tr KX.rf hK1 rfl rfl)
  · skip
    unfold cb_X4_forStatement_13
    refine PP.bind (cw_X5_enter F1 G1) ?_
    intro r3 F3 G3 hK3
    dsimp only
    unfold cb_X4_forStatement_30
    refine PP.bind (cw_X2_opens (19 : Int32) F3 G3) ?_
    intro r4 F4 G4 hK4
    dsimp only
    unfold cb_X4_forStatement_39
    refine PP.ite (fun c_5 => ?_) (fun c_5 => ?_)
    · skip
      exact cwj_X4_forStatement_63 rc ih (F1 30) (F1 31) r4 F4 G4 (KX.tr (KX.tr (KX.tr KX.rf hK1 rfl rfl) hK3 rfl rfl) hK4 rfl rfl)
    · skip
      unfold cb_X4_forStatement_44
      refine PP.ite (fun c_6 => ?_) (fun c_6 => ?_)
      · skip
        unfold cb_X4_forStatement_55
        refine PP.bind (cw_X4_localTold (1 : Int32) F4 G4) ?_
        intro r7 F7 G7 hK7
        dsimp only
        unfold cb_X4_forStatement_60
        exact cwj_X4_forStatement_83 rc ih (F1 30) (F1 31) F7 G7 (KX.tr (KX.tr (KX.tr (KX.tr KX.rf hK1 rfl rfl) hK3 rfl rfl) hK4 rfl rfl) hK7 rfl rfl)
      · skip
        exact cwj_X4_forStatement_63 rc ih (F1 30) (F1 31) r4 F4 G4 (KX.tr (KX.tr (KX.tr KX.rf hK1 rfl rfl) hK3 rfl rfl) hK4 rfl rfl)
theorem cwj_X4_ifStatement_114 {fu : Nat} (rc : RC) (ih : cKI2 rc) {F0 : PF} {G0 : PG} (F : PF) (G : PG) (hK : KX [6, 9, 10, 11, 12, 13, 14, 21, 29, 30, 31, 41, 42, 43, 44, 46, 47, 50, 56, 57, 300] [5, 20, 33, 34, 35, 36, 37, 38, 39, 40, 55] F0 G0 F G) : PP (cb_X4_ifStatement_114 fu rc F G) (fun _ F' G' => KX [6, 9, 10, 11, 12, 13, 14, 21, 29, 30, 31, 41, 42, 43, 44, 46, 47, 50, 56, 57, 300] [5, 20, 33, 34, 35, 36, 37, 38, 39, 40, 55] F0 G0 F' G') := by
  unfold cb_X4_ifStatement_114
  refine PP.bind (cw_X2_closes F G) ?_
  intro r1 F1 G1 hK1
  dsimp only
  unfold cb_X4_ifStatement_121
  refine PP.ret ?_
  exact (KX.tr hK hK1 rfl rfl)
theorem cwt_X4_ifStatement {fu : Nat} (rc : RC) (ih : cKI2 rc) (F : PF) (G : PG) : PP (ch_X4_ifStatement fu rc F G) (fun _ F' G' => KX [6, 9, 10, 11, 12, 13, 14, 21, 29, 30, 31, 41, 42, 43, 44, 46, 47, 50, 56, 57, 300] [5, 20, 33, 34, 35, 36, 37, 38, 39, 40, 55] F G F' G') := by
  unfold ch_X4_ifStatement
  unfold cb_X4_ifStatement_0
  refine PP.bind (cw_X2_opens (8 : Int32) F G) ?_
  intro r1 F1 G1 hK1
  dsimp only
  unfold cb_X4_ifStatement_9
  refine PP.ite (fun c_2 => ?_) (fun c_2 => ?_)
  · skip
    unfold cb_X4_ifStatement_12
    refine PP.ret ?_
    exact (KX.tr KX.rf hK1 rfl rfl)
  · skip
    unfold cb_X4_ifStatement_13
    refine PP.bind (cw_X4_condition F1 G1) ?_
    intro r3 F3 G3 hK3
    dsimp only
    unfold cb_X4_ifStatement_17
    refine PP.bind (cw_X1_addJump (86 : Int32) (-1 : Int32) F3 G3) ?_
    intro r4 F4 G4 hK4
    dsimp only
    unfold cb_X4_ifStatement_27
    refine PP.bind (ih 4 0 0 F4 G4) ?_
    intro r5 F5 G5 hK5
    dsimp only
    unfold cb_X4_ifStatement_32
    refine PP.ite (fun c_6 => ?_) (fun c_6 => ?_)
    · skip
      unfold cb_X4_ifStatement_44
      refine PP.bind (cw_X2_next F5 G5) ?_
      intro r7 F7 G7 hK7
      dsimp only
      unfold cb_X4_ifStatement_51
      refine PP.bind (cw_X1_addJump (84 : Int32) (-1 : Int32) F7 G7) ?_
      intro r8 F8 G8 hK8
      dsimp only
      unfold cb_X4_ifStatement_61
      refine PP.bind (cw_X1_aim r4 (F8 6) F8 G8) ?_
      intro r9 F9 G9 hK9
      dsimp only
      unfold cb_X4_ifStatement_77
      refine PP.bind (ih 4 0 0 F9 G9) ?_
      intro r10 F10 G10 hK10
      dsimp only
      unfold cb_X4_ifStatement_81
      refine PP.bind (cw_X1_aim r8 (F10 6) F10 G10) ?_
      intro r11 F11 G11 hK11
      dsimp only
      unfold cb_X4_ifStatement_96
      exact cwj_X4_ifStatement_114 rc ih F11 G11 (KX.tr (KX.tr (KX.tr (KX.tr (KX.tr (KX.tr (KX.tr (KX.tr (KX.tr KX.rf hK1 rfl rfl) hK3 rfl rfl) hK4 rfl rfl) hK5 rfl rfl) hK7 rfl rfl) hK8 rfl rfl) hK9 rfl rfl) hK10 rfl rfl) hK11 rfl rfl)
    · skip
      unfold cb_X4_ifStatement_99
      refine PP.bind (cw_X1_aim r4 (F5 6) F5 G5) ?_
      intro r12 F12 G12 hK12
      dsimp only
      exact cwj_X4_ifStatement_114 rc ih F12 G12 (KX.tr (KX.tr (KX.tr (KX.tr (KX.tr KX.rf hK1 rfl rfl) hK3 rfl rfl) hK4 rfl rfl) hK5 rfl rfl) hK12 rfl rfl)
theorem cwt_X4_inner {fu : Nat} (rc : RC) (ih : cKI2 rc) (F : PF) (G : PG) : PP (ch_X4_inner fu rc F G) (fun _ F' G' => KX [6, 9, 10, 11, 12, 13, 14, 21, 29, 30, 31, 41, 42, 43, 44, 46, 47, 50, 56, 57, 300] [5, 20, 33, 34, 35, 36, 37, 38, 39, 40, 55] F G F' G') := by
  unfold ch_X4_inner
  unfold cb_X4_inner_0
  refine PP.bind (cw_X5_enter F G) ?_
  intro r1 F1 G1 hK1
  dsimp only
  unfold cb_X4_inner_7
  refine PP.bind (ih 6 0 0 F1 G1) ?_
  intro r2 F2 G2 hK2
  dsimp only
  unfold cb_X4_inner_11
  refine PP.bind (cw_X5_leave F2 G2) ?_
  intro r3 F3 G3 hK3
  dsimp only
  unfold cb_X4_inner_18
  refine PP.ret ?_
  exact (KX.tr (KX.tr (KX.tr KX.rf hK1 rfl rfl) hK2 rfl rfl) hK3 rfl rfl)
theorem cwt_X4_loopBody {fu : Nat} (rc : RC) (ih : cKI2 rc) (F : PF) (G : PG) : PP (ch_X4_loopBody fu rc F G) (fun _ F' G' => KX [6, 9, 10, 11, 12, 13, 14, 21, 29, 30, 31, 41, 42, 43, 44, 46, 47, 50, 56, 57, 300] [5, 20, 33, 34, 35, 36, 37, 38, 39, 40, 55] F G F' G') := by
  unfold ch_X4_loopBody
  unfold cb_X4_loopBody_0
  unfold cb_X4_loopBody_5
  unfold cb_X4_loopBody_10
  unfold cb_X4_loopBody_20
  refine PP.bind (cw_X1_add (89 : Int32) (fup (fup (fup F 30 (-1 : Int32)) 31 (-1 : Int32)) 29 ((F 29) + (1 : Int32))) G) ?_
  intro r1 F1 G1 hK1
  dsimp only
  unfold cb_X4_loopBody_29
  refine PP.bind (ih 4 0 0 F1 G1) ?_
  intro r2 F2 G2 hK2
  dsimp only
  unfold cb_X4_loopBody_33
  unfold cb_X4_loopBody_43
  refine PP.ret ?_
  exact (KX.f (k := 29) rfl (KX.tr (KX.tr (KX.f (k := 29) rfl (KX.f (k := 31) rfl (KX.f (k := 30) rfl KX.rf))) hK1 rfl rfl) hK2 rfl rfl))
theorem cwj_X4_statement_222 {fu : Nat} (rc : RC) (ih : cKI2 rc) {F0 : PF} {G0 : PG} (F : PF) (G : PG) (hK : KX [6, 9, 10, 11, 12, 13, 14, 21, 29, 30, 31, 41, 42, 43, 44, 46, 47, 50, 56, 57, 300] [5, 20, 33, 34, 35, 36, 37, 38, 39, 40, 55] F0 G0 F G) : PP (cb_X4_statement_222 fu rc F G) (fun _ F' G' => KX [6, 9, 10, 11, 12, 13, 14, 21, 29, 30, 31, 41, 42, 43, 44, 46, 47, 50, 56, 57, 300] [5, 20, 33, 34, 35, 36, 37, 38, 39, 40, 55] F0 G0 F' G') := by
  unfold cb_X4_statement_222
  refine PP.ret ?_
  exact hK
theorem cwt_X4_statement {fu : Nat} (rc : RC) (ih : cKI2 rc) (F : PF) (G : PG) : PP (ch_X4_statement fu rc F G) (fun _ F' G' => KX [6, 9, 10, 11, 12, 13, 14, 21, 29, 30, 31, 41, 42, 43, 44, 46, 47, 50, 56, 57, 300] [5, 20, 33, 34, 35, 36, 37, 38, 39, 40, 55] F G F' G') := by
  unfold ch_X4_statement
  unfold cb_X4_statement_0
  refine PP.ite (fun c_1 => ?_) (fun c_1 => ?_)
  · have e_2 : (F 11).toInt < 4 ∨ 26 < (F 11).toInt := c_1
    unfold cb_X4_statement_209
    refine PP.bind (cw_X4_simple F G) ?_
    intro r3 F3 G3 hK3
    dsimp only
    unfold cb_X4_statement_213
    refine PP.bind (cw_X2_expect (26 : Int32) F3 G3) ?_
    intro r4 F4 G4 hK4
    dsimp only
    exact cwj_X4_statement_222 rc ih F4 G4 (KX.tr (KX.tr KX.rf hK3 rfl rfl) hK4 rfl rfl)
  have e_5 : ¬ ((F 11).toInt < 4 ∨ 26 < (F 11).toInt) := c_1
  refine PP.ite (fun c_6 => ?_) (fun c_6 => ?_)
  · skip
    unfold cb_X4_statement_143
    refine PP.bind (cw_X4_localTold (0 : Int32) F G) ?_
    intro r7 F7 G7 hK7
    dsimp only
    unfold cb_X4_statement_148
    refine PP.bind (cw_X2_expect (26 : Int32) F7 G7) ?_
    intro r8 F8 G8 hK8
    dsimp only
    unfold cb_X4_statement_157
    exact cwj_X4_statement_222 rc ih F8 G8 (KX.tr (KX.tr KX.rf hK7 rfl rfl) hK8 rfl rfl)
  refine PP.ite (fun c_9 => ?_) (fun c_9 => ?_)
  · skip
    unfold cb_X4_statement_143
    refine PP.bind (cw_X4_localTold (0 : Int32) F G) ?_
    intro r10 F10 G10 hK10
    dsimp only
    unfold cb_X4_statement_148
    refine PP.bind (cw_X2_expect (26 : Int32) F10 G10) ?_
    intro r11 F11 G11 hK11
    dsimp only
    unfold cb_X4_statement_157
    exact cwj_X4_statement_222 rc ih F11 G11 (KX.tr (KX.tr KX.rf hK10 rfl rfl) hK11 rfl rfl)
  refine PP.ite (fun c_12 => ?_) (fun c_12 => ?_)
  · skip
    unfold cb_X4_statement_209
    refine PP.bind (cw_X4_simple F G) ?_
    intro r13 F13 G13 hK13
    dsimp only
    unfold cb_X4_statement_213
    refine PP.bind (cw_X2_expect (26 : Int32) F13 G13) ?_
    intro r14 F14 G14 hK14
    dsimp only
    exact cwj_X4_statement_222 rc ih F14 G14 (KX.tr (KX.tr KX.rf hK13 rfl rfl) hK14 rfl rfl)
  refine PP.ite (fun c_15 => ?_) (fun c_15 => ?_)
  · skip
    unfold cb_X4_statement_209
    refine PP.bind (cw_X4_simple F G) ?_
    intro r16 F16 G16 hK16
    dsimp only
    unfold cb_X4_statement_213
    refine PP.bind (cw_X2_expect (26 : Int32) F16 G16) ?_
    intro r17 F17 G17 hK17
    dsimp only
    exact cwj_X4_statement_222 rc ih F17 G17 (KX.tr (KX.tr KX.rf hK16 rfl rfl) hK17 rfl rfl)
  refine PP.ite (fun c_18 => ?_) (fun c_18 => ?_)
  · skip
    unfold cb_X4_statement_160
    refine PP.bind (ih 3 0 0 F G) ?_
    intro r19 F19 G19 hK19
    dsimp only
    unfold cb_X4_statement_164
    exact cwj_X4_statement_222 rc ih F19 G19 (KX.tr KX.rf hK19 rfl rfl)
  refine PP.ite (fun c_20 => ?_) (fun c_20 => ?_)
  · skip
    unfold cb_X4_statement_209
    refine PP.bind (cw_X4_simple F G) ?_
    intro r21 F21 G21 hK21
    dsimp only
    unfold cb_X4_statement_213
    refine PP.bind (cw_X2_expect (26 : Int32) F21 G21) ?_
    intro r22 F22 G22 hK22
    dsimp only
    exact cwj_X4_statement_222 rc ih F22 G22 (KX.tr (KX.tr KX.rf hK21 rfl rfl) hK22 rfl rfl)
  refine PP.ite (fun c_23 => ?_) (fun c_23 => ?_)
  · skip
    unfold cb_X4_statement_167
    refine PP.bind (ih 7 0 0 F G) ?_
    intro r24 F24 G24 hK24
    dsimp only
    unfold cb_X4_statement_171
    exact cwj_X4_statement_222 rc ih F24 G24 (KX.tr KX.rf hK24 rfl rfl)
  refine PP.ite (fun c_25 => ?_) (fun c_25 => ?_)
  · skip
    unfold cb_X4_statement_174
    refine PP.bind (ih 1 0 0 F G) ?_
    intro r26 F26 G26 hK26
    dsimp only
    unfold cb_X4_statement_178
    exact cwj_X4_statement_222 rc ih F26 G26 (KX.tr KX.rf hK26 rfl rfl)
  refine PP.ite (fun c_27 => ?_) (fun c_27 => ?_)
  · skip
    unfold cb_X4_statement_181
    refine PP.bind (ih 2 0 0 F G) ?_
    intro r28 F28 G28 hK28
    dsimp only
    unfold cb_X4_statement_185
    exact cwj_X4_statement_222 rc ih F28 G28 (KX.tr KX.rf hK28 rfl rfl)
  refine PP.ite (fun c_29 => ?_) (fun c_29 => ?_)
  · skip
    unfold cb_X4_statement_188
    refine PP.bind (cw_X4_leap F G) ?_
    intro r30 F30 G30 hK30
    dsimp only
    unfold cb_X4_statement_192
    exact cwj_X4_statement_222 rc ih F30 G30 (KX.tr KX.rf hK30 rfl rfl)
  refine PP.ite (fun c_31 => ?_) (fun c_31 => ?_)
  · skip
    unfold cb_X4_statement_188
    refine PP.bind (cw_X4_leap F G) ?_
    intro r32 F32 G32 hK32
    dsimp only
    unfold cb_X4_statement_192
    exact cwj_X4_statement_222 rc ih F32 G32 (KX.tr KX.rf hK32 rfl rfl)
  refine PP.ite (fun c_33 => ?_) (fun c_33 => ?_)
  · skip
    unfold cb_X4_statement_195
    refine PP.bind (cw_X4_returnStatement F G) ?_
    intro r34 F34 G34 hK34
    dsimp only
    unfold cb_X4_statement_199
    exact cwj_X4_statement_222 rc ih F34 G34 (KX.tr KX.rf hK34 rfl rfl)
  refine PP.ite (fun c_35 => ?_) (fun c_35 => ?_)
  · skip
    unfold cb_X4_statement_202
    refine PP.bind (cw_X4_handOut F G) ?_
    intro r36 F36 G36 hK36
    dsimp only
    unfold cb_X4_statement_206
    exact cwj_X4_statement_222 rc ih F36 G36 (KX.tr KX.rf hK36 rfl rfl)
  refine PP.ite (fun c_37 => ?_) (fun c_37 => ?_)
  · skip
    unfold cb_X4_statement_209
    refine PP.bind (cw_X4_simple F G) ?_
    intro r38 F38 G38 hK38
    dsimp only
    unfold cb_X4_statement_213
    refine PP.bind (cw_X2_expect (26 : Int32) F38 G38) ?_
    intro r39 F39 G39 hK39
    dsimp only
    exact cwj_X4_statement_222 rc ih F39 G39 (KX.tr (KX.tr KX.rf hK38 rfl rfl) hK39 rfl rfl)
  refine PP.ite (fun c_40 => ?_) (fun c_40 => ?_)
  · skip
    unfold cb_X4_statement_202
    refine PP.bind (cw_X4_handOut F G) ?_
    intro r41 F41 G41 hK41
    dsimp only
    unfold cb_X4_statement_206
    exact cwj_X4_statement_222 rc ih F41 G41 (KX.tr KX.rf hK41 rfl rfl)
  refine PP.ite (fun c_42 => ?_) (fun c_42 => ?_)
  · skip
    unfold cb_X4_statement_209
    refine PP.bind (cw_X4_simple F G) ?_
    intro r43 F43 G43 hK43
    dsimp only
    unfold cb_X4_statement_213
    refine PP.bind (cw_X2_expect (26 : Int32) F43 G43) ?_
    intro r44 F44 G44 hK44
    dsimp only
    exact cwj_X4_statement_222 rc ih F44 G44 (KX.tr (KX.tr KX.rf hK43 rfl rfl) hK44 rfl rfl)
  refine PP.ite (fun c_45 => ?_) (fun c_45 => ?_)
  · skip
    unfold cb_X4_statement_209
    refine PP.bind (cw_X4_simple F G) ?_
    intro r46 F46 G46 hK46
    dsimp only
    unfold cb_X4_statement_213
    refine PP.bind (cw_X2_expect (26 : Int32) F46 G46) ?_
    intro r47 F47 G47 hK47
    dsimp only
    exact cwj_X4_statement_222 rc ih F47 G47 (KX.tr (KX.tr KX.rf hK46 rfl rfl) hK47 rfl rfl)
  refine PP.ite (fun c_48 => ?_) (fun c_48 => ?_)
  · skip
    unfold cb_X4_statement_209
    refine PP.bind (cw_X4_simple F G) ?_
    intro r49 F49 G49 hK49
    dsimp only
    unfold cb_X4_statement_213
    refine PP.bind (cw_X2_expect (26 : Int32) F49 G49) ?_
    intro r50 F50 G50 hK50
    dsimp only
    exact cwj_X4_statement_222 rc ih F50 G50 (KX.tr (KX.tr KX.rf hK49 rfl rfl) hK50 rfl rfl)
  refine PP.ite (fun c_51 => ?_) (fun c_51 => ?_)
  · skip
    unfold cb_X4_statement_209
    refine PP.bind (cw_X4_simple F G) ?_
    intro r52 F52 G52 hK52
    dsimp only
    unfold cb_X4_statement_213
    refine PP.bind (cw_X2_expect (26 : Int32) F52 G52) ?_
    intro r53 F53 G53 hK53
    dsimp only
    exact cwj_X4_statement_222 rc ih F53 G53 (KX.tr (KX.tr KX.rf hK52 rfl rfl) hK53 rfl rfl)
  refine PP.ite (fun c_54 => ?_) (fun c_54 => ?_)
  · skip
    unfold cb_X4_statement_112
    refine PP.bind (cw_X5_enter F G) ?_
    intro r55 F55 G55 hK55
    dsimp only
    unfold cb_X4_statement_119
    refine PP.bind (ih 0 0 0 F55 G55) ?_
    intro r56 F56 G56 hK56
    dsimp only
    unfold cb_X4_statement_123
    refine PP.bind (cw_X5_leave F56 G56) ?_
    intro r57 F57 G57 hK57
    dsimp only
    unfold cb_X4_statement_130
    exact cwj_X4_statement_222 rc ih F57 G57 (KX.tr (KX.tr (KX.tr KX.rf hK55 rfl rfl) hK56 rfl rfl) hK57 rfl rfl)
  refine PP.ite (fun c_58 => ?_) (fun c_58 => ?_)
  · skip
    unfold cb_X4_statement_209
    refine PP.bind (cw_X4_simple F G) ?_
    intro r59 F59 G59 hK59
    dsimp only
    unfold cb_X4_statement_213
    refine PP.bind (cw_X2_expect (26 : Int32) F59 G59) ?_
    intro r60 F60 G60 hK60
    dsimp only
    exact cwj_X4_statement_222 rc ih F60 G60 (KX.tr (KX.tr KX.rf hK59 rfl rfl) hK60 rfl rfl)
  refine PP.ite (fun c_61 => ?_) (fun c_61 => ?_)
  · skip
    unfold cb_X4_statement_209
    refine PP.bind (cw_X4_simple F G) ?_
    intro r62 F62 G62 hK62
    dsimp only
    unfold cb_X4_statement_213
    refine PP.bind (cw_X2_expect (26 : Int32) F62 G62) ?_
    intro r63 F63 G63 hK63
    dsimp only
    exact cwj_X4_statement_222 rc ih F63 G63 (KX.tr (KX.tr KX.rf hK62 rfl rfl) hK63 rfl rfl)
  unfold cb_X4_statement_133
  refine PP.bind (cw_X2_next F G) ?_
  intro r64 F64 G64 hK64
  dsimp only
  unfold cb_X4_statement_140
  exact cwj_X4_statement_222 rc ih F64 G64 (KX.tr KX.rf hK64 rfl rfl)
theorem cwt_X4_whileStatement {fu : Nat} (rc : RC) (ih : cKI2 rc) (F : PF) (G : PG) : PP (ch_X4_whileStatement fu rc F G) (fun _ F' G' => KX [6, 9, 10, 11, 12, 13, 14, 21, 29, 30, 31, 41, 42, 43, 44, 46, 47, 50, 56, 57, 300] [5, 20, 33, 34, 35, 36, 37, 38, 39, 40, 55] F G F' G') := by
  unfold ch_X4_whileStatement
  unfold cb_X4_whileStatement_0
  refine PP.bind (cw_X2_opens (10 : Int32) F G) ?_
  intro r1 F1 G1 hK1
  dsimp only
  unfold cb_X4_whileStatement_9
  refine PP.ite (fun c_2 => ?_) (fun c_2 => ?_)
  · skip
    unfold cb_X4_whileStatement_12
    refine PP.ret ?_
    exact (KX.tr KX.rf hK1 rfl rfl)
  · skip
    unfold cb_X4_whileStatement_13
    refine PP.bind (cw_X4_condition F1 G1) ?_
    intro r3 F3 G3 hK3
    dsimp only
    unfold cb_X4_whileStatement_35
    refine PP.bind (cw_X1_addJump (86 : Int32) (-1 : Int32) F3 G3) ?_
    intro r4 F4 G4 hK4
    dsimp only
    unfold cb_X4_whileStatement_45
    refine PP.bind (ih 5 0 0 F4 G4) ?_
    intro r5 F5 G5 hK5
    dsimp only
    unfold cb_X4_whileStatement_51
    refine PP.bind (cw_X1_addPair (84 : Int32) (F1 6) F5 G5) ?_
    intro r6 F6 G6 hK6
    dsimp only
    unfold cb_X4_whileStatement_61
    refine PP.bind (cw_X1_aim (F6 31) (F1 6) F6 G6) ?_
    intro r7 F7 G7 hK7
    dsimp only
    unfold cb_X4_whileStatement_73
    refine PP.bind (cw_X1_aim r4 (F7 6) F7 G7) ?_
    intro r8 F8 G8 hK8
    dsimp only
    unfold cb_X4_whileStatement_89
    refine PP.bind (cw_X1_aim (F8 30) (F8 6) F8 G8) ?_
    intro r9 F9 G9 hK9
    dsimp only
    unfold cb_X4_whileStatement_107
    unfold cb_X4_whileStatement_112
    unfold cb_X4_whileStatement_117
    refine PP.bind (cw_X2_closes (fup (fup F9 30 (F1 30)) 31 (F1 31)) G9) ?_
    intro r10 F10 G10 hK10
    dsimp only
    unfold cb_X4_whileStatement_124
    refine PP.ret ?_
    exact (KX.tr (KX.f (k := 31) rfl (KX.f (k := 30) rfl (KX.tr (KX.tr (KX.tr (KX.tr (KX.tr (KX.tr (KX.tr (KX.tr KX.rf hK1 rfl rfl) hK3 rfl rfl) hK4 rfl rfl) hK5 rfl rfl) hK6 rfl rfl) hK7 rfl rfl) hK8 rfl rfl) hK9 rfl rfl))) hK10 rfl rfl)
theorem cwS2 {fu : Nat} : ∀ d : Nat, cKI2 (cS2 fu d) := by
  intro d
  induction d with
  | zero => exact fun _ _ _ _ _ => PP.no
  | succ d ih =>
    intro i x y F G
    exact PP.ite (fun _ => cwt_X4_block (cS2 fu d) ih F G) (fun _ => PP.ite (fun _ => cwt_X4_doStatement (cS2 fu d) ih F G) (fun _ => PP.ite (fun _ => cwt_X4_forStatement (cS2 fu d) ih F G) (fun _ => PP.ite (fun _ => cwt_X4_ifStatement (cS2 fu d) ih F G) (fun _ => PP.ite (fun _ => cwt_X4_inner (cS2 fu d) ih F G) (fun _ => PP.ite (fun _ => cwt_X4_loopBody (cS2 fu d) ih F G) (fun _ => PP.ite (fun _ => cwt_X4_statement (cS2 fu d) ih F G) (fun _ => PP.ite (fun _ => cwt_X4_whileStatement (cS2 fu d) ih F G) (fun _ => PP.no))))))))
theorem cw_X4_block {fu : Nat} (F : PF) (G : PG) : PP (cf_X4_block fu F G) (fun _ F' G' => KX [6, 9, 10, 11, 12, 13, 14, 21, 29, 30, 31, 41, 42, 43, 44, 46, 47, 50, 56, 57, 300] [5, 20, 33, 34, 35, 36, 37, 38, 39, 40, 55] F G F' G') := cwS2 300 0 0 0 F G
theorem cw_X4_doStatement {fu : Nat} (F : PF) (G : PG) : PP (cf_X4_doStatement fu F G) (fun _ F' G' => KX [6, 9, 10, 11, 12, 13, 14, 21, 29, 30, 31, 41, 42, 43, 44, 46, 47, 50, 56, 57, 300] [5, 20, 33, 34, 35, 36, 37, 38, 39, 40, 55] F G F' G') := cwS2 300 1 0 0 F G
theorem cw_X4_forStatement {fu : Nat} (F : PF) (G : PG) : PP (cf_X4_forStatement fu F G) (fun _ F' G' => KX [6, 9, 10, 11, 12, 13, 14, 21, 29, 30, 31, 41, 42, 43, 44, 46, 47, 50, 56, 57, 300] [5, 20, 33, 34, 35, 36, 37, 38, 39, 40, 55] F G F' G') := cwS2 300 2 0 0 F G
theorem cw_X4_ifStatement {fu : Nat} (F : PF) (G : PG) : PP (cf_X4_ifStatement fu F G) (fun _ F' G' => KX [6, 9, 10, 11, 12, 13, 14, 21, 29, 30, 31, 41, 42, 43, 44, 46, 47, 50, 56, 57, 300] [5, 20, 33, 34, 35, 36, 37, 38, 39, 40, 55] F G F' G') := cwS2 300 3 0 0 F G
theorem cw_X4_inner {fu : Nat} (F : PF) (G : PG) : PP (cf_X4_inner fu F G) (fun _ F' G' => KX [6, 9, 10, 11, 12, 13, 14, 21, 29, 30, 31, 41, 42, 43, 44, 46, 47, 50, 56, 57, 300] [5, 20, 33, 34, 35, 36, 37, 38, 39, 40, 55] F G F' G') := cwS2 300 4 0 0 F G
theorem cw_X4_loopBody {fu : Nat} (F : PF) (G : PG) : PP (cf_X4_loopBody fu F G) (fun _ F' G' => KX [6, 9, 10, 11, 12, 13, 14, 21, 29, 30, 31, 41, 42, 43, 44, 46, 47, 50, 56, 57, 300] [5, 20, 33, 34, 35, 36, 37, 38, 39, 40, 55] F G F' G') := cwS2 300 5 0 0 F G
theorem cw_X4_statement {fu : Nat} (F : PF) (G : PG) : PP (cf_X4_statement fu F G) (fun _ F' G' => KX [6, 9, 10, 11, 12, 13, 14, 21, 29, 30, 31, 41, 42, 43, 44, 46, 47, 50, 56, 57, 300] [5, 20, 33, 34, 35, 36, 37, 38, 39, 40, 55] F G F' G') := cwS2 300 6 0 0 F G
theorem cw_X4_whileStatement {fu : Nat} (F : PF) (G : PG) : PP (cf_X4_whileStatement fu F G) (fun _ F' G' => KX [6, 9, 10, 11, 12, 13, 14, 21, 29, 30, 31, 41, 42, 43, 44, 46, 47, 50, 56, 57, 300] [5, 20, 33, 34, 35, 36, 37, 38, 39, 40, 55] F G F' G') := cwS2 300 7 0 0 F G
theorem cw_X4_constTold {fu : Nat} (x1 : Int32) (x2 : Int32) (F : PF) (G : PG) : PP (cf_X4_constTold fu x1 x2 F G) (fun _ F' G' => KX [6, 9, 10, 11, 12, 13, 14, 21, 41, 43, 44, 46, 47, 56, 57, 300] [5, 20, 33, 34, 35, 36, 37, 38, 39, 40, 55] F G F' G') := by
  unfold cf_X4_constTold
  unfold cb_X4_constTold_0
  refine PP.bind (cw_X2_expect (29 : Int32) F G) ?_
  intro r1 F1 G1 hK1
  dsimp only
  unfold cb_X4_constTold_9
  refine PP.bind (cw_X3_constant F1 G1) ?_
  intro r2 F2 G2 hK2
  dsimp only
  unfold cb_X4_constTold_16
  refine PP.bind (cw_X2_expect (26 : Int32) F2 G2) ?_
  intro r3 F3 G3 hK3
  dsimp only
  unfold cb_X4_constTold_26
  refine PP.bind (cw_X5_tell x1 x2 (0 : Int32) r2 (0 : Int32) F3 G3) ?_
  intro r4 F4 G4 hK4
  dsimp only
  unfold cb_X4_constTold_38
  refine PP.ret ?_
  exact (KX.tr (KX.tr (KX.tr (KX.tr KX.rf hK1 rfl rfl) hK2 rfl rfl) hK3 rfl rfl) hK4 rfl rfl)
theorem cwj_X8_firstWord_21 {fu : Nat} {F0 : PF} {G0 : PG} (z0 : Int32) (F : PF) (G : PG) (hK : KX [] [] F0 G0 F G) : PP (cb_X8_firstWord_21 fu z0 F G) (fun _ F' G' => KX [] [] F0 G0 F' G') := by
  unfold cb_X8_firstWord_21
  refine PP.ret ?_
  exact hK
theorem cwj_X8_firstWord_11 {fu : Nat} {F0 : PF} {G0 : PG} (F : PF) (G : PG) (hK : KX [] [] F0 G0 F G) : PP (cb_X8_firstWord_11 fu F G) (fun _ F' G' => KX [] [] F0 G0 F' G') := by
  unfold cb_X8_firstWord_11
  exact cwj_X8_firstWord_21 (0 : Int32) F G hK
theorem cw_X8_firstWord {fu : Nat} (x1 : Int32) (F : PF) (G : PG) : PP (cf_X8_firstWord fu x1 F G) (fun _ F' G' => KX [] [] F G F' G') := by
  unfold cf_X8_firstWord
  unfold cb_X8_firstWord_0
  refine PP.ite (fun c_1 => ?_) (fun c_1 => ?_)
  · skip
    exact cwj_X8_firstWord_11 F G KX.rf
  · skip
    unfold cb_X8_firstWord_4
    refine PP.ite (fun c_2 => ?_) (fun c_2 => ?_)
    · skip
      unfold cb_X8_firstWord_15
      refine PP.ix (fun _ => ?_)
      exact cwj_X8_firstWord_21 (G 86 x1.toNatClampNeg) F G KX.rf
    · skip
      exact cwj_X8_firstWord_11 F G KX.rf
theorem cw_X8_tellByte {fu : Nat} (x1 : Int32) (x2 : Int32) (x3 : Int32) (F : PF) (G : PG) : PP (cf_X8_tellByte fu x1 x2 x3 F G) (fun _ F' G' => KX [] [86] F G F' G') := by
  unfold cf_X8_tellByte
  unfold cb_X8_tellByte_0
  refine PP.bind (cw_X8_firstWord (x1 + (x2 >>> ((2 : Int32) &&& 31))) F G) ?_
  intro r1 F1 G1 hK1
  dsimp only
  unfold cb_X8_tellByte_24
  refine PP.bind (cw_X8_tellInt (x1 + (x2 >>> ((2 : Int32) &&& 31))) ((r1 &&& (((255 : Int32) <<< (((x2 &&& (3 : Int32)) * (8 : Int32)) &&& 31)) ^^^ (-1 : Int32))) ||| ((x3 &&& (255 : Int32)) <<< (((x2 &&& (3 : Int32)) * (8 : Int32)) &&& 31))) F1 G1) ?_
  intro r2 F2 G2 hK2
  dsimp only
  unfold cb_X8_tellByte_45
  refine PP.ret ?_
  exact (KX.tr (KX.tr KX.rf hK1 rfl rfl) hK2 rfl rfl)
theorem cwj_X4_elements_140 {fu : Nat} {F0 : PF} {G0 : PG} (F : PF) (G : PG) (hK : KX [6, 9, 10, 11, 12, 13, 14, 21, 43, 44, 46, 47, 56, 57, 300] [5, 20, 55, 86] F0 G0 F G) : PP (cb_X4_elements_140 fu F G) (fun _ F' G' => KX [6, 9, 10, 11, 12, 13, 14, 21, 43, 44, 46, 47, 56, 57, 300] [5, 20, 55, 86] F0 G0 F' G') := by
  unfold cb_X4_elements_140
  refine PP.bind (cw_X2_closesWith (24 : Int32) F G) ?_
  intro r1 F1 G1 hK1
  dsimp only
  unfold cb_X4_elements_149
  refine PP.ret ?_
  exact (KX.tr hK hK1 rfl rfl)
theorem cwj_X4_elements_134 {fu : Nat} {F0 : PF} {G0 : PG} (ag_19 : Int32 → Int32 → Int32 → Int32 → Int32 → PF → PG → PR) (hag_19 : ∀ (x1 : Int32) (x2 : Int32) (x3 : Int32) (x4 : Int32) (x5 : Int32) (F : PF) (G : PG) (hK : KX [6, 9, 10, 11, 12, 13, 14, 21, 43, 44, 46, 47, 56, 57, 300] [5, 20, 55, 86] F0 G0 F G), PP (ag_19 x1 x2 x3 x4 x5 F G) (fun _ F' G' => KX [6, 9, 10, 11, 12, 13, 14, 21, 43, 44, 46, 47, 56, 57, 300] [5, 20, 55, 86] F0 G0 F' G')) (x1 : Int32) (x2 : Int32) (x3 : Int32) (x4 : Int32) (x5 : Int32) (F : PF) (G : PG) (hK : KX [6, 9, 10, 11, 12, 13, 14, 21, 43, 44, 46, 47, 56, 57, 300] [5, 20, 55, 86] F0 G0 F G) : PP (cb_X4_elements_134 fu ag_19 x1 x2 x3 x4 x5 F G) (fun _ F' G' => KX [6, 9, 10, 11, 12, 13, 14, 21, 43, 44, 46, 47, 56, 57, 300] [5, 20, 55, 86] F0 G0 F' G') := by
  unfold cb_X4_elements_134
  exact hag_19 x1 x2 x3 x4 (x5 + (1 : Int32)) F G hK
theorem cwj_X4_elements_120 {fu : Nat} {F0 : PF} {G0 : PG} (ag_19 : Int32 → Int32 → Int32 → Int32 → Int32 → PF → PG → PR) (hag_19 : ∀ (x1 : Int32) (x2 : Int32) (x3 : Int32) (x4 : Int32) (x5 : Int32) (F : PF) (G : PG) (hK : KX [6, 9, 10, 11, 12, 13, 14, 21, 43, 44, 46, 47, 56, 57, 300] [5, 20, 55, 86] F0 G0 F G), PP (ag_19 x1 x2 x3 x4 x5 F G) (fun _ F' G' => KX [6, 9, 10, 11, 12, 13, 14, 21, 43, 44, 46, 47, 56, 57, 300] [5, 20, 55, 86] F0 G0 F' G')) (x1 : Int32) (x2 : Int32) (x3 : Int32) (x5 : Int32) (z0 : Int32) (F : PF) (G : PG) (hK : KX [6, 9, 10, 11, 12, 13, 14, 21, 43, 44, 46, 47, 56, 57, 300] [5, 20, 55, 86] F0 G0 F G) : PP (cb_X4_elements_120 fu ag_19 x1 x2 x3 x5 z0 F G) (fun _ F' G' => KX [6, 9, 10, 11, 12, 13, 14, 21, 43, 44, 46, 47, 56, 57, 300] [5, 20, 55, 86] F0 G0 F' G') := by
  unfold cb_X4_elements_120
  refine PP.ite (fun c_1 => ?_) (fun c_1 => ?_)
  · skip
    exact cwj_X4_elements_134 ag_19 hag_19 x1 x2 x3 z0 x5 F G hK
  · skip
    unfold cb_X4_elements_127
    refine PP.bind (cw_X2_next F G) ?_
    intro r2 F2 G2 hK2
    dsimp only
    exact cwj_X4_elements_134 ag_19 hag_19 x1 x2 x3 z0 x5 F2 G2 (KX.tr hK hK2 rfl rfl)
theorem cwj_X4_elements_103 {fu : Nat} {F0 : PF} {G0 : PG} (ag_19 : Int32 → Int32 → Int32 → Int32 → Int32 → PF → PG → PR) (hag_19 : ∀ (x1 : Int32) (x2 : Int32) (x3 : Int32) (x4 : Int32) (x5 : Int32) (F : PF) (G : PG) (hK : KX [6, 9, 10, 11, 12, 13, 14, 21, 43, 44, 46, 47, 56, 57, 300] [5, 20, 55, 86] F0 G0 F G), PP (ag_19 x1 x2 x3 x4 x5 F G) (fun _ F' G' => KX [6, 9, 10, 11, 12, 13, 14, 21, 43, 44, 46, 47, 56, 57, 300] [5, 20, 55, 86] F0 G0 F' G')) (x1 : Int32) (x2 : Int32) (x3 : Int32) (x5 : Int32) (F : PF) (G : PG) (hK : KX [6, 9, 10, 11, 12, 13, 14, 21, 43, 44, 46, 47, 56, 57, 300] [5, 20, 55, 86] F0 G0 F G) : PP (cb_X4_elements_103 fu ag_19 x1 x2 x3 x5 F G) (fun _ F' G' => KX [6, 9, 10, 11, 12, 13, 14, 21, 43, 44, 46, 47, 56, 57, 300] [5, 20, 55, 86] F0 G0 F' G') := by
  unfold cb_X4_elements_103
  refine PP.ite (fun c_1 => ?_) (fun c_1 => ?_)
  · skip
    unfold cb_X4_elements_115
    exact cwj_X4_elements_120 ag_19 hag_19 x1 x2 x3 x5 (1 : Int32) F G hK
  · skip
    unfold cb_X4_elements_119
    exact cwj_X4_elements_120 ag_19 hag_19 x1 x2 x3 x5 (0 : Int32) F G hK
theorem cwz_X4_elements_19 {fu : Nat} {F0 : PF} {G0 : PG} : ∀ (n : Nat) (x1 : Int32) (x2 : Int32) (x3 : Int32) (x4 : Int32) (x5 : Int32) (F : PF) (G : PG) (hK : KX [6, 9, 10, 11, 12, 13, 14, 21, 43, 44, 46, 47, 56, 57, 300] [5, 20, 55, 86] F0 G0 F G), PP (cl_X4_elements_19 fu n x1 x2 x3 x4 x5 F G) (fun _ F' G' => KX [6, 9, 10, 11, 12, 13, 14, 21, 43, 44, 46, 47, 56, 57, 300] [5, 20, 55, 86] F0 G0 F' G') := by
  intro n
  induction n with
  | zero =>
    intro x1 x2 x3 x4 x5 F G hK
    exact PP.no
  | succ n ihn =>
    intro x1 x2 x3 x4 x5 F G hK
    show PP (cb_X4_elements_19 fu (cl_X4_elements_19 fu n) x1 x2 x3 x4 x5 F G) _
    unfold cb_X4_elements_19
    refine PP.ite (fun c_1 => ?_) (fun c_1 => ?_)
    · skip
      exact cwj_X4_elements_140 F G hK
    · skip
      unfold cb_X4_elements_27
      refine PP.ite (fun c_2 => ?_) (fun c_2 => ?_)
      · skip
        exact cwj_X4_elements_140 F G hK
      · skip
        unfold cb_X4_elements_32
        refine PP.bind (cw_X3_constant F G) ?_
        intro r3 F3 G3 hK3
        dsimp only
        unfold cb_X4_elements_48
        refine PP.ite (fun c_4 => ?_) (fun c_4 => ?_)
        · skip
          unfold cb_X4_elements_70
          refine PP.ite (fun c_5 => ?_) (fun c_5 => ?_)
          · skip
            unfold cb_X4_elements_75
            refine PP.bind (cw_X8_tellInt (x2 + x5) r3 F3 G3) ?_
            intro r6 F6 G6 hK6
            dsimp only
            unfold cb_X4_elements_88
            exact cwj_X4_elements_103 (cl_X4_elements_19 fu n) ihn x1 x2 x3 x5 F6 G6 (KX.tr (KX.tr hK hK3 rfl rfl) hK6 rfl rfl)
          · skip
            unfold cb_X4_elements_91
            refine PP.bind (cw_X8_tellByte x2 x5 r3 F3 G3) ?_
            intro r7 F7 G7 hK7
            dsimp only
            exact cwj_X4_elements_103 (cl_X4_elements_19 fu n) ihn x1 x2 x3 x5 F7 G7 (KX.tr (KX.tr hK hK3 rfl rfl) hK7 rfl rfl)
        · skip
          unfold cb_X4_elements_56
          refine PP.bind (cw_X5_note (7 : Int32) (F 13) F3 G3) ?_
          intro r8 F8 G8 hK8
          dsimp only
          unfold cb_X4_elements_67
          exact cwj_X4_elements_103 (cl_X4_elements_19 fu n) ihn x1 x2 x3 x5 F8 G8 (KX.tr (KX.tr hK hK3 rfl rfl) hK8 rfl rfl)
theorem cw_X4_elements {fu : Nat} (x1 : Int32) (x2 : Int32) (x3 : Int32) (F : PF) (G : PG) : PP (cf_X4_elements fu x1 x2 x3 F G) (fun _ F' G' => KX [6, 9, 10, 11, 12, 13, 14, 21, 43, 44, 46, 47, 56, 57, 300] [5, 20, 55, 86] F G F' G') := by
  unfold cf_X4_elements
  unfold cb_X4_elements_0
  refine PP.bind (cw_X2_opens (23 : Int32) F G) ?_
  intro r1 F1 G1 hK1
  dsimp only
  unfold cb_X4_elements_9
  refine PP.ite (fun c_2 => ?_) (fun c_2 => ?_)
  · skip
    unfold cb_X4_elements_12
    refine PP.ret ?_
    exact (KX.tr KX.rf hK1 rfl rfl)
  · skip
    unfold cb_X4_elements_13
    exact cwz_X4_elements_19 fu x1 x2 x3 (1 : Int32) (0 : Int32) F1 G1 (KX.tr KX.rf hK1 rfl rfl)
theorem cwj_X4_globalArray_53 {fu : Nat} {F0 : PF} {G0 : PG} (x1 : Int32) (x2 : Int32) (x3 : Int32) (x4 : Int32) (x5 : Int32) (F : PF) (G : PG) (hK : KX [6, 9, 10, 11, 12, 13, 14, 21, 41, 43, 44, 46, 47, 56, 57, 75, 300] [5, 20, 33, 34, 35, 36, 37, 38, 39, 40, 55, 86] F0 G0 F G) : PP (cb_X4_globalArray_53 fu x1 x2 x3 x4 x5 F G) (fun _ F' G' => KX [6, 9, 10, 11, 12, 13, 14, 21, 41, 43, 44, 46, 47, 56, 57, 75, 300] [5, 20, 33, 34, 35, 36, 37, 38, 39, 40, 55, 86] F0 G0 F' G') := by
  unfold cb_X4_globalArray_53
  refine PP.bind (cw_X2_expect (26 : Int32) F G) ?_
  intro r1 F1 G1 hK1
  dsimp only
  unfold cb_X4_globalArray_62
  refine PP.bind (cw_X5_tell x1 x2 x3 x5 x4 F1 G1) ?_
  intro r2 F2 G2 hK2
  dsimp only
  unfold cb_X4_globalArray_76
  refine PP.ret ?_
  exact (KX.tr (KX.tr hK hK1 rfl rfl) hK2 rfl rfl)
theorem cw_X4_globalArray {fu : Nat} (x1 : Int32) (x2 : Int32) (x3 : Int32) (F : PF) (G : PG) : PP (cf_X4_globalArray fu x1 x2 x3 F G) (fun _ F' G' => KX [6, 9, 10, 11, 12, 13, 14, 21, 41, 43, 44, 46, 47, 56, 57, 75, 300] [5, 20, 33, 34, 35, 36, 37, 38, 39, 40, 55, 86] F G F' G') := by
  unfold cf_X4_globalArray
  unfold cb_X4_globalArray_0
  refine PP.bind (cw_X3_arraySize F G) ?_
  intro r1 F1 G1 hK1
  dsimp only
  unfold cb_X4_globalArray_7
  refine PP.bind (cw_X4_wordsOf x3 r1 F1 G1) ?_
  intro r2 F2 G2 hK2
  dsimp only
  unfold cb_X4_globalArray_19
  refine PP.bind (cw_X5_globalRoom r2 x2 F2 G2) ?_
  intro r3 F3 G3 hK3
  dsimp only
  unfold cb_X4_globalArray_23
  refine PP.ite (fun c_4 => ?_) (fun c_4 => ?_)
  · skip
    unfold cb_X4_globalArray_37
    refine PP.bind (cw_X2_next F3 G3) ?_
    intro r5 F5 G5 hK5
    dsimp only
    unfold cb_X4_globalArray_44
    refine PP.bind (cw_X4_elements x3 r3 r1 F5 G5) ?_
    intro r6 F6 G6 hK6
    dsimp only
    exact cwj_X4_globalArray_53 x1 x2 x3 r1 r3 F6 G6 (KX.tr (KX.tr (KX.tr (KX.tr (KX.tr KX.rf hK1 rfl rfl) hK2 rfl rfl) hK3 rfl rfl) hK5 rfl rfl) hK6 rfl rfl)
  · skip
    exact cwj_X4_globalArray_53 x1 x2 x3 r1 r3 F3 G3 (KX.tr (KX.tr (KX.tr KX.rf hK1 rfl rfl) hK2 rfl rfl) hK3 rfl rfl)
theorem cwj_X4_kindWord_46 {fu : Nat} {F0 : PF} {G0 : PG} (x2 : Int32) (F : PF) (G : PG) (hK : KX [9, 11, 12, 13, 14] [] F0 G0 F G) : PP (cb_X4_kindWord_46 fu x2 F G) (fun _ F' G' => KX [9, 11, 12, 13, 14] [] F0 G0 F' G') := by
  unfold cb_X4_kindWord_46
  refine PP.ret ?_
  exact hK
theorem cwj_X4_kindWord_28 {fu : Nat} {F0 : PF} {G0 : PG} (x2 : Int32) (F : PF) (G : PG) (hK : KX [9, 11, 12, 13, 14] [] F0 G0 F G) : PP (cb_X4_kindWord_28 fu x2 F G) (fun _ F' G' => KX [9, 11, 12, 13, 14] [] F0 G0 F' G') := by
  unfold cb_X4_kindWord_28
  refine PP.bind (cw_X2_next F G) ?_
  intro r1 F1 G1 hK1
  dsimp only
  unfold cb_X4_kindWord_35
  exact cwj_X4_kindWord_46 x2 F1 G1 (KX.tr hK hK1 rfl rfl)
theorem cwj_X4_kindWord_38 {fu : Nat} {F0 : PF} {G0 : PG} (x2 : Int32) (F : PF) (G : PG) (hK : KX [9, 11, 12, 13, 14] [] F0 G0 F G) : PP (cb_X4_kindWord_38 fu x2 F G) (fun _ F' G' => KX [9, 11, 12, 13, 14] [] F0 G0 F' G') := by
  unfold cb_X4_kindWord_38
  refine PP.bind (cw_X2_fail (2 : Int32) F G) ?_
  intro r1 F1 G1 hK1
  dsimp only
  exact cwj_X4_kindWord_46 x2 F1 G1 (KX.tr hK hK1 rfl rfl)
theorem cw_X4_kindWord {fu : Nat} (x1 : Int32) (F : PF) (G : PG) : PP (cf_X4_kindWord fu x1 F G) (fun _ F' G' => KX [9, 11, 12, 13, 14] [] F G F' G') := by
  unfold cf_X4_kindWord
  unfold cb_X4_kindWord_0
  refine PP.ite (fun c_1 => ?_) (fun c_1 => ?_)
  · skip
    exact cwj_X4_kindWord_28 (F 11) F G KX.rf
  · skip
    unfold cb_X4_kindWord_13
    refine PP.ite (fun c_2 => ?_) (fun c_2 => ?_)
    · skip
      unfold cb_X4_kindWord_17
      refine PP.ite (fun c_3 => ?_) (fun c_3 => ?_)
      · skip
        exact cwj_X4_kindWord_28 (F 11) F G KX.rf
      · skip
        unfold cb_X4_kindWord_22
        refine PP.ite (fun c_4 => ?_) (fun c_4 => ?_)
        · skip
          exact cwj_X4_kindWord_28 (F 11) F G KX.rf
        · skip
          exact cwj_X4_kindWord_38 (F 11) F G KX.rf
    · skip
      exact cwj_X4_kindWord_38 (F 11) F G KX.rf
theorem cwj_X4_walk_299 {fu : Nat} {F0 : PF} {G0 : PG} (z0 : Int32) (F : PF) (G : PG) (hK : KX [6, 7, 9, 10, 11, 12, 13, 14, 21, 28, 29, 30, 31, 41, 42, 43, 44, 45, 46, 47, 48, 49, 50, 56, 57, 74, 75, 76, 85, 300] [5, 20, 33, 34, 35, 36, 37, 38, 39, 40, 55, 77, 78, 79, 80, 81, 82, 83, 84, 86] F0 G0 F G) : PP (cb_X4_walk_299 fu z0 F G) (fun _ F' G' => KX [6, 7, 9, 10, 11, 12, 13, 14, 21, 28, 29, 30, 31, 41, 42, 43, 44, 45, 46, 47, 48, 49, 50, 56, 57, 74, 75, 76, 85, 300] [5, 20, 33, 34, 35, 36, 37, 38, 39, 40, 55, 77, 78, 79, 80, 81, 82, 83, 84, 86] F0 G0 F' G') := by
  unfold cb_X4_walk_299
  refine PP.ret ?_
  exact hK
theorem cwj_X4_walk_278 {fu : Nat} {F0 : PF} {G0 : PG} (x1 : Int32) (F : PF) (G : PG) (hK : KX [6, 7, 9, 10, 11, 12, 13, 14, 21, 28, 29, 30, 31, 41, 42, 43, 44, 45, 46, 47, 48, 49, 50, 56, 57, 74, 75, 76, 85, 300] [5, 20, 33, 34, 35, 36, 37, 38, 39, 40, 55, 77, 78, 79, 80, 81, 82, 83, 84, 86] F0 G0 F G) : PP (cb_X4_walk_278 fu x1 F G) (fun _ F' G' => KX [6, 7, 9, 10, 11, 12, 13, 14, 21, 28, 29, 30, 31, 41, 42, 43, 44, 45, 46, 47, 48, 49, 50, 56, 57, 74, 75, 76, 85, 300] [5, 20, 33, 34, 35, 36, 37, 38, 39, 40, 55, 77, 78, 79, 80, 81, 82, 83, 84, 86] F0 G0 F' G') := by
  unfold cb_X4_walk_278
  refine PP.ite (fun c_1 => ?_) (fun c_1 => ?_)
  · skip
    unfold cb_X4_walk_292
    exact cwj_X4_walk_299 (F 14) F G hK
  · skip
    unfold cb_X4_walk_282
    refine PP.bind (cw_X5_fault F G) ?_
    intro r2 F2 G2 hK2
    dsimp only
    unfold cb_X4_walk_289
    exact cwj_X4_walk_299 r2 F2 G2 (KX.tr hK hK2 rfl rfl)
theorem cwj_X4_walk_251 {fu : Nat} {F0 : PF} {G0 : PG} (x1 : Int32) (F : PF) (G : PG) (hK : KX [6, 7, 9, 10, 11, 12, 13, 14, 21, 28, 29, 30, 31, 41, 42, 43, 44, 45, 46, 47, 48, 49, 50, 56, 57, 74, 75, 76, 85, 300] [5, 20, 33, 34, 35, 36, 37, 38, 39, 40, 55, 77, 78, 79, 80, 81, 82, 83, 84, 86] F0 G0 F G) : PP (cb_X4_walk_251 fu x1 F G) (fun _ F' G' => KX [6, 7, 9, 10, 11, 12, 13, 14, 21, 28, 29, 30, 31, 41, 42, 43, 44, 45, 46, 47, 48, 49, 50, 56, 57, 74, 75, 76, 85, 300] [5, 20, 33, 34, 35, 36, 37, 38, 39, 40, 55, 77, 78, 79, 80, 81, 82, 83, 84, 86] F0 G0 F' G') := by
  unfold cb_X4_walk_251
  refine PP.ite (fun c_1 => ?_) (fun c_1 => ?_)
  · skip
    unfold cb_X4_walk_262
    refine PP.bind (cw_X5_note (9 : Int32) (F 13) F G) ?_
    intro r2 F2 G2 hK2
    dsimp only
    exact cwj_X4_walk_278 x1 F2 G2 (KX.tr hK hK2 rfl rfl)
  · skip
    exact cwj_X4_walk_278 x1 F G hK
theorem cwj_X4_walk_245 {fu : Nat} {F0 : PF} {G0 : PG} (ag_7 : Int32 → Int32 → PF → PG → PR) (hag_7 : ∀ (x1 : Int32) (x2 : Int32) (F : PF) (G : PG) (hK : KX [6, 7, 9, 10, 11, 12, 13, 14, 21, 28, 29, 30, 31, 41, 42, 43, 44, 45, 46, 47, 48, 49, 50, 56, 57, 74, 75, 76, 85, 300] [5, 20, 33, 34, 35, 36, 37, 38, 39, 40, 55, 77, 78, 79, 80, 81, 82, 83, 84, 86] F0 G0 F G), PP (ag_7 x1 x2 F G) (fun _ F' G' => KX [6, 7, 9, 10, 11, 12, 13, 14, 21, 28, 29, 30, 31, 41, 42, 43, 44, 45, 46, 47, 48, 49, 50, 56, 57, 74, 75, 76, 85, 300] [5, 20, 33, 34, 35, 36, 37, 38, 39, 40, 55, 77, 78, 79, 80, 81, 82, 83, 84, 86] F0 G0 F' G')) (x1 : Int32) (x2 : Int32) (F : PF) (G : PG) (hK : KX [6, 7, 9, 10, 11, 12, 13, 14, 21, 28, 29, 30, 31, 41, 42, 43, 44, 45, 46, 47, 48, 49, 50, 56, 57, 74, 75, 76, 85, 300] [5, 20, 33, 34, 35, 36, 37, 38, 39, 40, 55, 77, 78, 79, 80, 81, 82, 83, 84, 86] F0 G0 F G) : PP (cb_X4_walk_245 fu ag_7 x1 x2 F G) (fun _ F' G' => KX [6, 7, 9, 10, 11, 12, 13, 14, 21, 28, 29, 30, 31, 41, 42, 43, 44, 45, 46, 47, 48, 49, 50, 56, 57, 74, 75, 76, 85, 300] [5, 20, 33, 34, 35, 36, 37, 38, 39, 40, 55, 77, 78, 79, 80, 81, 82, 83, 84, 86] F0 G0 F' G') := by
  unfold cb_X4_walk_245
  exact hag_7 x1 (x2 + (1 : Int32)) F G hK
theorem cwj_X4_walk_220 {fu : Nat} {F0 : PF} {G0 : PG} (ag_7 : Int32 → Int32 → PF → PG → PR) (hag_7 : ∀ (x1 : Int32) (x2 : Int32) (F : PF) (G : PG) (hK : KX [6, 7, 9, 10, 11, 12, 13, 14, 21, 28, 29, 30, 31, 41, 42, 43, 44, 45, 46, 47, 48, 49, 50, 56, 57, 74, 75, 76, 85, 300] [5, 20, 33, 34, 35, 36, 37, 38, 39, 40, 55, 77, 78, 79, 80, 81, 82, 83, 84, 86] F0 G0 F G), PP (ag_7 x1 x2 F G) (fun _ F' G' => KX [6, 7, 9, 10, 11, 12, 13, 14, 21, 28, 29, 30, 31, 41, 42, 43, 44, 45, 46, 47, 48, 49, 50, 56, 57, 74, 75, 76, 85, 300] [5, 20, 33, 34, 35, 36, 37, 38, 39, 40, 55, 77, 78, 79, 80, 81, 82, 83, 84, 86] F0 G0 F' G')) (x1 : Int32) (x2 : Int32) (x4 : Int32) (x5 : Int32) (x6 : Int32) (F : PF) (G : PG) (hK : KX [6, 7, 9, 10, 11, 12, 13, 14, 21, 28, 29, 30, 31, 41, 42, 43, 44, 45, 46, 47, 48, 49, 50, 56, 57, 74, 75, 76, 85, 300] [5, 20, 33, 34, 35, 36, 37, 38, 39, 40, 55, 77, 78, 79, 80, 81, 82, 83, 84, 86] F0 G0 F G) : PP (cb_X4_walk_220 fu ag_7 x1 x2 x4 x5 x6 F G) (fun _ F' G' => KX [6, 7, 9, 10, 11, 12, 13, 14, 21, 28, 29, 30, 31, 41, 42, 43, 44, 45, 46, 47, 48, 49, 50, 56, 57, 74, 75, 76, 85, 300] [5, 20, 33, 34, 35, 36, 37, 38, 39, 40, 55, 77, 78, 79, 80, 81, 82, 83, 84, 86] F0 G0 F' G') := by
  unfold cb_X4_walk_220
  refine PP.ite (fun c_1 => ?_) (fun c_1 => ?_)
  · skip
    unfold cb_X4_walk_226
    refine PP.bind (cw_X4_globalInt x5 x6 F G) ?_
    intro r2 F2 G2 hK2
    dsimp only
    unfold cb_X4_walk_234
    exact cwj_X4_walk_245 ag_7 hag_7 x1 x2 F2 G2 (KX.tr hK hK2 rfl rfl)
  · skip
    unfold cb_X4_walk_237
    refine PP.bind (cw_X2_fail (2 : Int32) F G) ?_
    intro r3 F3 G3 hK3
    dsimp only
    exact cwj_X4_walk_245 ag_7 hag_7 x1 x2 F3 G3 (KX.tr hK hK3 rfl rfl)
theorem cwj_X4_walk_214 {fu : Nat} {F0 : PF} {G0 : PG} (ag_7 : Int32 → Int32 → PF → PG → PR) (hag_7 : ∀ (x1 : Int32) (x2 : Int32) (F : PF) (G : PG) (hK : KX [6, 7, 9, 10, 11, 12, 13, 14, 21, 28, 29, 30, 31, 41, 42, 43, 44, 45, 46, 47, 48, 49, 50, 56, 57, 74, 75, 76, 85, 300] [5, 20, 33, 34, 35, 36, 37, 38, 39, 40, 55, 77, 78, 79, 80, 81, 82, 83, 84, 86] F0 G0 F G), PP (ag_7 x1 x2 F G) (fun _ F' G' => KX [6, 7, 9, 10, 11, 12, 13, 14, 21, 28, 29, 30, 31, 41, 42, 43, 44, 45, 46, 47, 48, 49, 50, 56, 57, 74, 75, 76, 85, 300] [5, 20, 33, 34, 35, 36, 37, 38, 39, 40, 55, 77, 78, 79, 80, 81, 82, 83, 84, 86] F0 G0 F' G')) (x1 : Int32) (x2 : Int32) (z0 : Int32) (z1 : Int32) (z2 : Int32) (F : PF) (G : PG) (hK : KX [6, 7, 9, 10, 11, 12, 13, 14, 21, 28, 29, 30, 31, 41, 42, 43, 44, 45, 46, 47, 48, 49, 50, 56, 57, 74, 75, 76, 85, 300] [5, 20, 33, 34, 35, 36, 37, 38, 39, 40, 55, 77, 78, 79, 80, 81, 82, 83, 84, 86] F0 G0 F G) : PP (cb_X4_walk_214 fu ag_7 x1 x2 z0 z1 z2 F G) (fun _ F' G' => KX [6, 7, 9, 10, 11, 12, 13, 14, 21, 28, 29, 30, 31, 41, 42, 43, 44, 45, 46, 47, 48, 49, 50, 56, 57, 74, 75, 76, 85, 300] [5, 20, 33, 34, 35, 36, 37, 38, 39, 40, 55, 77, 78, 79, 80, 81, 82, 83, 84, 86] F0 G0 F' G') := by
  unfold cb_X4_walk_214
  refine PP.bind (cw_X4_globalArray z2 z1 z0 F G) ?_
  intro r1 F1 G1 hK1
  dsimp only
  unfold cb_X4_walk_217
  exact cwj_X4_walk_245 ag_7 hag_7 x1 x2 F1 G1 (KX.tr hK hK1 rfl rfl)
theorem cwj_X4_walk_179 {fu : Nat} {F0 : PF} {G0 : PG} (ag_7 : Int32 → Int32 → PF → PG → PR) (hag_7 : ∀ (x1 : Int32) (x2 : Int32) (F : PF) (G : PG) (hK : KX [6, 7, 9, 10, 11, 12, 13, 14, 21, 28, 29, 30, 31, 41, 42, 43, 44, 45, 46, 47, 48, 49, 50, 56, 57, 74, 75, 76, 85, 300] [5, 20, 33, 34, 35, 36, 37, 38, 39, 40, 55, 77, 78, 79, 80, 81, 82, 83, 84, 86] F0 G0 F G), PP (ag_7 x1 x2 F G) (fun _ F' G' => KX [6, 7, 9, 10, 11, 12, 13, 14, 21, 28, 29, 30, 31, 41, 42, 43, 44, 45, 46, 47, 48, 49, 50, 56, 57, 74, 75, 76, 85, 300] [5, 20, 33, 34, 35, 36, 37, 38, 39, 40, 55, 77, 78, 79, 80, 81, 82, 83, 84, 86] F0 G0 F' G')) (x1 : Int32) (x2 : Int32) (x4 : Int32) (x5 : Int32) (x6 : Int32) (F : PF) (G : PG) (hK : KX [6, 7, 9, 10, 11, 12, 13, 14, 21, 28, 29, 30, 31, 41, 42, 43, 44, 45, 46, 47, 48, 49, 50, 56, 57, 74, 75, 76, 85, 300] [5, 20, 33, 34, 35, 36, 37, 38, 39, 40, 55, 77, 78, 79, 80, 81, 82, 83, 84, 86] F0 G0 F G) : PP (cb_X4_walk_179 fu ag_7 x1 x2 x4 x5 x6 F G) (fun _ F' G' => KX [6, 7, 9, 10, 11, 12, 13, 14, 21, 28, 29, 30, 31, 41, 42, 43, 44, 45, 46, 47, 48, 49, 50, 56, 57, 74, 75, 76, 85, 300] [5, 20, 33, 34, 35, 36, 37, 38, 39, 40, 55, 77, 78, 79, 80, 81, 82, 83, 84, 86] F0 G0 F' G') := by
  unfold cb_X4_walk_179
  refine PP.ite (fun c_1 => ?_) (fun c_1 => ?_)
  · skip
    unfold cb_X4_walk_191
    refine PP.ite (fun c_2 => ?_) (fun c_2 => ?_)
    · skip
      exact cwj_X4_walk_220 ag_7 hag_7 x1 x2 x4 x5 x6 F G hK
    · skip
      unfold cb_X4_walk_198
      refine PP.ite (fun c_3 => ?_) (fun c_3 => ?_)
      · skip
        unfold cb_X4_walk_209
        exact cwj_X4_walk_214 ag_7 hag_7 x1 x2 (2 : Int32) x6 x5 F G hK
      · skip
        unfold cb_X4_walk_213
        exact cwj_X4_walk_214 ag_7 hag_7 x1 x2 (3 : Int32) x6 x5 F G hK
  · skip
    exact cwj_X4_walk_220 ag_7 hag_7 x1 x2 x4 x5 x6 F G hK
theorem cwj_X4_walk_165 {fu : Nat} {F0 : PF} {G0 : PG} (ag_7 : Int32 → Int32 → PF → PG → PR) (hag_7 : ∀ (x1 : Int32) (x2 : Int32) (F : PF) (G : PG) (hK : KX [6, 7, 9, 10, 11, 12, 13, 14, 21, 28, 29, 30, 31, 41, 42, 43, 44, 45, 46, 47, 48, 49, 50, 56, 57, 74, 75, 76, 85, 300] [5, 20, 33, 34, 35, 36, 37, 38, 39, 40, 55, 77, 78, 79, 80, 81, 82, 83, 84, 86] F0 G0 F G), PP (ag_7 x1 x2 F G) (fun _ F' G' => KX [6, 7, 9, 10, 11, 12, 13, 14, 21, 28, 29, 30, 31, 41, 42, 43, 44, 45, 46, 47, 48, 49, 50, 56, 57, 74, 75, 76, 85, 300] [5, 20, 33, 34, 35, 36, 37, 38, 39, 40, 55, 77, 78, 79, 80, 81, 82, 83, 84, 86] F0 G0 F' G')) (x1 : Int32) (x2 : Int32) (z0 : Int32) (F : PF) (G : PG) (hK : KX [6, 7, 9, 10, 11, 12, 13, 14, 21, 28, 29, 30, 31, 41, 42, 43, 44, 45, 46, 47, 48, 49, 50, 56, 57, 74, 75, 76, 85, 300] [5, 20, 33, 34, 35, 36, 37, 38, 39, 40, 55, 77, 78, 79, 80, 81, 82, 83, 84, 86] F0 G0 F G) : PP (cb_X4_walk_165 fu ag_7 x1 x2 z0 F G) (fun _ F' G' => KX [6, 7, 9, 10, 11, 12, 13, 14, 21, 28, 29, 30, 31, 41, 42, 43, 44, 45, 46, 47, 48, 49, 50, 56, 57, 74, 75, 76, 85, 300] [5, 20, 33, 34, 35, 36, 37, 38, 39, 40, 55, 77, 78, 79, 80, 81, 82, 83, 84, 86] F0 G0 F' G') := by
  unfold cb_X4_walk_165
  refine PP.bind (cw_X4_formals z0 F G) ?_
  intro r1 F1 G1 hK1
  dsimp only
  unfold cb_X4_walk_168
  refine PP.bind (cw_X4_block F1 G1) ?_
  intro r2 F2 G2 hK2
  dsimp only
  unfold cb_X4_walk_172
  refine PP.bind (cw_X4_endFunction F2 G2) ?_
  intro r3 F3 G3 hK3
  dsimp only
  unfold cb_X4_walk_176
  exact cwj_X4_walk_245 ag_7 hag_7 x1 x2 F3 G3 (KX.tr (KX.tr (KX.tr hK hK1 rfl rfl) hK2 rfl rfl) hK3 rfl rfl)
theorem cwj_X4_walk_147 {fu : Nat} {F0 : PF} {G0 : PG} (ag_7 : Int32 → Int32 → PF → PG → PR) (hag_7 : ∀ (x1 : Int32) (x2 : Int32) (F : PF) (G : PG) (hK : KX [6, 7, 9, 10, 11, 12, 13, 14, 21, 28, 29, 30, 31, 41, 42, 43, 44, 45, 46, 47, 48, 49, 50, 56, 57, 74, 75, 76, 85, 300] [5, 20, 33, 34, 35, 36, 37, 38, 39, 40, 55, 77, 78, 79, 80, 81, 82, 83, 84, 86] F0 G0 F G), PP (ag_7 x1 x2 F G) (fun _ F' G' => KX [6, 7, 9, 10, 11, 12, 13, 14, 21, 28, 29, 30, 31, 41, 42, 43, 44, 45, 46, 47, 48, 49, 50, 56, 57, 74, 75, 76, 85, 300] [5, 20, 33, 34, 35, 36, 37, 38, 39, 40, 55, 77, 78, 79, 80, 81, 82, 83, 84, 86] F0 G0 F' G')) (x1 : Int32) (x2 : Int32) (x5 : Int32) (z0 : Int32) (z1 : Int32) (z2 : Int32) (F : PF) (G : PG) (hK : KX [6, 7, 9, 10, 11, 12, 13, 14, 21, 28, 29, 30, 31, 41, 42, 43, 44, 45, 46, 47, 48, 49, 50, 56, 57, 74, 75, 76, 85, 300] [5, 20, 33, 34, 35, 36, 37, 38, 39, 40, 55, 77, 78, 79, 80, 81, 82, 83, 84, 86] F0 G0 F G) : PP (cb_X4_walk_147 fu ag_7 x1 x2 x5 z0 z1 z2 F G) (fun _ F' G' => KX [6, 7, 9, 10, 11, 12, 13, 14, 21, 28, 29, 30, 31, 41, 42, 43, 44, 45, 46, 47, 48, 49, 50, 56, 57, 74, 75, 76, 85, 300] [5, 20, 33, 34, 35, 36, 37, 38, 39, 40, 55, 77, 78, 79, 80, 81, 82, 83, 84, 86] F0 G0 F' G') := by
  unfold cb_X4_walk_147
  refine PP.bind (cw_X4_startFunction z2 z1 z0 F G) ?_
  intro r1 F1 G1 hK1
  dsimp only
  unfold cb_X4_walk_150
  refine PP.ite (fun c_2 => ?_) (fun c_2 => ?_)
  · skip
    unfold cb_X4_walk_160
    exact cwj_X4_walk_165 ag_7 hag_7 x1 x2 (1 : Int32) F1 G1 (KX.tr hK hK1 rfl rfl)
  · skip
    unfold cb_X4_walk_164
    exact cwj_X4_walk_165 ag_7 hag_7 x1 x2 (0 : Int32) F1 G1 (KX.tr hK hK1 rfl rfl)
theorem cwj_X4_walk_65 {fu : Nat} {F0 : PF} {G0 : PG} (ag_7 : Int32 → Int32 → PF → PG → PR) (hag_7 : ∀ (x1 : Int32) (x2 : Int32) (F : PF) (G : PG) (hK : KX [6, 7, 9, 10, 11, 12, 13, 14, 21, 28, 29, 30, 31, 41, 42, 43, 44, 45, 46, 47, 48, 49, 50, 56, 57, 74, 75, 76, 85, 300] [5, 20, 33, 34, 35, 36, 37, 38, 39, 40, 55, 77, 78, 79, 80, 81, 82, 83, 84, 86] F0 G0 F G), PP (ag_7 x1 x2 F G) (fun _ F' G' => KX [6, 7, 9, 10, 11, 12, 13, 14, 21, 28, 29, 30, 31, 41, 42, 43, 44, 45, 46, 47, 48, 49, 50, 56, 57, 74, 75, 76, 85, 300] [5, 20, 33, 34, 35, 36, 37, 38, 39, 40, 55, 77, 78, 79, 80, 81, 82, 83, 84, 86] F0 G0 F' G')) (x1 : Int32) (x2 : Int32) (x3 : Int32) (F : PF) (G : PG) (hK : KX [6, 7, 9, 10, 11, 12, 13, 14, 21, 28, 29, 30, 31, 41, 42, 43, 44, 45, 46, 47, 48, 49, 50, 56, 57, 74, 75, 76, 85, 300] [5, 20, 33, 34, 35, 36, 37, 38, 39, 40, 55, 77, 78, 79, 80, 81, 82, 83, 84, 86] F0 G0 F G) : PP (cb_X4_walk_65 fu ag_7 x1 x2 x3 F G) (fun _ F' G' => KX [6, 7, 9, 10, 11, 12, 13, 14, 21, 28, 29, 30, 31, 41, 42, 43, 44, 45, 46, 47, 48, 49, 50, 56, 57, 74, 75, 76, 85, 300] [5, 20, 33, 34, 35, 36, 37, 38, 39, 40, 55, 77, 78, 79, 80, 81, 82, 83, 84, 86] F0 G0 F' G') := by
  unfold cb_X4_walk_65
  refine PP.bind (cw_X4_kindWord x3 F G) ?_
  intro r1 F1 G1 hK1
  dsimp only
  unfold cb_X4_walk_70
  refine PP.bind (cw_X2_expect (2 : Int32) F1 G1) ?_
  intro r2 F2 G2 hK2
  dsimp only
  unfold cb_X4_walk_98
  refine PP.ite (fun c_3 => ?_) (fun c_3 => ?_)
  · skip
    unfold cb_X4_walk_113
    refine PP.ite (fun c_4 => ?_) (fun c_4 => ?_)
    · skip
      unfold cb_X4_walk_125
      refine PP.ite (fun c_5 => ?_) (fun c_5 => ?_)
      · skip
        exact cwj_X4_walk_179 ag_7 hag_7 x1 x2 r1 (F1 12) (F1 13) F2 G2 (KX.tr (KX.tr hK hK1 rfl rfl) hK2 rfl rfl)
      · skip
        unfold cb_X4_walk_131
        refine PP.ite (fun c_6 => ?_) (fun c_6 => ?_)
        · skip
          unfold cb_X4_walk_142
          exact cwj_X4_walk_147 ag_7 hag_7 x1 x2 (F1 12) (1 : Int32) (F1 13) (F1 12) F2 G2 (KX.tr (KX.tr hK hK1 rfl rfl) hK2 rfl rfl)
        · skip
          unfold cb_X4_walk_146
          exact cwj_X4_walk_147 ag_7 hag_7 x1 x2 (F1 12) (0 : Int32) (F1 13) (F1 12) F2 G2 (KX.tr (KX.tr hK hK1 rfl rfl) hK2 rfl rfl)
    · skip
      exact cwj_X4_walk_179 ag_7 hag_7 x1 x2 r1 (F1 12) (F1 13) F2 G2 (KX.tr (KX.tr hK hK1 rfl rfl) hK2 rfl rfl)
  · skip
    unfold cb_X4_walk_102
    refine PP.bind (cw_X4_constTold (F1 12) (F1 13) F2 G2) ?_
    intro r7 F7 G7 hK7
    dsimp only
    unfold cb_X4_walk_110
    exact cwj_X4_walk_245 ag_7 hag_7 x1 x2 F7 G7 (KX.tr (KX.tr (KX.tr hK hK1 rfl rfl) hK2 rfl rfl) hK7 rfl rfl)
theorem cwj_X4_walk_53 {fu : Nat} {F0 : PF} {G0 : PG} (ag_7 : Int32 → Int32 → PF → PG → PR) (hag_7 : ∀ (x1 : Int32) (x2 : Int32) (F : PF) (G : PG) (hK : KX [6, 7, 9, 10, 11, 12, 13, 14, 21, 28, 29, 30, 31, 41, 42, 43, 44, 45, 46, 47, 48, 49, 50, 56, 57, 74, 75, 76, 85, 300] [5, 20, 33, 34, 35, 36, 37, 38, 39, 40, 55, 77, 78, 79, 80, 81, 82, 83, 84, 86] F0 G0 F G), PP (ag_7 x1 x2 F G) (fun _ F' G' => KX [6, 7, 9, 10, 11, 12, 13, 14, 21, 28, 29, 30, 31, 41, 42, 43, 44, 45, 46, 47, 48, 49, 50, 56, 57, 74, 75, 76, 85, 300] [5, 20, 33, 34, 35, 36, 37, 38, 39, 40, 55, 77, 78, 79, 80, 81, 82, 83, 84, 86] F0 G0 F' G')) (x1 : Int32) (x2 : Int32) (z0 : Int32) (F : PF) (G : PG) (hK : KX [6, 7, 9, 10, 11, 12, 13, 14, 21, 28, 29, 30, 31, 41, 42, 43, 44, 45, 46, 47, 48, 49, 50, 56, 57, 74, 75, 76, 85, 300] [5, 20, 33, 34, 35, 36, 37, 38, 39, 40, 55, 77, 78, 79, 80, 81, 82, 83, 84, 86] F0 G0 F G) : PP (cb_X4_walk_53 fu ag_7 x1 x2 z0 F G) (fun _ F' G' => KX [6, 7, 9, 10, 11, 12, 13, 14, 21, 28, 29, 30, 31, 41, 42, 43, 44, 45, 46, 47, 48, 49, 50, 56, 57, 74, 75, 76, 85, 300] [5, 20, 33, 34, 35, 36, 37, 38, 39, 40, 55, 77, 78, 79, 80, 81, 82, 83, 84, 86] F0 G0 F' G') := by
  unfold cb_X4_walk_53
  refine PP.ite (fun c_1 => ?_) (fun c_1 => ?_)
  · skip
    exact cwj_X4_walk_65 ag_7 hag_7 x1 x2 z0 F G hK
  · skip
    unfold cb_X4_walk_58
    refine PP.bind (cw_X2_next F G) ?_
    intro r2 F2 G2 hK2
    dsimp only
    exact cwj_X4_walk_65 ag_7 hag_7 x1 x2 z0 F2 G2 (KX.tr hK hK2 rfl rfl)
theorem cwz_X4_walk_7 {fu : Nat} {F0 : PF} {G0 : PG} : ∀ (n : Nat) (x1 : Int32) (x2 : Int32) (F : PF) (G : PG) (hK : KX [6, 7, 9, 10, 11, 12, 13, 14, 21, 28, 29, 30, 31, 41, 42, 43, 44, 45, 46, 47, 48, 49, 50, 56, 57, 74, 75, 76, 85, 300] [5, 20, 33, 34, 35, 36, 37, 38, 39, 40, 55, 77, 78, 79, 80, 81, 82, 83, 84, 86] F0 G0 F G), PP (cl_X4_walk_7 fu n x1 x2 F G) (fun _ F' G' => KX [6, 7, 9, 10, 11, 12, 13, 14, 21, 28, 29, 30, 31, 41, 42, 43, 44, 45, 46, 47, 48, 49, 50, 56, 57, 74, 75, 76, 85, 300] [5, 20, 33, 34, 35, 36, 37, 38, 39, 40, 55, 77, 78, 79, 80, 81, 82, 83, 84, 86] F0 G0 F' G') := by
  intro n
  induction n with
  | zero =>
    intro x1 x2 F G hK
    exact PP.no
  | succ n ihn =>
    intro x1 x2 F G hK
    show PP (cb_X4_walk_7 fu (cl_X4_walk_7 fu n) x1 x2 F G) _
    unfold cb_X4_walk_7
    refine PP.ite (fun c_1 => ?_) (fun c_1 => ?_)
    · skip
      exact cwj_X4_walk_251 x1 F G hK
    · skip
      unfold cb_X4_walk_14
      refine PP.ite (fun c_2 => ?_) (fun c_2 => ?_)
      · skip
        exact cwj_X4_walk_251 x1 F G hK
      · skip
        unfold cb_X4_walk_24
        refine PP.ite (fun c_3 => ?_) (fun c_3 => ?_)
        · skip
          exact cwj_X4_walk_251 x1 F G hK
        · skip
          unfold cb_X4_walk_36
          refine PP.ite (fun c_4 => ?_) (fun c_4 => ?_)
          · skip
            unfold cb_X4_walk_48
            exact cwj_X4_walk_53 (cl_X4_walk_7 fu n) ihn x1 x2 (1 : Int32) F G hK
          · skip
            unfold cb_X4_walk_52
            exact cwj_X4_walk_53 (cl_X4_walk_7 fu n) ihn x1 x2 (0 : Int32) F G hK
theorem cw_X4_walk {fu : Nat} (x1 : Int32) (F : PF) (G : PG) : PP (cf_X4_walk fu x1 F G) (fun _ F' G' => KX [6, 7, 9, 10, 11, 12, 13, 14, 21, 28, 29, 30, 31, 41, 42, 43, 44, 45, 46, 47, 48, 49, 50, 56, 57, 74, 75, 76, 85, 300] [5, 20, 33, 34, 35, 36, 37, 38, 39, 40, 55, 77, 78, 79, 80, 81, 82, 83, 84, 86] F G F' G') := by
  unfold cf_X4_walk
  unfold cb_X4_walk_0
  refine PP.bind (cw_X4_start x1 F G) ?_
  intro r1 F1 G1 hK1
  dsimp only
  unfold cb_X4_walk_5
  exact cwz_X4_walk_7 fu x1 (0 : Int32) F1 G1 (KX.tr KX.rf hK1 rfl rfl)
theorem cw_X6_forget {fu : Nat} (F : PF) (G : PG) : PP (cf_X6_forget fu F G) (fun _ F' G' => KX [56, 59, 60, 63, 64, 65, 66, 67] [] F G F' G') := by
  unfold cf_X6_forget
  unfold cb_X6_forget_0
  unfold cb_X6_forget_5
  unfold cb_X6_forget_10
  unfold cb_X6_forget_15
  unfold cb_X6_forget_20
  unfold cb_X6_forget_25
  unfold cb_X6_forget_30
  unfold cb_X6_forget_37
  unfold cb_X6_forget_42
  refine PP.ret ?_
  exact (KX.f (k := 60) rfl (KX.f (k := 59) rfl (KX.f (k := 56) rfl (KX.f (k := 67) rfl (KX.f (k := 66) rfl (KX.f (k := 65) rfl (KX.f (k := 64) rfl (KX.f (k := 63) rfl KX.rf))))))))
theorem cw_X6_startAnew {fu : Nat} (x1 : Int32) (F : PF) (G : PG) : PP (cf_X6_startAnew fu x1 F G) (fun _ F' G' => KX [56, 59, 60, 63, 64, 65, 66, 67] [54] F G F' G') := by
  unfold cf_X6_startAnew
  unfold cb_X6_startAnew_0
  refine PP.bind (cw_X6_forget F G) ?_
  intro r1 F1 G1 hK1
  dsimp only
  unfold cb_X6_startAnew_4
  unfold cb_X6_startAnew_9
  unfold cb_X6_startAnew_14
  unfold cb_X6_startAnew_33
  refine PP.ret ?_
  exact (KX.gc (k := 54) rfl (KX.f (k := 67) rfl (KX.f (k := 63) rfl (KX.tr KX.rf hK1 rfl rfl))))
theorem cw_X6_depth {fu : Nat} (F : PF) (G : PG) : PP (cf_X6_depth fu F G) (fun _ F' G' => KX [] [] F G F' G') := by
  unfold cf_X6_depth
  unfold cb_X6_depth_0
  refine PP.ret ?_
  exact KX.rf
theorem cwj_X6_held_21 {fu : Nat} {F0 : PF} {G0 : PG} (z0 : Int32) (F : PF) (G : PG) (hK : KX [] [] F0 G0 F G) : PP (cb_X6_held_21 fu z0 F G) (fun _ F' G' => KX [] [] F0 G0 F' G') := by
  unfold cb_X6_held_21
  refine PP.ret ?_
  exact hK
theorem cwj_X6_held_11 {fu : Nat} {F0 : PF} {G0 : PG} (F : PF) (G : PG) (hK : KX [] [] F0 G0 F G) : PP (cb_X6_held_11 fu F G) (fun _ F' G' => KX [] [] F0 G0 F' G') := by
  unfold cb_X6_held_11
  exact cwj_X6_held_21 (0 : Int32) F G hK
theorem cw_X6_held {fu : Nat} (x1 : Int32) (F : PF) (G : PG) : PP (cf_X6_held fu x1 F G) (fun _ F' G' => KX [] [] F G F' G') := by
  unfold cf_X6_held
  unfold cb_X6_held_0
  refine PP.ite (fun c_1 => ?_) (fun c_1 => ?_)
  · skip
    exact cwj_X6_held_11 F G KX.rf
  · skip
    unfold cb_X6_held_4
    refine PP.ite (fun c_2 => ?_) (fun c_2 => ?_)
    · skip
      unfold cb_X6_held_15
      refine PP.ix (fun _ => ?_)
      exact cwj_X6_held_21 (G 54 x1.toNatClampNeg) F G KX.rf
    · skip
      exact cwj_X6_held_11 F G KX.rf
theorem cwj_X6_hold_18 {fu : Nat} {F0 : PF} {G0 : PG} (F : PF) (G : PG) (hK : KX [] [54] F0 G0 F G) : PP (cb_X6_hold_18 fu F G) (fun _ F' G' => KX [] [54] F0 G0 F' G') := by
  unfold cb_X6_hold_18
  refine PP.ret ?_
  exact hK
theorem cw_X6_hold {fu : Nat} (x1 : Int32) (x2 : Int32) (F : PF) (G : PG) : PP (cf_X6_hold fu x1 x2 F G) (fun _ F' G' => KX [] [54] F G F' G') := by
  unfold cf_X6_hold
  unfold cb_X6_hold_0
  refine PP.ite (fun c_1 => ?_) (fun c_1 => ?_)
  · skip
    exact cwj_X6_hold_18 F G KX.rf
  · skip
    unfold cb_X6_hold_4
    refine PP.ite (fun c_2 => ?_) (fun c_2 => ?_)
    · skip
      exact cwj_X6_hold_18 F G KX.rf
    · skip
      unfold cb_X6_hold_11
      refine PP.ix (fun _ => ?_)
      exact cwj_X6_hold_18 F (gup G 54 x1.toNatClampNeg x2) (KX.g (k := 54) rfl KX.rf)
theorem cw_X6_over {fu : Nat} (x1 : Int32) (F : PF) (G : PG) : PP (cf_X6_over fu x1 F G) (fun _ F' G' => KX [61, 63] [] F G F' G') := by
  unfold cf_X6_over
  unfold cb_X6_over_0
  unfold cb_X6_over_5
  unfold cb_X6_over_10
  refine PP.ret ?_
  exact (KX.f (k := 61) rfl (KX.f (k := 63) rfl KX.rf))
theorem cwj_X6_element_52 {fu : Nat} {F0 : PF} {G0 : PG} (F : PF) (G : PG) (hK : KX [56, 57, 61, 63, 66, 300] [55] F0 G0 F G) : PP (cb_X6_element_52 fu F G) (fun _ F' G' => KX [56, 57, 61, 63, 66, 300] [55] F0 G0 F' G') := by
  unfold cb_X6_element_52
  refine PP.ret ?_
  exact hK
theorem cwj_X6_element_28 {fu : Nat} {F0 : PF} {G0 : PG} (x4 : Int32) (F : PF) (G : PG) (hK : KX [56, 57, 61, 63, 66, 300] [55] F0 G0 F G) : PP (cb_X6_element_28 fu x4 F G) (fun _ F' G' => KX [56, 57, 61, 63, 66, 300] [55] F0 G0 F' G') := by
  unfold cb_X6_element_28
  unfold cb_X6_element_34
  refine PP.bind (cw_X6_over (5 : Int32) (fup F 66 x4) G) ?_
  intro r1 F1 G1 hK1
  dsimp only
  unfold cb_X6_element_39
  exact cwj_X6_element_52 F1 G1 (KX.tr (KX.f (k := 66) rfl hK) hK1 rfl rfl)
theorem cw_X6_element {fu : Nat} (x1 : Int32) (x2 : Int32) (F : PF) (G : PG) : PP (cf_X6_element fu x1 x2 F G) (fun _ F' G' => KX [56, 57, 61, 63, 66, 300] [55] F G F' G') := by
  unfold cf_X6_element
  unfold cb_X6_element_0
  refine PP.bind (cw_X6_next F G) ?_
  intro r1 F1 G1 hK1
  dsimp only
  unfold cb_X6_element_4
  refine PP.bind (cw_X6_next F1 G1) ?_
  intro r2 F2 G2 hK2
  dsimp only
  unfold cb_X6_element_9
  refine PP.bind (cw_X6_pop F2 G2) ?_
  intro r3 F3 G3 hK3
  dsimp only
  unfold cb_X6_element_15
  refine PP.ite (fun c_4 => ?_) (fun c_4 => ?_)
  · skip
    exact cwj_X6_element_28 r2 F3 G3 (KX.tr (KX.tr (KX.tr KX.rf hK1 rfl rfl) hK2 rfl rfl) hK3 rfl rfl)
  · skip
    unfold cb_X6_element_22
    refine PP.ite (fun c_5 => ?_) (fun c_5 => ?_)
    · skip
      unfold cb_X6_element_42
      refine PP.bind (cw_X6_push ((x1 <<< (r1 &&& 31)) + r3) F3 G3) ?_
      intro r6 F6 G6 hK6
      dsimp only
      exact cwj_X6_element_52 F6 G6 (KX.tr (KX.tr (KX.tr (KX.tr KX.rf hK1 rfl rfl) hK2 rfl rfl) hK3 rfl rfl) hK6 rfl rfl)
    · skip
      exact cwj_X6_element_28 r2 F3 G3 (KX.tr (KX.tr (KX.tr KX.rf hK1 rfl rfl) hK2 rfl rfl) hK3 rfl rfl)
theorem cw_X6_keepByte {fu : Nat} (x1 : Int32) (x2 : Int32) (F : PF) (G : PG) : PP (cf_X6_keepByte fu x1 x2 F G) (fun _ F' G' => KX [] [54] F G F' G') := by
  unfold cf_X6_keepByte
  unfold cb_X6_keepByte_0
  refine PP.bind (cw_X6_held (x1 >>> ((2 : Int32) &&& 31)) F G) ?_
  intro r1 F1 G1 hK1
  dsimp only
  unfold cb_X6_keepByte_19
  refine PP.bind (cw_X6_hold (x1 >>> ((2 : Int32) &&& 31)) ((r1 &&& (((255 : Int32) <<< (((x1 &&& (3 : Int32)) * (8 : Int32)) &&& 31)) ^^^ (-1 : Int32))) ||| (x2 <<< (((x1 &&& (3 : Int32)) * (8 : Int32)) &&& 31))) F1 G1) ?_
  intro r2 F2 G2 hK2
  dsimp only
  unfold cb_X6_keepByte_36
  refine PP.ret ?_
  exact (KX.tr (KX.tr KX.rf hK1 rfl rfl) hK2 rfl rfl)
theorem cwj_X6_pass_64 {fu : Nat} {F0 : PF} {G0 : PG} (F : PF) (G : PG) (hK : KX [56, 300] [55] F0 G0 F G) : PP (cb_X6_pass_64 fu F G) (fun _ F' G' => KX [56, 300] [55] F0 G0 F' G') := by
  unfold cb_X6_pass_64
  refine PP.ret ?_
  exact hK
theorem cwj_X6_pass_56 {fu : Nat} {F0 : PF} {G0 : PG} (x3 : Int32) (z0 : Int32) (F : PF) (G : PG) (hK : KX [56, 300] [55] F0 G0 F G) : PP (cb_X6_pass_56 fu x3 z0 F G) (fun _ F' G' => KX [56, 300] [55] F0 G0 F' G') := by
  unfold cb_X6_pass_56
  refine PP.bind (cw_X6_push z0 F G) ?_
  intro r1 F1 G1 hK1
  dsimp only
  unfold cb_X6_pass_59
  refine PP.bind (cw_X6_push x3 F1 G1) ?_
  intro r2 F2 G2 hK2
  dsimp only
  exact cwj_X6_pass_64 F2 G2 (KX.tr (KX.tr hK hK1 rfl rfl) hK2 rfl rfl)
theorem cw_X6_pass {fu : Nat} (x1 : Int32) (x2 : Int32) (x3 : Int32) (F : PF) (G : PG) : PP (cf_X6_pass fu x1 x2 x3 F G) (fun _ F' G' => KX [56, 300] [55] F G F' G') := by
  unfold cf_X6_pass
  unfold cb_X6_pass_0
  refine PP.ite (fun c_1 => ?_) (fun c_1 => ?_)
  · skip
    unfold cb_X6_pass_6
    refine PP.bind (cw_X6_held ((F 58) + x2) F G) ?_
    intro r2 F2 G2 hK2
    dsimp only
    unfold cb_X6_pass_17
    refine PP.bind (cw_X6_push r2 F2 G2) ?_
    intro r3 F3 G3 hK3
    dsimp only
    unfold cb_X6_pass_20
    refine PP.bind (cw_X6_held (((F3 58) + x2) + (1 : Int32)) F3 G3) ?_
    intro r4 F4 G4 hK4
    dsimp only
    unfold cb_X6_pass_33
    refine PP.bind (cw_X6_push r4 F4 G4) ?_
    intro r5 F5 G5 hK5
    dsimp only
    unfold cb_X6_pass_36
    exact cwj_X6_pass_64 F5 G5 (KX.tr (KX.tr (KX.tr (KX.tr KX.rf hK2 rfl rfl) hK3 rfl rfl) hK4 rfl rfl) hK5 rfl rfl)
  · skip
    unfold cb_X6_pass_39
    refine PP.ite (fun c_6 => ?_) (fun c_6 => ?_)
    · skip
      unfold cb_X6_pass_46
      exact cwj_X6_pass_56 x3 x2 F G KX.rf
    · skip
      unfold cb_X6_pass_50
      exact cwj_X6_pass_56 x3 ((F 58) + x2) F G KX.rf
theorem cwj_X6_reach_213 {fu : Nat} {F0 : PF} {G0 : PG} (F : PF) (G : PG) (hK : KX [56, 57, 61, 63, 66, 300] [54, 55] F0 G0 F G) : PP (cb_X6_reach_213 fu F G) (fun _ F' G' => KX [56, 57, 61, 63, 66, 300] [54, 55] F0 G0 F' G') := by
  unfold cb_X6_reach_213
  refine PP.ret ?_
  exact hK
theorem cw_X6_reach {fu : Nat} (x1 : Int32) (F : PF) (G : PG) : PP (cf_X6_reach fu x1 F G) (fun _ F' G' => KX [56, 57, 61, 63, 66, 300] [54, 55] F G F' G') := by
  unfold cf_X6_reach
  unfold cb_X6_reach_0
  refine PP.ite (fun c_1 => ?_) (fun c_1 => ?_)
  · have e_2 : x1.toInt < 74 ∨ 80 < x1.toInt := c_1
    unfold cb_X6_reach_200
    refine PP.bind (cw_X6_next F G) ?_
    intro r3 F3 G3 hK3
    dsimp only
    unfold cb_X6_reach_206
    refine PP.bind (cw_X6_next F3 G3) ?_
    intro r4 F4 G4 hK4
    dsimp only
    unfold cb_X6_reach_210
    refine PP.bind (cw_X6_pass x1 r3 r4 F4 G4) ?_
    intro r5 F5 G5 hK5
    dsimp only
    exact cwj_X6_reach_213 F5 G5 (KX.tr (KX.tr (KX.tr KX.rf hK3 rfl rfl) hK4 rfl rfl) hK5 rfl rfl)
  have e_6 : ¬ (x1.toInt < 74 ∨ 80 < x1.toInt) := c_1
  refine PP.ite (fun c_7 => ?_) (fun c_7 => ?_)
  · skip
    unfold cb_X6_reach_44
    refine PP.bind (cw_X6_next F G) ?_
    intro r8 F8 G8 hK8
    dsimp only
    unfold cb_X6_reach_49
    refine PP.bind (cw_X6_next F8 G8) ?_
    intro r9 F9 G9 hK9
    dsimp only
    unfold cb_X6_reach_53
    refine PP.bind (cw_X6_element r8 r9 F9 G9) ?_
    intro r10 F10 G10 hK10
    dsimp only
    unfold cb_X6_reach_56
    exact cwj_X6_reach_213 F10 G10 (KX.tr (KX.tr (KX.tr KX.rf hK8 rfl rfl) hK9 rfl rfl) hK10 rfl rfl)
  refine PP.ite (fun c_11 => ?_) (fun c_11 => ?_)
  · skip
    unfold cb_X6_reach_59
    refine PP.bind (cw_X6_next F G) ?_
    intro r12 F12 G12 hK12
    dsimp only
    unfold cb_X6_reach_68
    refine PP.bind (cw_X6_next F12 G12) ?_
    intro r13 F13 G13 hK13
    dsimp only
    unfold cb_X6_reach_73
    refine PP.bind (cw_X6_element ((F 58) + r12) r13 F13 G13) ?_
    intro r14 F14 G14 hK14
    dsimp only
    unfold cb_X6_reach_76
    exact cwj_X6_reach_213 F14 G14 (KX.tr (KX.tr (KX.tr KX.rf hK12 rfl rfl) hK13 rfl rfl) hK14 rfl rfl)
  refine PP.ite (fun c_15 => ?_) (fun c_15 => ?_)
  · skip
    unfold cb_X6_reach_79
    refine PP.bind (cw_X6_next F G) ?_
    intro r16 F16 G16 hK16
    dsimp only
    unfold cb_X6_reach_87
    refine PP.bind (cw_X6_next F16 G16) ?_
    intro r17 F17 G17 hK17
    dsimp only
    unfold cb_X6_reach_93
    refine PP.bind (cw_X6_held ((F 58) + r16) F17 G17) ?_
    intro r18 F18 G18 hK18
    dsimp only
    unfold cb_X6_reach_100
    refine PP.bind (cw_X6_held (((F 58) + r16) + (1 : Int32)) F18 G18) ?_
    intro r19 F19 G19 hK19
    dsimp only
    unfold cb_X6_reach_107
    refine PP.bind (cw_X6_element r18 r19 F19 G19) ?_
    intro r20 F20 G20 hK20
    dsimp only
    unfold cb_X6_reach_110
    exact cwj_X6_reach_213 F20 G20 (KX.tr (KX.tr (KX.tr (KX.tr (KX.tr KX.rf hK16 rfl rfl) hK17 rfl rfl) hK18 rfl rfl) hK19 rfl rfl) hK20 rfl rfl)
  refine PP.ite (fun c_21 => ?_) (fun c_21 => ?_)
  · skip
    unfold cb_X6_reach_113
    refine PP.bind (cw_X6_pop F G) ?_
    intro r22 F22 G22 hK22
    dsimp only
    unfold cb_X6_reach_119
    refine PP.bind (cw_X6_held r22 F22 G22) ?_
    intro r23 F23 G23 hK23
    dsimp only
    unfold cb_X6_reach_122
    refine PP.bind (cw_X6_push r23 F23 G23) ?_
    intro r24 F24 G24 hK24
    dsimp only
    unfold cb_X6_reach_125
    exact cwj_X6_reach_213 F24 G24 (KX.tr (KX.tr (KX.tr KX.rf hK22 rfl rfl) hK23 rfl rfl) hK24 rfl rfl)
  refine PP.ite (fun c_25 => ?_) (fun c_25 => ?_)
  · skip
    unfold cb_X6_reach_128
    refine PP.bind (cw_X6_pop F G) ?_
    intro r26 F26 G26 hK26
    dsimp only
    unfold cb_X6_reach_132
    refine PP.bind (cw_X6_held (r26 >>> ((2 : Int32) &&& 31)) F26 G26) ?_
    intro r27 F27 G27 hK27
    dsimp only
    unfold cb_X6_reach_141
    refine PP.bind (cw_X6_push (((r27.toUInt32 >>> (((r26 &&& (3 : Int32)) * (8 : Int32)).toUInt32 &&& Int32.toUInt32 31)).toInt32) &&& (255 : Int32)) F27 G27) ?_
    intro r28 F28 G28 hK28
    dsimp only
    unfold cb_X6_reach_155
    exact cwj_X6_reach_213 F28 G28 (KX.tr (KX.tr (KX.tr KX.rf hK26 rfl rfl) hK27 rfl rfl) hK28 rfl rfl)
  refine PP.ite (fun c_29 => ?_) (fun c_29 => ?_)
  · skip
    unfold cb_X6_reach_158
    refine PP.bind (cw_X6_pop F G) ?_
    intro r30 F30 G30 hK30
    dsimp only
    unfold cb_X6_reach_162
    refine PP.bind (cw_X6_pop F30 G30) ?_
    intro r31 F31 G31 hK31
    dsimp only
    unfold cb_X6_reach_169
    refine PP.bind (cw_X6_hold r31 r30 F31 G31) ?_
    intro r32 F32 G32 hK32
    dsimp only
    unfold cb_X6_reach_174
    exact cwj_X6_reach_213 F32 G32 (KX.tr (KX.tr (KX.tr KX.rf hK30 rfl rfl) hK31 rfl rfl) hK32 rfl rfl)
  unfold cb_X6_reach_177
  refine PP.bind (cw_X6_pop F G) ?_
  intro r33 F33 G33 hK33
  dsimp only
  unfold cb_X6_reach_181
  refine PP.bind (cw_X6_pop F33 G33) ?_
  intro r34 F34 G34 hK34
  dsimp only
  unfold cb_X6_reach_188
  refine PP.bind (cw_X6_keepByte r34 (r33 &&& (255 : Int32)) F34 G34) ?_
  intro r35 F35 G35 hK35
  dsimp only
  unfold cb_X6_reach_197
  exact cwj_X6_reach_213 F35 G35 (KX.tr (KX.tr (KX.tr KX.rf hK33 rfl rfl) hK34 rfl rfl) hK35 rfl rfl)
theorem cwj_X6_clear_28 {fu : Nat} {F0 : PF} {G0 : PG} (F : PF) (G : PG) (hK : KX [] [54] F0 G0 F G) : PP (cb_X6_clear_28 fu F G) (fun _ F' G' => KX [] [54] F0 G0 F' G') := by
  unfold cb_X6_clear_28
  refine PP.ret ?_
  exact hK
theorem cwz_X6_clear_2 {fu : Nat} {F0 : PF} {G0 : PG} : ∀ (n : Nat) (x1 : Int32) (x2 : Int32) (x3 : Int32) (F : PF) (G : PG) (hK : KX [] [54] F0 G0 F G), PP (cl_X6_clear_2 fu n x1 x2 x3 F G) (fun _ F' G' => KX [] [54] F0 G0 F' G') := by
  intro n
  induction n with
  | zero =>
    intro x1 x2 x3 F G hK
    exact PP.no
  | succ n ihn =>
    intro x1 x2 x3 F G hK
    show PP (cb_X6_clear_2 fu (cl_X6_clear_2 fu n) x1 x2 x3 F G) _
    unfold cb_X6_clear_2
    refine PP.ite (fun c_1 => ?_) (fun c_1 => ?_)
    · skip
      exact cwj_X6_clear_28 F G hK
    · skip
      unfold cb_X6_clear_7
      refine PP.ite (fun c_2 => ?_) (fun c_2 => ?_)
      · skip
        exact cwj_X6_clear_28 F G hK
      · skip
        unfold cb_X6_clear_14
        refine PP.bind (cw_X6_hold (x1 + x3) (0 : Int32) F G) ?_
        intro r3 F3 G3 hK3
        dsimp only
        unfold cb_X6_clear_22
        exact ihn x1 x2 (x3 + (1 : Int32)) F3 G3 (KX.tr hK hK3 rfl rfl)
theorem cw_X6_clear {fu : Nat} (x1 : Int32) (x2 : Int32) (F : PF) (G : PG) : PP (cf_X6_clear fu x1 x2 F G) (fun _ F' G' => KX [] [54] F G F' G') := by
  unfold cf_X6_clear
  unfold cb_X6_clear_0
  exact cwz_X6_clear_2 fu x1 x2 (0 : Int32) F G KX.rf
theorem cwj_X6_move_168 {fu : Nat} {F0 : PF} {G0 : PG} (F : PF) (G : PG) (hK : KX [56, 57, 300] [54, 55] F0 G0 F G) : PP (cb_X6_move_168 fu F G) (fun _ F' G' => KX [56, 57, 300] [54, 55] F0 G0 F' G') := by
  unfold cb_X6_move_168
  refine PP.ret ?_
  exact hK
theorem cw_X6_move {fu : Nat} (x1 : Int32) (F : PF) (G : PG) : PP (cf_X6_move fu x1 F G) (fun _ F' G' => KX [56, 57, 300] [54, 55] F G F' G') := by
  unfold cf_X6_move
  unfold cb_X6_move_0
  refine PP.ite (fun c_1 => ?_) (fun c_1 => ?_)
  · have e_2 : x1.toInt < 66 ∨ 72 < x1.toInt := c_1
    unfold cb_X6_move_151
    refine PP.bind (cw_X6_next F G) ?_
    intro r3 F3 G3 hK3
    dsimp only
    unfold cb_X6_move_160
    refine PP.bind (cw_X6_next F3 G3) ?_
    intro r4 F4 G4 hK4
    dsimp only
    unfold cb_X6_move_165
    refine PP.bind (cw_X6_clear ((F 58) + r3) r4 F4 G4) ?_
    intro r5 F5 G5 hK5
    dsimp only
    exact cwj_X6_move_168 F5 G5 (KX.tr (KX.tr (KX.tr KX.rf hK3 rfl rfl) hK4 rfl rfl) hK5 rfl rfl)
  have e_6 : ¬ (x1.toInt < 66 ∨ 72 < x1.toInt) := c_1
  refine PP.ite (fun c_7 => ?_) (fun c_7 => ?_)
  · skip
    unfold cb_X6_move_44
    refine PP.bind (cw_X6_next F G) ?_
    intro r8 F8 G8 hK8
    dsimp only
    unfold cb_X6_move_49
    refine PP.bind (cw_X6_push r8 F8 G8) ?_
    intro r9 F9 G9 hK9
    dsimp only
    unfold cb_X6_move_52
    exact cwj_X6_move_168 F9 G9 (KX.tr (KX.tr KX.rf hK8 rfl rfl) hK9 rfl rfl)
  refine PP.ite (fun c_10 => ?_) (fun c_10 => ?_)
  · skip
    unfold cb_X6_move_55
    refine PP.bind (cw_X6_pop F G) ?_
    intro r11 F11 G11 hK11
    dsimp only
    unfold cb_X6_move_59
    refine PP.bind (cw_X6_push r11 F11 G11) ?_
    intro r12 F12 G12 hK12
    dsimp only
    unfold cb_X6_move_65
    refine PP.bind (cw_X6_push r11 F12 G12) ?_
    intro r13 F13 G13 hK13
    dsimp only
    unfold cb_X6_move_70
    exact cwj_X6_move_168 F13 G13 (KX.tr (KX.tr (KX.tr KX.rf hK11 rfl rfl) hK12 rfl rfl) hK13 rfl rfl)
  refine PP.ite (fun c_14 => ?_) (fun c_14 => ?_)
  · skip
    unfold cb_X6_move_73
    refine PP.bind (cw_X6_pop F G) ?_
    intro r15 F15 G15 hK15
    dsimp only
    unfold cb_X6_move_77
    exact cwj_X6_move_168 F15 G15 (KX.tr KX.rf hK15 rfl rfl)
  refine PP.ite (fun c_16 => ?_) (fun c_16 => ?_)
  · skip
    unfold cb_X6_move_81
    refine PP.bind (cw_X6_next F G) ?_
    intro r17 F17 G17 hK17
    dsimp only
    unfold cb_X6_move_87
    refine PP.bind (cw_X6_held r17 F17 G17) ?_
    intro r18 F18 G18 hK18
    dsimp only
    unfold cb_X6_move_90
    refine PP.bind (cw_X6_push r18 F18 G18) ?_
    intro r19 F19 G19 hK19
    dsimp only
    unfold cb_X6_move_93
    exact cwj_X6_move_168 F19 G19 (KX.tr (KX.tr (KX.tr KX.rf hK17 rfl rfl) hK18 rfl rfl) hK19 rfl rfl)
  refine PP.ite (fun c_20 => ?_) (fun c_20 => ?_)
  · skip
    unfold cb_X6_move_96
    refine PP.bind (cw_X6_next F G) ?_
    intro r21 F21 G21 hK21
    dsimp only
    unfold cb_X6_move_106
    refine PP.bind (cw_X6_held ((F 58) + r21) F21 G21) ?_
    intro r22 F22 G22 hK22
    dsimp only
    unfold cb_X6_move_110
    refine PP.bind (cw_X6_push r22 F22 G22) ?_
    intro r23 F23 G23 hK23
    dsimp only
    unfold cb_X6_move_113
    exact cwj_X6_move_168 F23 G23 (KX.tr (KX.tr (KX.tr KX.rf hK21 rfl rfl) hK22 rfl rfl) hK23 rfl rfl)
  refine PP.ite (fun c_24 => ?_) (fun c_24 => ?_)
  · skip
    unfold cb_X6_move_116
    refine PP.bind (cw_X6_next F G) ?_
    intro r25 F25 G25 hK25
    dsimp only
    unfold cb_X6_move_121
    refine PP.bind (cw_X6_pop F25 G25) ?_
    intro r26 F26 G26 hK26
    dsimp only
    unfold cb_X6_move_125
    refine PP.bind (cw_X6_hold r25 r26 F26 G26) ?_
    intro r27 F27 G27 hK27
    dsimp only
    unfold cb_X6_move_128
    exact cwj_X6_move_168 F27 G27 (KX.tr (KX.tr (KX.tr KX.rf hK25 rfl rfl) hK26 rfl rfl) hK27 rfl rfl)
  unfold cb_X6_move_131
  refine PP.bind (cw_X6_next F G) ?_
  intro r28 F28 G28 hK28
  dsimp only
  unfold cb_X6_move_140
  refine PP.bind (cw_X6_pop F28 G28) ?_
  intro r29 F29 G29 hK29
  dsimp only
  unfold cb_X6_move_145
  refine PP.bind (cw_X6_hold ((F 58) + r28) r29 F29 G29) ?_
  intro r30 F30 G30 hK30
  dsimp only
  unfold cb_X6_move_148
  exact cwj_X6_move_168 F30 G30 (KX.tr (KX.tr (KX.tr KX.rf hK28 rfl rfl) hK29 rfl rfl) hK30 rfl rfl)
theorem cwz_X6_enters_75 {fu : Nat} {F0 : PF} {G0 : PG} : ∀ (n : Nat) (x1 : Int32) (x3 : Int32) (x4 : Int32) (F : PF) (G : PG) (hK : KX [56, 57, 58, 59, 61, 63, 66] [54] F0 G0 F G), PP (cl_X6_enters_75 fu n x1 x3 x4 F G) (fun _ F' G' => KX [56, 57, 58, 59, 61, 63, 66] [54] F0 G0 F' G') := by
  intro n
  induction n with
  | zero =>
    intro x1 x3 x4 F G hK
    exact PP.no
  | succ n ihn =>
    intro x1 x3 x4 F G hK
    show PP (cb_X6_enters_75 fu (cl_X6_enters_75 fu n) x1 x3 x4 F G) _
    unfold cb_X6_enters_75
    refine PP.ite (fun c_1 => ?_) (fun c_1 => ?_)
    · skip
      unfold cb_X6_enters_103
      unfold cb_X6_enters_111
      unfold cb_X6_enters_121
      refine PP.ix (fun _ => ?_)
      unfold cb_X6_enters_134
      refine PP.ret ?_
      exact (KX.f (k := 57) rfl (KX.f (k := 59) rfl (KX.f (k := 58) rfl hK)))
    · skip
      unfold cb_X6_enters_80
      refine PP.bind (cw_X6_pop F G) ?_
      intro r2 F2 G2 hK2
      dsimp only
      unfold cb_X6_enters_94
      refine PP.bind (cw_X6_hold (((F 59) + (4 : Int32)) + x4) r2 F2 G2) ?_
      intro r3 F3 G3 hK3
      dsimp only
      unfold cb_X6_enters_97
      exact ihn x1 x3 (x4 + (-1 : Int32)) F3 G3 (KX.tr (KX.tr hK hK2 rfl rfl) hK3 rfl rfl)
