theorem cz_X6_clear_2 {fu : Nat} (hfu : 8589934592 ≤ fu) {F0 : PF} {G0 : PG} : ∀ (n : Nat) (x1 : Int32) (x2 : Int32) (x3 : Int32) (F : PF) (G : PG) (hI : CI F G) (hB : KB F0 G0 F G) (hT : KT F0 F) (hO : KO F0 F) (hn : (2147483647 - x3.toInt).toNat < n), WP (cl_X6_clear_2 fu n x1 x2 x3 F G) (fun r' F' G' => CI F' G' ∧ KB F0 G0 F' G' ∧ KT F0 F' ∧ KO F0 F' ∧ True) := by
  intro n
  induction n with
  | zero =>
    intro x1 x2 x3 F G hI hB hT hO hn
    exact absurd hn (Nat.not_lt_zero _)
  | succ n ihn =>
    intro x1 x2 x3 F G hI hB hT hO hn
    show WP (cb_X6_clear_2 fu (cl_X6_clear_2 fu n)  x1 x2 x3 F G) _
    have q_O : (F 10).toInt = (F0 10).toInt := hO
    have q_O1 := hI.r 10 rfl
    unfold cb_X6_clear_2
    refine WP.ite (fun c_1 => ?_) (fun c_1 => ?_)
    · skip
      have q_2 := i_rng x2
      have q_3 := i_rng x3
      have e_4 := i_le.mp (show x2 ≤ x3 from c_1)
      unfold cb_X6_clear_28
      refine WP.ret ?_
      exact ⟨hI, hB, hT, hO, trivial⟩
    · skip
      have q_5 := i_rng x2
      have q_6 := i_rng x3
      have e_7 := mt i_le.mpr (show ¬ (x2 ≤ x3) from c_1)
      unfold cb_X6_clear_7
      refine WP.ite (fun c_8 => ?_) (fun c_8 => ?_)
      · skip
        have l_9 : (200 : Int32).toInt = 200 := rfl
        have e_10 := i_le.mp (show (200 : Int32) ≤ x3 from c_8)
        unfold cb_X6_clear_28
        refine WP.ret ?_
        exact ⟨hI, hB, hT, hO, trivial⟩
      · skip
        have l_11 : (200 : Int32).toInt = 200 := rfl
        have e_12 := mt i_le.mpr (show ¬ ((200 : Int32) ≤ x3) from c_8)
        unfold cb_X6_clear_14
        have q_13 := i_rng x1
        obtain ⟨k_14, e_15, e_16⟩ := i_add x1 x3
        have l_17 : (0 : Int32).toInt = 0 := rfl
        refine WP.bind (cs_X6_hold hfu (x1 + x3) (0 : Int32) F G hI) ?_
        rintro r18 F18 G18 ⟨hI18, hB18, hT18, hO18, hp18⟩
        dsimp only
        have q_19 := hI.r 10 rfl
        have q_20 := hI18.r 10 rfl
        have e_21 : (F18 10).toInt = (F 10).toInt := hO18
        unfold cb_X6_clear_22
        have l_22 : (1 : Int32).toInt = 1 := rfl
        obtain ⟨k_23, e_24, e_25⟩ := i_add x3 (1 : Int32)
        exact ihn x1 x2 (x3 + (1 : Int32)) F18 G18 hI18 (KB.tr hB hB18) (KT.tr hT hT18) (KO.tr hO hO18) (by omega)
theorem cs_X6_clear {fu : Nat} (hfu : 8589934592 ≤ fu) (x1 : Int32) (x2 : Int32) (F : PF) (G : PG) (hI : CI F G) : WP (cf_X6_clear fu x1 x2 F G) (fun r' F' G' => CI F' G' ∧ KB F G F' G' ∧ KT F F' ∧ KO F F' ∧ True) := by
  unfold cf_X6_clear
  unfold cb_X6_clear_0
  have q_1 := i_rng x1
  have q_2 := i_rng x2
  have l_3 : (0 : Int32).toInt = 0 := rfl
  exact cz_X6_clear_2 (F0 := F) (G0 := G) hfu fu x1 x2 (0 : Int32) F G hI (KB.rf : KB F G F G) (rfl : KT F F) (rfl : KO F F) (by omega)
theorem cs_X6_move {fu : Nat} (hfu : 8589934592 ≤ fu) (x1 : Int32) (F : PF) (G : PG) (hI : CI F G) : WP (cf_X6_move fu x1 F G) (fun r' F' G' => CI F' G' ∧ KB F G F' G' ∧ KT F F' ∧ KO F F' ∧ True) := by
  unfold cf_X6_move
  unfold cb_X6_move_0
  have q_1 := i_rng x1
  refine WP.ite (fun c_2 => ?_) (fun c_2 => ?_)
  · have e_3 : x1.toInt < 66 ∨ 72 < x1.toInt := c_2
    unfold cb_X6_move_151
    refine WP.bind (cs_X6_next hfu F G hI) ?_
    rintro r4 F4 G4 ⟨hI4, hB4, hT4, hO4, hp4⟩
    dsimp only
    have q_5 := hI.r 10 rfl
    have q_6 := hI4.r 10 rfl
    have e_7 : (F4 10).toInt = (F 10).toInt := hO4
    unfold cb_X6_move_160
    refine WP.bind (cs_X6_next hfu F4 G4 hI4) ?_
    rintro r8 F8 G8 ⟨hI8, hB8, hT8, hO8, hp8⟩
    dsimp only
    have q_9 := hI8.r 10 rfl
    have e_10 : (F8 10).toInt = (F4 10).toInt := hO8
    unfold cb_X6_move_165
    have q_11 := i_rng (F 58)
    have q_12 := i_rng r4
    obtain ⟨k_13, e_14, e_15⟩ := i_add (F 58) r4
    have q_16 := i_rng r8
    refine WP.bind (cs_X6_clear hfu ((F 58) + r4) r8 F8 G8 hI8) ?_
    rintro r17 F17 G17 ⟨hI17, hB17, hT17, hO17, hp17⟩
    dsimp only
    have q_18 := hI17.r 10 rfl
    have e_19 : (F17 10).toInt = (F8 10).toInt := hO17
    unfold cb_X6_move_168
    refine WP.ret ?_
    exact ⟨hI17, (KB.tr (KB.tr (KB.tr (KB.rf : KB F G F G) hB4) hB8) hB17), (KT.tr (KT.tr (KT.tr (rfl : KT F F) hT4) hT8) hT17), (KO.tr (KO.tr (KO.tr (rfl : KO F F) hO4) hO8) hO17), trivial⟩
  have e_20 : ¬ (x1.toInt < 66 ∨ 72 < x1.toInt) := c_2
  refine WP.ite (fun c_21 => ?_) (fun c_21 => ?_)
  · skip
    have l_22 : (66 : Int32).toInt = 66 := rfl
    have e_23 := i_eq.mp (show x1 = (66 : Int32) from c_21)
    unfold cb_X6_move_44
    refine WP.bind (cs_X6_next hfu F G hI) ?_
    rintro r24 F24 G24 ⟨hI24, hB24, hT24, hO24, hp24⟩
    dsimp only
    have q_25 := hI.r 10 rfl
    have q_26 := hI24.r 10 rfl
    have e_27 : (F24 10).toInt = (F 10).toInt := hO24
    unfold cb_X6_move_49
    have q_28 := i_rng r24
    refine WP.bind (cs_X6_push hfu r24 F24 G24 hI24) ?_
    rintro r29 F29 G29 ⟨hI29, hB29, hT29, hO29, hp29⟩
    dsimp only
    have q_30 := hI29.r 10 rfl
    have e_31 : (F29 10).toInt = (F24 10).toInt := hO29
    unfold cb_X6_move_52
    unfold cb_X6_move_168
    refine WP.ret ?_
    exact ⟨hI29, (KB.tr (KB.tr (KB.rf : KB F G F G) hB24) hB29), (KT.tr (KT.tr (rfl : KT F F) hT24) hT29), (KO.tr (KO.tr (rfl : KO F F) hO24) hO29), trivial⟩
  have l_32 : (66 : Int32).toInt = 66 := rfl
  have e_33 := mt i_eq.mpr (show ¬ (x1 = (66 : Int32)) from c_21)
  refine WP.ite (fun c_34 => ?_) (fun c_34 => ?_)
  · skip
    have l_35 : (67 : Int32).toInt = 67 := rfl
    have e_36 := i_eq.mp (show x1 = (67 : Int32) from c_34)
    unfold cb_X6_move_55
    refine WP.bind (cs_X6_pop hfu F G hI) ?_
    rintro r37 F37 G37 ⟨hI37, hB37, hT37, hO37, hp37⟩
    dsimp only
    have q_38 := hI.r 10 rfl
    have q_39 := hI37.r 10 rfl
    have e_40 : (F37 10).toInt = (F 10).toInt := hO37
    unfold cb_X6_move_59
    have q_41 := i_rng r37
    refine WP.bind (cs_X6_push hfu r37 F37 G37 hI37) ?_
    rintro r42 F42 G42 ⟨hI42, hB42, hT42, hO42, hp42⟩
    dsimp only
    have q_43 := hI42.r 10 rfl
    have e_44 : (F42 10).toInt = (F37 10).toInt := hO42
    unfold cb_X6_move_65
    refine WP.bind (cs_X6_push hfu r37 F42 G42 hI42) ?_
    rintro r45 F45 G45 ⟨hI45, hB45, hT45, hO45, hp45⟩
    dsimp only
    have q_46 := hI45.r 10 rfl
    have e_47 : (F45 10).toInt = (F42 10).toInt := hO45
    unfold cb_X6_move_70
    unfold cb_X6_move_168
    refine WP.ret ?_
    exact ⟨hI45, (KB.tr (KB.tr (KB.tr (KB.rf : KB F G F G) hB37) hB42) hB45), (KT.tr (KT.tr (KT.tr (rfl : KT F F) hT37) hT42) hT45), (KO.tr (KO.tr (KO.tr (rfl : KO F F) hO37) hO42) hO45), trivial⟩
  have l_48 : (67 : Int32).toInt = 67 := rfl
  have e_49 := mt i_eq.mpr (show ¬ (x1 = (67 : Int32)) from c_34)
  refine WP.ite (fun c_50 => ?_) (fun c_50 => ?_)
  · skip
    have l_51 : (68 : Int32).toInt = 68 := rfl
    have e_52 := i_eq.mp (show x1 = (68 : Int32) from c_50)
    unfold cb_X6_move_73
    refine WP.bind (cs_X6_pop hfu F G hI) ?_
    rintro r53 F53 G53 ⟨hI53, hB53, hT53, hO53, hp53⟩
    dsimp only
    have q_54 := hI.r 10 rfl
    have q_55 := hI53.r 10 rfl
    have e_56 : (F53 10).toInt = (F 10).toInt := hO53
    unfold cb_X6_move_77
    unfold cb_X6_move_168
    refine WP.ret ?_
    exact ⟨hI53, (KB.tr (KB.rf : KB F G F G) hB53), (KT.tr (rfl : KT F F) hT53), (KO.tr (rfl : KO F F) hO53), trivial⟩
  have l_57 : (68 : Int32).toInt = 68 := rfl
  have e_58 := mt i_eq.mpr (show ¬ (x1 = (68 : Int32)) from c_50)
  refine WP.ite (fun c_59 => ?_) (fun c_59 => ?_)
  · skip
    have l_60 : (69 : Int32).toInt = 69 := rfl
    have e_61 := i_eq.mp (show x1 = (69 : Int32) from c_59)
    unfold cb_X6_move_81
    refine WP.bind (cs_X6_next hfu F G hI) ?_
    rintro r62 F62 G62 ⟨hI62, hB62, hT62, hO62, hp62⟩
    dsimp only
    have q_63 := hI.r 10 rfl
    have q_64 := hI62.r 10 rfl
    have e_65 : (F62 10).toInt = (F 10).toInt := hO62
    unfold cb_X6_move_87
    have q_66 := i_rng r62
    refine WP.bind (cs_X6_held hfu r62 F62 G62 hI62) ?_
    rintro r67 _ _ ⟨rfl, rfl, hp67⟩
    dsimp only
    unfold cb_X6_move_90
    have q_68 := i_rng r67
    refine WP.bind (cs_X6_push hfu r67 F62 G62 hI62) ?_
    rintro r69 F69 G69 ⟨hI69, hB69, hT69, hO69, hp69⟩
    dsimp only
    have q_70 := hI69.r 10 rfl
    have e_71 : (F69 10).toInt = (F62 10).toInt := hO69
    unfold cb_X6_move_93
    unfold cb_X6_move_168
    refine WP.ret ?_
    exact ⟨hI69, (KB.tr (KB.tr (KB.rf : KB F G F G) hB62) hB69), (KT.tr (KT.tr (rfl : KT F F) hT62) hT69), (KO.tr (KO.tr (rfl : KO F F) hO62) hO69), trivial⟩
  have l_72 : (69 : Int32).toInt = 69 := rfl
  have e_73 := mt i_eq.mpr (show ¬ (x1 = (69 : Int32)) from c_59)
  refine WP.ite (fun c_74 => ?_) (fun c_74 => ?_)
  · skip
    have l_75 : (70 : Int32).toInt = 70 := rfl
    have e_76 := i_eq.mp (show x1 = (70 : Int32) from c_74)
    unfold cb_X6_move_96
    refine WP.bind (cs_X6_next hfu F G hI) ?_
    rintro r77 F77 G77 ⟨hI77, hB77, hT77, hO77, hp77⟩
    dsimp only
    have q_78 := hI.r 10 rfl
    have q_79 := hI77.r 10 rfl
    have e_80 : (F77 10).toInt = (F 10).toInt := hO77
    unfold cb_X6_move_106
    have q_81 := i_rng (F 58)
    have q_82 := i_rng r77
    obtain ⟨k_83, e_84, e_85⟩ := i_add (F 58) r77
    refine WP.bind (cs_X6_held hfu ((F 58) + r77) F77 G77 hI77) ?_
    rintro r86 _ _ ⟨rfl, rfl, hp86⟩
    dsimp only
    unfold cb_X6_move_110
    have q_87 := i_rng r86
    refine WP.bind (cs_X6_push hfu r86 F77 G77 hI77) ?_
    rintro r88 F88 G88 ⟨hI88, hB88, hT88, hO88, hp88⟩
    dsimp only
    have q_89 := hI88.r 10 rfl
    have e_90 : (F88 10).toInt = (F77 10).toInt := hO88
    unfold cb_X6_move_113
    unfold cb_X6_move_168
    refine WP.ret ?_
    exact ⟨hI88, (KB.tr (KB.tr (KB.rf : KB F G F G) hB77) hB88), (KT.tr (KT.tr (rfl : KT F F) hT77) hT88), (KO.tr (KO.tr (rfl : KO F F) hO77) hO88), trivial⟩
  have l_91 : (70 : Int32).toInt = 70 := rfl
  have e_92 := mt i_eq.mpr (show ¬ (x1 = (70 : Int32)) from c_74)
  refine WP.ite (fun c_93 => ?_) (fun c_93 => ?_)
  · skip
    have l_94 : (71 : Int32).toInt = 71 := rfl
    have e_95 := i_eq.mp (show x1 = (71 : Int32) from c_93)
    unfold cb_X6_move_116
    refine WP.bind (cs_X6_next hfu F G hI) ?_
    rintro r96 F96 G96 ⟨hI96, hB96, hT96, hO96, hp96⟩
    dsimp only
    have q_97 := hI.r 10 rfl
    have q_98 := hI96.r 10 rfl
    have e_99 : (F96 10).toInt = (F 10).toInt := hO96
    unfold cb_X6_move_121
    refine WP.bind (cs_X6_pop hfu F96 G96 hI96) ?_
    rintro r100 F100 G100 ⟨hI100, hB100, hT100, hO100, hp100⟩
    dsimp only
    have q_101 := hI100.r 10 rfl
    have e_102 : (F100 10).toInt = (F96 10).toInt := hO100
    unfold cb_X6_move_125
    have q_103 := i_rng r96
    have q_104 := i_rng r100
    refine WP.bind (cs_X6_hold hfu r96 r100 F100 G100 hI100) ?_
    rintro r105 F105 G105 ⟨hI105, hB105, hT105, hO105, hp105⟩
    dsimp only
    have q_106 := hI105.r 10 rfl
    have e_107 : (F105 10).toInt = (F100 10).toInt := hO105
    unfold cb_X6_move_128
    unfold cb_X6_move_168
    refine WP.ret ?_
    exact ⟨hI105, (KB.tr (KB.tr (KB.tr (KB.rf : KB F G F G) hB96) hB100) hB105), (KT.tr (KT.tr (KT.tr (rfl : KT F F) hT96) hT100) hT105), (KO.tr (KO.tr (KO.tr (rfl : KO F F) hO96) hO100) hO105), trivial⟩
  have l_108 : (71 : Int32).toInt = 71 := rfl
  have e_109 := mt i_eq.mpr (show ¬ (x1 = (71 : Int32)) from c_93)
  unfold cb_X6_move_131
  refine WP.bind (cs_X6_next hfu F G hI) ?_
  rintro r110 F110 G110 ⟨hI110, hB110, hT110, hO110, hp110⟩
  dsimp only
  have q_111 := hI.r 10 rfl
  have q_112 := hI110.r 10 rfl
  have e_113 : (F110 10).toInt = (F 10).toInt := hO110
  unfold cb_X6_move_140
  refine WP.bind (cs_X6_pop hfu F110 G110 hI110) ?_
  rintro r114 F114 G114 ⟨hI114, hB114, hT114, hO114, hp114⟩
  dsimp only
  have q_115 := hI114.r 10 rfl
  have e_116 : (F114 10).toInt = (F110 10).toInt := hO114
  unfold cb_X6_move_145
  have q_117 := i_rng (F 58)
  have q_118 := i_rng r110
  obtain ⟨k_119, e_120, e_121⟩ := i_add (F 58) r110
  have q_122 := i_rng r114
  refine WP.bind (cs_X6_hold hfu ((F 58) + r110) r114 F114 G114 hI114) ?_
  rintro r123 F123 G123 ⟨hI123, hB123, hT123, hO123, hp123⟩
  dsimp only
  have q_124 := hI123.r 10 rfl
  have e_125 : (F123 10).toInt = (F114 10).toInt := hO123
  unfold cb_X6_move_148
  unfold cb_X6_move_168
  refine WP.ret ?_
  exact ⟨hI123, (KB.tr (KB.tr (KB.tr (KB.rf : KB F G F G) hB110) hB114) hB123), (KT.tr (KT.tr (KT.tr (rfl : KT F F) hT110) hT114) hT123), (KO.tr (KO.tr (KO.tr (rfl : KO F F) hO110) hO114) hO123), trivial⟩
theorem cs_X6_element {fu : Nat} (hfu : 8589934592 ≤ fu) (x1 : Int32) (x2 : Int32) (F : PF) (G : PG) (hI : CI F G) : WP (cf_X6_element fu x1 x2 F G) (fun r' F' G' => CI F' G' ∧ KB F G F' G' ∧ KT F F' ∧ KO F F' ∧ True) := by
  unfold cf_X6_element
  unfold cb_X6_element_0
  refine WP.bind (cs_X6_next hfu F G hI) ?_
  rintro r1 F1 G1 ⟨hI1, hB1, hT1, hO1, hp1⟩
  dsimp only
  have q_2 := hI.r 10 rfl
  have q_3 := hI1.r 10 rfl
  have e_4 : (F1 10).toInt = (F 10).toInt := hO1
  unfold cb_X6_element_4
  refine WP.bind (cs_X6_next hfu F1 G1 hI1) ?_
  rintro r5 F5 G5 ⟨hI5, hB5, hT5, hO5, hp5⟩
  dsimp only
  have q_6 := hI5.r 10 rfl
  have e_7 : (F5 10).toInt = (F1 10).toInt := hO5
  unfold cb_X6_element_9
  refine WP.bind (cs_X6_pop hfu F5 G5 hI5) ?_
  rintro r8 F8 G8 ⟨hI8, hB8, hT8, hO8, hp8⟩
  dsimp only
  have q_9 := hI8.r 10 rfl
  have e_10 : (F8 10).toInt = (F5 10).toInt := hO8
  unfold cb_X6_element_15
  refine WP.ite (fun c_11 => ?_) (fun c_11 => ?_)
  · skip
    have q_12 := i_rng r8
    have l_13 : (0 : Int32).toInt = 0 := rfl
    have e_14 := i_lt.mp (show r8 < (0 : Int32) from c_11)
    unfold cb_X6_element_28
    have q_15 := i_rng r5
    have j_16 : CI (fup F8 66 r5) G8 := CI.fr rfl hI8
    unfold cb_X6_element_34
    have l_17 : (5 : Int32).toInt = 5 := rfl
    refine WP.bind (cs_X6_over hfu (5 : Int32) (fup F8 66 r5) G8 j_16) ?_
    rintro r18 F18 G18 ⟨hI18, hB18, hT18, hO18, hp18⟩
    dsimp only
    have q_19 := hI18.r 10 rfl
    have e_20 : (F18 10).toInt = (F8 10).toInt := hO18
    unfold cb_X6_element_39
    unfold cb_X6_element_52
    refine WP.ret ?_
    exact ⟨hI18, (KB.tr (KB.f (by decide) (KB.tr (KB.tr (KB.tr (KB.rf : KB F G F G) hB1) hB5) hB8)) hB18), (KT.tr (KT.f (by decide) (KT.tr (KT.tr (KT.tr (rfl : KT F F) hT1) hT5) hT8)) hT18), (KO.tr (KO.f (by decide) (KO.tr (KO.tr (KO.tr (rfl : KO F F) hO1) hO5) hO8)) hO18), trivial⟩
  · skip
    have q_21 := i_rng r8
    have l_22 : (0 : Int32).toInt = 0 := rfl
    have e_23 := mt i_lt.mpr (show ¬ (r8 < (0 : Int32)) from c_11)
    unfold cb_X6_element_22
    refine WP.ite (fun c_24 => ?_) (fun c_24 => ?_)
    · skip
      have q_25 := i_rng x2
      have e_26 := i_lt.mp (show r8 < x2 from c_24)
      unfold cb_X6_element_42
      have q_27 := i_rng x1
      have q_28 := i_rng r1
      have q_30 := i_rng (x1 <<< (r1 &&& 31))
      obtain ⟨k_31, e_32, e_33⟩ := i_add (x1 <<< (r1 &&& 31)) r8
      refine WP.bind (cs_X6_push hfu ((x1 <<< (r1 &&& 31)) + r8) F8 G8 hI8) ?_
      rintro r34 F34 G34 ⟨hI34, hB34, hT34, hO34, hp34⟩
      dsimp only
      have q_35 := hI34.r 10 rfl
      have e_36 : (F34 10).toInt = (F8 10).toInt := hO34
      unfold cb_X6_element_52
      refine WP.ret ?_
      exact ⟨hI34, (KB.tr (KB.tr (KB.tr (KB.tr (KB.rf : KB F G F G) hB1) hB5) hB8) hB34), (KT.tr (KT.tr (KT.tr (KT.tr (rfl : KT F F) hT1) hT5) hT8) hT34), (KO.tr (KO.tr (KO.tr (KO.tr (rfl : KO F F) hO1) hO5) hO8) hO34), trivial⟩
    · skip
      have q_37 := i_rng x2
      have e_38 := mt i_lt.mpr (show ¬ (r8 < x2) from c_24)
      unfold cb_X6_element_28
      have q_39 := i_rng r5
      have j_40 : CI (fup F8 66 r5) G8 := CI.fr rfl hI8
      unfold cb_X6_element_34
      have l_41 : (5 : Int32).toInt = 5 := rfl
      refine WP.bind (cs_X6_over hfu (5 : Int32) (fup F8 66 r5) G8 j_40) ?_
      rintro r42 F42 G42 ⟨hI42, hB42, hT42, hO42, hp42⟩
      dsimp only
      have q_43 := hI42.r 10 rfl
      have e_44 : (F42 10).toInt = (F8 10).toInt := hO42
      unfold cb_X6_element_39
      unfold cb_X6_element_52
      refine WP.ret ?_
      exact ⟨hI42, (KB.tr (KB.f (by decide) (KB.tr (KB.tr (KB.tr (KB.rf : KB F G F G) hB1) hB5) hB8)) hB42), (KT.tr (KT.f (by decide) (KT.tr (KT.tr (KT.tr (rfl : KT F F) hT1) hT5) hT8)) hT42), (KO.tr (KO.f (by decide) (KO.tr (KO.tr (KO.tr (rfl : KO F F) hO1) hO5) hO8)) hO42), trivial⟩
theorem cs_X6_pass {fu : Nat} (hfu : 8589934592 ≤ fu) (x1 : Int32) (x2 : Int32) (x3 : Int32) (F : PF) (G : PG) (hI : CI F G) : WP (cf_X6_pass fu x1 x2 x3 F G) (fun r' F' G' => CI F' G' ∧ KB F G F' G' ∧ KT F F' ∧ KO F F' ∧ True) := by
  unfold cf_X6_pass
  unfold cb_X6_pass_0
  refine WP.ite (fun c_1 => ?_) (fun c_1 => ?_)
  · skip
    have q_2 := i_rng x1
    have l_3 : (83 : Int32).toInt = 83 := rfl
    have e_4 := i_eq.mp (show x1 = (83 : Int32) from c_1)
    unfold cb_X6_pass_6
    have q_5 := i_rng (F 58)
    have q_6 := i_rng x2
    obtain ⟨k_7, e_8, e_9⟩ := i_add (F 58) x2
    refine WP.bind (cs_X6_held hfu ((F 58) + x2) F G hI) ?_
    rintro r10 _ _ ⟨rfl, rfl, hp10⟩
    dsimp only
    unfold cb_X6_pass_17
    have q_11 := i_rng r10
    refine WP.bind (cs_X6_push hfu r10 F G hI) ?_
    rintro r12 F12 G12 ⟨hI12, hB12, hT12, hO12, hp12⟩
    dsimp only
    have q_13 := hI.r 10 rfl
    have q_14 := hI12.r 10 rfl
    have e_15 : (F12 10).toInt = (F 10).toInt := hO12
    unfold cb_X6_pass_20
    have q_16 := i_rng (F12 58)
    obtain ⟨k_17, e_18, e_19⟩ := i_add (F12 58) x2
    have l_20 : (1 : Int32).toInt = 1 := rfl
    obtain ⟨k_21, e_22, e_23⟩ := i_add ((F12 58) + x2) (1 : Int32)
    refine WP.bind (cs_X6_held hfu (((F12 58) + x2) + (1 : Int32)) F12 G12 hI12) ?_
    rintro r24 _ _ ⟨rfl, rfl, hp24⟩
    dsimp only
    unfold cb_X6_pass_33
    have q_25 := i_rng r24
    refine WP.bind (cs_X6_push hfu r24 F12 G12 hI12) ?_
    rintro r26 F26 G26 ⟨hI26, hB26, hT26, hO26, hp26⟩
    dsimp only
    have q_27 := hI26.r 10 rfl
    have e_28 : (F26 10).toInt = (F12 10).toInt := hO26
    unfold cb_X6_pass_36
    unfold cb_X6_pass_64
    refine WP.ret ?_
    exact ⟨hI26, (KB.tr (KB.tr (KB.rf : KB F G F G) hB12) hB26), (KT.tr (KT.tr (rfl : KT F F) hT12) hT26), (KO.tr (KO.tr (rfl : KO F F) hO12) hO26), trivial⟩
  · skip
    have q_29 := i_rng x1
    have l_30 : (83 : Int32).toInt = 83 := rfl
    have e_31 := mt i_eq.mpr (show ¬ (x1 = (83 : Int32)) from c_1)
    unfold cb_X6_pass_39
    refine WP.ite (fun c_32 => ?_) (fun c_32 => ?_)
    · skip
      have l_33 : (81 : Int32).toInt = 81 := rfl
      have e_34 := i_eq.mp (show x1 = (81 : Int32) from c_32)
      unfold cb_X6_pass_46
      unfold cb_X6_pass_56
      have q_35 := i_rng x2
      refine WP.bind (cs_X6_push hfu x2 F G hI) ?_
      rintro r36 F36 G36 ⟨hI36, hB36, hT36, hO36, hp36⟩
      dsimp only
      have q_37 := hI.r 10 rfl
      have q_38 := hI36.r 10 rfl
      have e_39 : (F36 10).toInt = (F 10).toInt := hO36
      unfold cb_X6_pass_59
      have q_40 := i_rng x3
      refine WP.bind (cs_X6_push hfu x3 F36 G36 hI36) ?_
      rintro r41 F41 G41 ⟨hI41, hB41, hT41, hO41, hp41⟩
      dsimp only
      have q_42 := hI41.r 10 rfl
      have e_43 : (F41 10).toInt = (F36 10).toInt := hO41
      unfold cb_X6_pass_64
      refine WP.ret ?_
      exact ⟨hI41, (KB.tr (KB.tr (KB.rf : KB F G F G) hB36) hB41), (KT.tr (KT.tr (rfl : KT F F) hT36) hT41), (KO.tr (KO.tr (rfl : KO F F) hO36) hO41), trivial⟩
    · skip
      have l_44 : (81 : Int32).toInt = 81 := rfl
      have e_45 := mt i_eq.mpr (show ¬ (x1 = (81 : Int32)) from c_32)
      unfold cb_X6_pass_50
      unfold cb_X6_pass_56
      have q_46 := i_rng (F 58)
      have q_47 := i_rng x2
      obtain ⟨k_48, e_49, e_50⟩ := i_add (F 58) x2
      refine WP.bind (cs_X6_push hfu ((F 58) + x2) F G hI) ?_
      rintro r51 F51 G51 ⟨hI51, hB51, hT51, hO51, hp51⟩
      dsimp only
      have q_52 := hI.r 10 rfl
      have q_53 := hI51.r 10 rfl
      have e_54 : (F51 10).toInt = (F 10).toInt := hO51
      unfold cb_X6_pass_59
      have q_55 := i_rng x3
      refine WP.bind (cs_X6_push hfu x3 F51 G51 hI51) ?_
      rintro r56 F56 G56 ⟨hI56, hB56, hT56, hO56, hp56⟩
      dsimp only
      have q_57 := hI56.r 10 rfl
      have e_58 : (F56 10).toInt = (F51 10).toInt := hO56
      unfold cb_X6_pass_64
      refine WP.ret ?_
      exact ⟨hI56, (KB.tr (KB.tr (KB.rf : KB F G F G) hB51) hB56), (KT.tr (KT.tr (rfl : KT F F) hT51) hT56), (KO.tr (KO.tr (rfl : KO F F) hO51) hO56), trivial⟩
theorem cs_X6_keepByte {fu : Nat} (hfu : 8589934592 ≤ fu) (x1 : Int32) (x2 : Int32) (F : PF) (G : PG) (hI : CI F G) : WP (cf_X6_keepByte fu x1 x2 F G) (fun r' F' G' => CI F' G' ∧ KB F G F' G' ∧ KT F F' ∧ KO F F' ∧ True) := by
  unfold cf_X6_keepByte
  unfold cb_X6_keepByte_0
  have q_1 := i_rng x1
  have l_2 : (2 : Int32).toInt = 2 := rfl
  have e_4 : ((x1 >>> ((2 : Int32) &&& 31))).toInt = x1.toInt / 4 := i_shr 2 (by decide)
  refine WP.bind (cs_X6_held hfu (x1 >>> ((2 : Int32) &&& 31)) F G hI) ?_
  rintro r5 _ _ ⟨rfl, rfl, hp5⟩
  dsimp only
  unfold cb_X6_keepByte_19
  have q_6 := i_rng r5
  have l_7 : (255 : Int32).toInt = 255 := rfl
  have l_8 : (3 : Int32).toInt = 3 := rfl
  have e_10 := i_and x1 (m := 3) 2 (by decide) (by decide)
  have l_11 : (8 : Int32).toInt = 8 := rfl
  have q_13 := i_rng ((x1 &&& (3 : Int32)) * (8 : Int32))
  have q_15 := i_rng ((255 : Int32) <<< (((x1 &&& (3 : Int32)) * (8 : Int32)) &&& 31))
  have l_16 : (-1 : Int32).toInt = -1 := rfl
  have q_18 := i_rng (((255 : Int32) <<< (((x1 &&& (3 : Int32)) * (8 : Int32)) &&& 31)) ^^^ (-1 : Int32))
  have q_20 := i_rng (r5 &&& (((255 : Int32) <<< (((x1 &&& (3 : Int32)) * (8 : Int32)) &&& 31)) ^^^ (-1 : Int32)))
  have q_21 := i_rng x2
  have q_23 := i_rng (x2 <<< (((x1 &&& (3 : Int32)) * (8 : Int32)) &&& 31))
  have q_25 := i_rng ((r5 &&& (((255 : Int32) <<< (((x1 &&& (3 : Int32)) * (8 : Int32)) &&& 31)) ^^^ (-1 : Int32))) ||| (x2 <<< (((x1 &&& (3 : Int32)) * (8 : Int32)) &&& 31)))
  refine WP.bind (cs_X6_hold hfu (x1 >>> ((2 : Int32) &&& 31)) ((r5 &&& (((255 : Int32) <<< (((x1 &&& (3 : Int32)) * (8 : Int32)) &&& 31)) ^^^ (-1 : Int32))) ||| (x2 <<< (((x1 &&& (3 : Int32)) * (8 : Int32)) &&& 31))) F G hI) ?_
  rintro r26 F26 G26 ⟨hI26, hB26, hT26, hO26, hp26⟩
  dsimp only
  have q_27 := hI.r 10 rfl
  have q_28 := hI26.r 10 rfl
  have e_29 : (F26 10).toInt = (F 10).toInt := hO26
  unfold cb_X6_keepByte_36
  refine WP.ret ?_
  exact ⟨hI26, (KB.tr (KB.rf : KB F G F G) hB26), (KT.tr (rfl : KT F F) hT26), (KO.tr (rfl : KO F F) hO26), trivial⟩
theorem cs_X6_reach {fu : Nat} (hfu : 8589934592 ≤ fu) (x1 : Int32) (F : PF) (G : PG) (hI : CI F G) : WP (cf_X6_reach fu x1 F G) (fun r' F' G' => CI F' G' ∧ KB F G F' G' ∧ KT F F' ∧ KO F F' ∧ True) := by
  unfold cf_X6_reach
  unfold cb_X6_reach_0
  have q_1 := i_rng x1
  refine WP.ite (fun c_2 => ?_) (fun c_2 => ?_)
  · have e_3 : x1.toInt < 74 ∨ 80 < x1.toInt := c_2
    unfold cb_X6_reach_200
    refine WP.bind (cs_X6_next hfu F G hI) ?_
    rintro r4 F4 G4 ⟨hI4, hB4, hT4, hO4, hp4⟩
    dsimp only
    have q_5 := hI.r 10 rfl
    have q_6 := hI4.r 10 rfl
    have e_7 : (F4 10).toInt = (F 10).toInt := hO4
    unfold cb_X6_reach_206
    refine WP.bind (cs_X6_next hfu F4 G4 hI4) ?_
    rintro r8 F8 G8 ⟨hI8, hB8, hT8, hO8, hp8⟩
    dsimp only
    have q_9 := hI8.r 10 rfl
    have e_10 : (F8 10).toInt = (F4 10).toInt := hO8
    unfold cb_X6_reach_210
    have q_11 := i_rng r4
    have q_12 := i_rng r8
    refine WP.bind (cs_X6_pass hfu x1 r4 r8 F8 G8 hI8) ?_
    rintro r13 F13 G13 ⟨hI13, hB13, hT13, hO13, hp13⟩
    dsimp only
    have q_14 := hI13.r 10 rfl
    have e_15 : (F13 10).toInt = (F8 10).toInt := hO13
    unfold cb_X6_reach_213
    refine WP.ret ?_
    exact ⟨hI13, (KB.tr (KB.tr (KB.tr (KB.rf : KB F G F G) hB4) hB8) hB13), (KT.tr (KT.tr (KT.tr (rfl : KT F F) hT4) hT8) hT13), (KO.tr (KO.tr (KO.tr (rfl : KO F F) hO4) hO8) hO13), trivial⟩
  have e_16 : ¬ (x1.toInt < 74 ∨ 80 < x1.toInt) := c_2
  refine WP.ite (fun c_17 => ?_) (fun c_17 => ?_)
  · skip
    have l_18 : (74 : Int32).toInt = 74 := rfl
    have e_19 := i_eq.mp (show x1 = (74 : Int32) from c_17)
    unfold cb_X6_reach_44
    refine WP.bind (cs_X6_next hfu F G hI) ?_
    rintro r20 F20 G20 ⟨hI20, hB20, hT20, hO20, hp20⟩
    dsimp only
    have q_21 := hI.r 10 rfl
    have q_22 := hI20.r 10 rfl
    have e_23 : (F20 10).toInt = (F 10).toInt := hO20
    unfold cb_X6_reach_49
    refine WP.bind (cs_X6_next hfu F20 G20 hI20) ?_
    rintro r24 F24 G24 ⟨hI24, hB24, hT24, hO24, hp24⟩
    dsimp only
    have q_25 := hI24.r 10 rfl
    have e_26 : (F24 10).toInt = (F20 10).toInt := hO24
    unfold cb_X6_reach_53
    have q_27 := i_rng r20
    have q_28 := i_rng r24
    refine WP.bind (cs_X6_element hfu r20 r24 F24 G24 hI24) ?_
    rintro r29 F29 G29 ⟨hI29, hB29, hT29, hO29, hp29⟩
    dsimp only
    have q_30 := hI29.r 10 rfl
    have e_31 : (F29 10).toInt = (F24 10).toInt := hO29
    unfold cb_X6_reach_56
    unfold cb_X6_reach_213
    refine WP.ret ?_
    exact ⟨hI29, (KB.tr (KB.tr (KB.tr (KB.rf : KB F G F G) hB20) hB24) hB29), (KT.tr (KT.tr (KT.tr (rfl : KT F F) hT20) hT24) hT29), (KO.tr (KO.tr (KO.tr (rfl : KO F F) hO20) hO24) hO29), trivial⟩
  have l_32 : (74 : Int32).toInt = 74 := rfl
  have e_33 := mt i_eq.mpr (show ¬ (x1 = (74 : Int32)) from c_17)
  refine WP.ite (fun c_34 => ?_) (fun c_34 => ?_)
  · skip
    have l_35 : (75 : Int32).toInt = 75 := rfl
    have e_36 := i_eq.mp (show x1 = (75 : Int32) from c_34)
    unfold cb_X6_reach_59
    refine WP.bind (cs_X6_next hfu F G hI) ?_
    rintro r37 F37 G37 ⟨hI37, hB37, hT37, hO37, hp37⟩
    dsimp only
    have q_38 := hI.r 10 rfl
    have q_39 := hI37.r 10 rfl
    have e_40 : (F37 10).toInt = (F 10).toInt := hO37
    unfold cb_X6_reach_68
    refine WP.bind (cs_X6_next hfu F37 G37 hI37) ?_
    rintro r41 F41 G41 ⟨hI41, hB41, hT41, hO41, hp41⟩
    dsimp only
    have q_42 := hI41.r 10 rfl
    have e_43 : (F41 10).toInt = (F37 10).toInt := hO41
    unfold cb_X6_reach_73
    have q_44 := i_rng (F 58)
    have q_45 := i_rng r37
    obtain ⟨k_46, e_47, e_48⟩ := i_add (F 58) r37
    have q_49 := i_rng r41
    refine WP.bind (cs_X6_element hfu ((F 58) + r37) r41 F41 G41 hI41) ?_
    rintro r50 F50 G50 ⟨hI50, hB50, hT50, hO50, hp50⟩
    dsimp only
    have q_51 := hI50.r 10 rfl
    have e_52 : (F50 10).toInt = (F41 10).toInt := hO50
    unfold cb_X6_reach_76
    unfold cb_X6_reach_213
    refine WP.ret ?_
    exact ⟨hI50, (KB.tr (KB.tr (KB.tr (KB.rf : KB F G F G) hB37) hB41) hB50), (KT.tr (KT.tr (KT.tr (rfl : KT F F) hT37) hT41) hT50), (KO.tr (KO.tr (KO.tr (rfl : KO F F) hO37) hO41) hO50), trivial⟩
  have l_53 : (75 : Int32).toInt = 75 := rfl
  have e_54 := mt i_eq.mpr (show ¬ (x1 = (75 : Int32)) from c_34)
  refine WP.ite (fun c_55 => ?_) (fun c_55 => ?_)
  · skip
    have l_56 : (76 : Int32).toInt = 76 := rfl
    have e_57 := i_eq.mp (show x1 = (76 : Int32) from c_55)
    unfold cb_X6_reach_79
    refine WP.bind (cs_X6_next hfu F G hI) ?_
    rintro r58 F58 G58 ⟨hI58, hB58, hT58, hO58, hp58⟩
    dsimp only
    have q_59 := hI.r 10 rfl
    have q_60 := hI58.r 10 rfl
    have e_61 : (F58 10).toInt = (F 10).toInt := hO58
    unfold cb_X6_reach_87
    refine WP.bind (cs_X6_next hfu F58 G58 hI58) ?_
    rintro r62 F62 G62 ⟨hI62, hB62, hT62, hO62, hp62⟩
    dsimp only
    have q_63 := hI62.r 10 rfl
    have e_64 : (F62 10).toInt = (F58 10).toInt := hO62
    unfold cb_X6_reach_93
    have q_65 := i_rng (F 58)
    have q_66 := i_rng r58
    obtain ⟨k_67, e_68, e_69⟩ := i_add (F 58) r58
    refine WP.bind (cs_X6_held hfu ((F 58) + r58) F62 G62 hI62) ?_
    rintro r70 _ _ ⟨rfl, rfl, hp70⟩
    dsimp only
    unfold cb_X6_reach_100
    have l_71 : (1 : Int32).toInt = 1 := rfl
    obtain ⟨k_72, e_73, e_74⟩ := i_add ((F 58) + r58) (1 : Int32)
    refine WP.bind (cs_X6_held hfu (((F 58) + r58) + (1 : Int32)) F62 G62 hI62) ?_
    rintro r75 _ _ ⟨rfl, rfl, hp75⟩
    dsimp only
    unfold cb_X6_reach_107
    have q_76 := i_rng r70
    have q_77 := i_rng r75
    refine WP.bind (cs_X6_element hfu r70 r75 F62 G62 hI62) ?_
    rintro r78 F78 G78 ⟨hI78, hB78, hT78, hO78, hp78⟩
    dsimp only
    have q_79 := hI78.r 10 rfl
    have e_80 : (F78 10).toInt = (F62 10).toInt := hO78
    unfold cb_X6_reach_110
    unfold cb_X6_reach_213
    refine WP.ret ?_
    exact ⟨hI78, (KB.tr (KB.tr (KB.tr (KB.rf : KB F G F G) hB58) hB62) hB78), (KT.tr (KT.tr (KT.tr (rfl : KT F F) hT58) hT62) hT78), (KO.tr (KO.tr (KO.tr (rfl : KO F F) hO58) hO62) hO78), trivial⟩
  have l_81 : (76 : Int32).toInt = 76 := rfl
  have e_82 := mt i_eq.mpr (show ¬ (x1 = (76 : Int32)) from c_55)
  refine WP.ite (fun c_83 => ?_) (fun c_83 => ?_)
  · skip
    have l_84 : (77 : Int32).toInt = 77 := rfl
    have e_85 := i_eq.mp (show x1 = (77 : Int32) from c_83)
    unfold cb_X6_reach_113
    refine WP.bind (cs_X6_pop hfu F G hI) ?_
    rintro r86 F86 G86 ⟨hI86, hB86, hT86, hO86, hp86⟩
    dsimp only
    have q_87 := hI.r 10 rfl
    have q_88 := hI86.r 10 rfl
    have e_89 : (F86 10).toInt = (F 10).toInt := hO86
    unfold cb_X6_reach_119
    have q_90 := i_rng r86
    refine WP.bind (cs_X6_held hfu r86 F86 G86 hI86) ?_
    rintro r91 _ _ ⟨rfl, rfl, hp91⟩
    dsimp only
    unfold cb_X6_reach_122
    have q_92 := i_rng r91
    refine WP.bind (cs_X6_push hfu r91 F86 G86 hI86) ?_
    rintro r93 F93 G93 ⟨hI93, hB93, hT93, hO93, hp93⟩
    dsimp only
    have q_94 := hI93.r 10 rfl
    have e_95 : (F93 10).toInt = (F86 10).toInt := hO93
    unfold cb_X6_reach_125
    unfold cb_X6_reach_213
    refine WP.ret ?_
    exact ⟨hI93, (KB.tr (KB.tr (KB.rf : KB F G F G) hB86) hB93), (KT.tr (KT.tr (rfl : KT F F) hT86) hT93), (KO.tr (KO.tr (rfl : KO F F) hO86) hO93), trivial⟩
  have l_96 : (77 : Int32).toInt = 77 := rfl
  have e_97 := mt i_eq.mpr (show ¬ (x1 = (77 : Int32)) from c_83)
  refine WP.ite (fun c_98 => ?_) (fun c_98 => ?_)
  · skip
    have l_99 : (78 : Int32).toInt = 78 := rfl
    have e_100 := i_eq.mp (show x1 = (78 : Int32) from c_98)
    unfold cb_X6_reach_128
    refine WP.bind (cs_X6_pop hfu F G hI) ?_
    rintro r101 F101 G101 ⟨hI101, hB101, hT101, hO101, hp101⟩
    dsimp only
    have q_102 := hI.r 10 rfl
    have q_103 := hI101.r 10 rfl
    have e_104 : (F101 10).toInt = (F 10).toInt := hO101
    unfold cb_X6_reach_132
    have q_105 := i_rng r101
    have l_106 : (2 : Int32).toInt = 2 := rfl
    have e_108 : ((r101 >>> ((2 : Int32) &&& 31))).toInt = r101.toInt / 4 := i_shr 2 (by decide)
    refine WP.bind (cs_X6_held hfu (r101 >>> ((2 : Int32) &&& 31)) F101 G101 hI101) ?_
    rintro r109 _ _ ⟨rfl, rfl, hp109⟩
    dsimp only
    unfold cb_X6_reach_141
    have q_110 := i_rng r109
    have l_111 : (3 : Int32).toInt = 3 := rfl
    have e_113 := i_and r101 (m := 3) 2 (by decide) (by decide)
    have l_114 : (8 : Int32).toInt = 8 := rfl
    have q_116 := i_rng ((r101 &&& (3 : Int32)) * (8 : Int32))
    have q_118 := i_rng ((r109.toUInt32 >>> (((r101 &&& (3 : Int32)) * (8 : Int32)).toUInt32 &&& Int32.toUInt32 31)).toInt32)
    have l_119 : (255 : Int32).toInt = 255 := rfl
    have e_121 := i_and ((r109.toUInt32 >>> (((r101 &&& (3 : Int32)) * (8 : Int32)).toUInt32 &&& Int32.toUInt32 31)).toInt32) (m := 255) 8 (by decide) (by decide)
    refine WP.bind (cs_X6_push hfu (((r109.toUInt32 >>> (((r101 &&& (3 : Int32)) * (8 : Int32)).toUInt32 &&& Int32.toUInt32 31)).toInt32) &&& (255 : Int32)) F101 G101 hI101) ?_
    rintro r122 F122 G122 ⟨hI122, hB122, hT122, hO122, hp122⟩
    dsimp only
    have q_123 := hI122.r 10 rfl
    have e_124 : (F122 10).toInt = (F101 10).toInt := hO122
    unfold cb_X6_reach_155
    unfold cb_X6_reach_213
    refine WP.ret ?_
    exact ⟨hI122, (KB.tr (KB.tr (KB.rf : KB F G F G) hB101) hB122), (KT.tr (KT.tr (rfl : KT F F) hT101) hT122), (KO.tr (KO.tr (rfl : KO F F) hO101) hO122), trivial⟩
  have l_125 : (78 : Int32).toInt = 78 := rfl
  have e_126 := mt i_eq.mpr (show ¬ (x1 = (78 : Int32)) from c_98)
  refine WP.ite (fun c_127 => ?_) (fun c_127 => ?_)
  · skip
    have l_128 : (79 : Int32).toInt = 79 := rfl
    have e_129 := i_eq.mp (show x1 = (79 : Int32) from c_127)
    unfold cb_X6_reach_158
    refine WP.bind (cs_X6_pop hfu F G hI) ?_
    rintro r130 F130 G130 ⟨hI130, hB130, hT130, hO130, hp130⟩
    dsimp only
    have q_131 := hI.r 10 rfl
    have q_132 := hI130.r 10 rfl
    have e_133 : (F130 10).toInt = (F 10).toInt := hO130
    unfold cb_X6_reach_162
    refine WP.bind (cs_X6_pop hfu F130 G130 hI130) ?_
    rintro r134 F134 G134 ⟨hI134, hB134, hT134, hO134, hp134⟩
    dsimp only
    have q_135 := hI134.r 10 rfl
    have e_136 : (F134 10).toInt = (F130 10).toInt := hO134
    unfold cb_X6_reach_169
    have q_137 := i_rng r134
    have q_138 := i_rng r130
    refine WP.bind (cs_X6_hold hfu r134 r130 F134 G134 hI134) ?_
    rintro r139 F139 G139 ⟨hI139, hB139, hT139, hO139, hp139⟩
    dsimp only
    have q_140 := hI139.r 10 rfl
    have e_141 : (F139 10).toInt = (F134 10).toInt := hO139
    unfold cb_X6_reach_174
    unfold cb_X6_reach_213
    refine WP.ret ?_
    exact ⟨hI139, (KB.tr (KB.tr (KB.tr (KB.rf : KB F G F G) hB130) hB134) hB139), (KT.tr (KT.tr (KT.tr (rfl : KT F F) hT130) hT134) hT139), (KO.tr (KO.tr (KO.tr (rfl : KO F F) hO130) hO134) hO139), trivial⟩
  have l_142 : (79 : Int32).toInt = 79 := rfl
  have e_143 := mt i_eq.mpr (show ¬ (x1 = (79 : Int32)) from c_127)
  unfold cb_X6_reach_177
  refine WP.bind (cs_X6_pop hfu F G hI) ?_
  rintro r144 F144 G144 ⟨hI144, hB144, hT144, hO144, hp144⟩
  dsimp only
  have q_145 := hI.r 10 rfl
  have q_146 := hI144.r 10 rfl
  have e_147 : (F144 10).toInt = (F 10).toInt := hO144
  unfold cb_X6_reach_181
  refine WP.bind (cs_X6_pop hfu F144 G144 hI144) ?_
  rintro r148 F148 G148 ⟨hI148, hB148, hT148, hO148, hp148⟩
  dsimp only
  have q_149 := hI148.r 10 rfl
  have e_150 : (F148 10).toInt = (F144 10).toInt := hO148
  unfold cb_X6_reach_188
  have q_151 := i_rng r148
  have q_152 := i_rng r144
  have l_153 : (255 : Int32).toInt = 255 := rfl
  have e_155 := i_and r144 (m := 255) 8 (by decide) (by decide)
  refine WP.bind (cs_X6_keepByte hfu r148 (r144 &&& (255 : Int32)) F148 G148 hI148) ?_
  rintro r156 F156 G156 ⟨hI156, hB156, hT156, hO156, hp156⟩
  dsimp only
  have q_157 := hI156.r 10 rfl
  have e_158 : (F156 10).toInt = (F148 10).toInt := hO156
  unfold cb_X6_reach_197
  unfold cb_X6_reach_213
  refine WP.ret ?_
  exact ⟨hI156, (KB.tr (KB.tr (KB.tr (KB.rf : KB F G F G) hB144) hB148) hB156), (KT.tr (KT.tr (KT.tr (rfl : KT F F) hT144) hT148) hT156), (KO.tr (KO.tr (KO.tr (rfl : KO F F) hO144) hO148) hO156), trivial⟩
theorem cs_X6_step {fu : Nat} (hfu : 8589934592 ≤ fu) (F : PF) (G : PG) (hI : CI F G) : WP (cf_X6_step fu F G) (fun r' F' G' => CI F' G' ∧ KB F G F' G' ∧ KT F F' ∧ KO F F' ∧ True) := by
  unfold cf_X6_step
  unfold cb_X6_step_0
  refine WP.bind (cs_X6_next hfu F G hI) ?_
  rintro r1 F1 G1 ⟨hI1, hB1, hT1, hO1, hp1⟩
  dsimp only
  have q_2 := hI.r 10 rfl
  have q_3 := hI1.r 10 rfl
  have e_4 : (F1 10).toInt = (F 10).toInt := hO1
  unfold cb_X6_step_9
  refine WP.ite (fun c_5 => ?_) (fun c_5 => ?_)
  · skip
    have q_6 := i_rng r1
    have l_7 : (45 : Int32).toInt = 45 := rfl
    have e_8 := i_lt.mp (show r1 < (45 : Int32) from c_5)
    unfold cb_X6_step_43
    refine WP.ite (fun c_9 => ?_) (fun c_9 => ?_)
    · skip
      have l_10 : (62 : Int32).toInt = 62 := rfl
      have e_11 := i_lt.mp (show r1 < (62 : Int32) from c_9)
      unfold cb_X6_step_70
      refine WP.ite (fun c_12 => ?_) (fun c_12 => ?_)
      · skip
        have l_13 : (66 : Int32).toInt = 66 := rfl
        have e_14 := i_lt.mp (show r1 < (66 : Int32) from c_12)
        unfold cb_X6_step_90
        refine WP.ite (fun c_15 => ?_) (fun c_15 => ?_)
        · skip
          have l_16 : (74 : Int32).toInt = 74 := rfl
          have e_17 := i_lt.mp (show r1 < (74 : Int32) from c_15)
          unfold cb_X6_step_110
          refine WP.ite (fun c_18 => ?_) (fun c_18 => ?_)
          · skip
            have l_19 : (84 : Int32).toInt = 84 := rfl
            have e_20 := i_lt.mp (show r1 < (84 : Int32) from c_18)
            unfold cb_X6_step_134
            have q_21 := i_rng (F 57)
            refine WP.bind (cs_X6_act hfu r1 (F 57) F1 G1 hI1) ?_
            rintro r22 F22 G22 ⟨hI22, hB22, hT22, hO22, hp22⟩
            dsimp only
            have q_23 := hI22.r 10 rfl
            have e_24 : (F22 10).toInt = (F1 10).toInt := hO22
            unfold cb_X6_step_140
            refine WP.ret ?_
            exact ⟨hI22, (KB.tr (KB.tr (KB.rf : KB F G F G) hB1) hB22), (KT.tr (KT.tr (rfl : KT F F) hT1) hT22), (KO.tr (KO.tr (rfl : KO F F) hO1) hO22), trivial⟩
          · skip
            have l_25 : (84 : Int32).toInt = 84 := rfl
            have e_26 := mt i_lt.mpr (show ¬ (r1 < (84 : Int32)) from c_18)
            unfold cb_X6_step_116
            refine WP.ite (fun c_27 => ?_) (fun c_27 => ?_)
            · skip
              have l_28 : (88 : Int32).toInt = 88 := rfl
              have e_29 := i_lt.mp (show (88 : Int32) < r1 from c_27)
              unfold cb_X6_step_134
              have q_30 := i_rng (F 57)
              refine WP.bind (cs_X6_act hfu r1 (F 57) F1 G1 hI1) ?_
              rintro r31 F31 G31 ⟨hI31, hB31, hT31, hO31, hp31⟩
              dsimp only
              have q_32 := hI31.r 10 rfl
              have e_33 : (F31 10).toInt = (F1 10).toInt := hO31
              unfold cb_X6_step_140
              refine WP.ret ?_
              exact ⟨hI31, (KB.tr (KB.tr (KB.rf : KB F G F G) hB1) hB31), (KT.tr (KT.tr (rfl : KT F F) hT1) hT31), (KO.tr (KO.tr (rfl : KO F F) hO1) hO31), trivial⟩
            · skip
              have l_34 : (88 : Int32).toInt = 88 := rfl
              have e_35 := mt i_lt.mpr (show ¬ ((88 : Int32) < r1) from c_27)
              unfold cb_X6_step_122
              refine WP.bind (cs_X6_next hfu F1 G1 hI1) ?_
              rintro r36 F36 G36 ⟨hI36, hB36, hT36, hO36, hp36⟩
              dsimp only
              have q_37 := hI36.r 10 rfl
              have e_38 : (F36 10).toInt = (F1 10).toInt := hO36
              unfold cb_X6_step_128
              have q_39 := i_rng r36
              refine WP.bind (cs_X6_jump hfu r1 r36 F36 G36 hI36) ?_
              rintro r40 F40 G40 ⟨hI40, hB40, hT40, hO40, hp40⟩
              dsimp only
              have q_41 := hI40.r 10 rfl
              have e_42 : (F40 10).toInt = (F36 10).toInt := hO40
              unfold cb_X6_step_131
              unfold cb_X6_step_140
              refine WP.ret ?_
              exact ⟨hI40, (KB.tr (KB.tr (KB.tr (KB.rf : KB F G F G) hB1) hB36) hB40), (KT.tr (KT.tr (KT.tr (rfl : KT F F) hT1) hT36) hT40), (KO.tr (KO.tr (KO.tr (rfl : KO F F) hO1) hO36) hO40), trivial⟩
        · skip
          have l_43 : (74 : Int32).toInt = 74 := rfl
          have e_44 := mt i_lt.mpr (show ¬ (r1 < (74 : Int32)) from c_15)
          unfold cb_X6_step_96
          refine WP.ite (fun c_45 => ?_) (fun c_45 => ?_)
          · skip
            have l_46 : (83 : Int32).toInt = 83 := rfl
            have e_47 := i_lt.mp (show (83 : Int32) < r1 from c_45)
            unfold cb_X6_step_110
            refine WP.ite (fun c_48 => ?_) (fun c_48 => ?_)
            · skip
              have l_49 : (84 : Int32).toInt = 84 := rfl
              have e_50 := i_lt.mp (show r1 < (84 : Int32) from c_48)
              unfold cb_X6_step_134
              have q_51 := i_rng (F 57)
              refine WP.bind (cs_X6_act hfu r1 (F 57) F1 G1 hI1) ?_
              rintro r52 F52 G52 ⟨hI52, hB52, hT52, hO52, hp52⟩
              dsimp only
              have q_53 := hI52.r 10 rfl
              have e_54 : (F52 10).toInt = (F1 10).toInt := hO52
              unfold cb_X6_step_140
              refine WP.ret ?_
              exact ⟨hI52, (KB.tr (KB.tr (KB.rf : KB F G F G) hB1) hB52), (KT.tr (KT.tr (rfl : KT F F) hT1) hT52), (KO.tr (KO.tr (rfl : KO F F) hO1) hO52), trivial⟩
            · skip
              have l_55 : (84 : Int32).toInt = 84 := rfl
              have e_56 := mt i_lt.mpr (show ¬ (r1 < (84 : Int32)) from c_48)
              unfold cb_X6_step_116
              refine WP.ite (fun c_57 => ?_) (fun c_57 => ?_)
              · skip
                have l_58 : (88 : Int32).toInt = 88 := rfl
                have e_59 := i_lt.mp (show (88 : Int32) < r1 from c_57)
                unfold cb_X6_step_134
                have q_60 := i_rng (F 57)
                refine WP.bind (cs_X6_act hfu r1 (F 57) F1 G1 hI1) ?_
                rintro r61 F61 G61 ⟨hI61, hB61, hT61, hO61, hp61⟩
                dsimp only
                have q_62 := hI61.r 10 rfl
                have e_63 : (F61 10).toInt = (F1 10).toInt := hO61
                unfold cb_X6_step_140
                refine WP.ret ?_
                exact ⟨hI61, (KB.tr (KB.tr (KB.rf : KB F G F G) hB1) hB61), (KT.tr (KT.tr (rfl : KT F F) hT1) hT61), (KO.tr (KO.tr (rfl : KO F F) hO1) hO61), trivial⟩
              · skip
                have l_64 : (88 : Int32).toInt = 88 := rfl
                have e_65 := mt i_lt.mpr (show ¬ ((88 : Int32) < r1) from c_57)
                unfold cb_X6_step_122
                refine WP.bind (cs_X6_next hfu F1 G1 hI1) ?_
                rintro r66 F66 G66 ⟨hI66, hB66, hT66, hO66, hp66⟩
                dsimp only
                have q_67 := hI66.r 10 rfl
                have e_68 : (F66 10).toInt = (F1 10).toInt := hO66
                unfold cb_X6_step_128
                have q_69 := i_rng r66
                refine WP.bind (cs_X6_jump hfu r1 r66 F66 G66 hI66) ?_
                rintro r70 F70 G70 ⟨hI70, hB70, hT70, hO70, hp70⟩
                dsimp only
                have q_71 := hI70.r 10 rfl
                have e_72 : (F70 10).toInt = (F66 10).toInt := hO70
                unfold cb_X6_step_131
                unfold cb_X6_step_140
                refine WP.ret ?_
                exact ⟨hI70, (KB.tr (KB.tr (KB.tr (KB.rf : KB F G F G) hB1) hB66) hB70), (KT.tr (KT.tr (KT.tr (rfl : KT F F) hT1) hT66) hT70), (KO.tr (KO.tr (KO.tr (rfl : KO F F) hO1) hO66) hO70), trivial⟩
          · skip
            have l_73 : (83 : Int32).toInt = 83 := rfl
            have e_74 := mt i_lt.mpr (show ¬ ((83 : Int32) < r1) from c_45)
            unfold cb_X6_step_102
            refine WP.bind (cs_X6_reach hfu r1 F1 G1 hI1) ?_
            rintro r75 F75 G75 ⟨hI75, hB75, hT75, hO75, hp75⟩
            dsimp only
            have q_76 := hI75.r 10 rfl
            have e_77 : (F75 10).toInt = (F1 10).toInt := hO75
            unfold cb_X6_step_107
            unfold cb_X6_step_140
            refine WP.ret ?_
            exact ⟨hI75, (KB.tr (KB.tr (KB.rf : KB F G F G) hB1) hB75), (KT.tr (KT.tr (rfl : KT F F) hT1) hT75), (KO.tr (KO.tr (rfl : KO F F) hO1) hO75), trivial⟩
      · skip
        have l_78 : (66 : Int32).toInt = 66 := rfl
        have e_79 := mt i_lt.mpr (show ¬ (r1 < (66 : Int32)) from c_12)
        unfold cb_X6_step_76
        refine WP.ite (fun c_80 => ?_) (fun c_80 => ?_)
        · skip
          have l_81 : (73 : Int32).toInt = 73 := rfl
          have e_82 := i_lt.mp (show (73 : Int32) < r1 from c_80)
          unfold cb_X6_step_90
          refine WP.ite (fun c_83 => ?_) (fun c_83 => ?_)
          · skip
            have l_84 : (74 : Int32).toInt = 74 := rfl
            have e_85 := i_lt.mp (show r1 < (74 : Int32) from c_83)
            unfold cb_X6_step_110
            refine WP.ite (fun c_86 => ?_) (fun c_86 => ?_)
            · skip
              have l_87 : (84 : Int32).toInt = 84 := rfl
              have e_88 := i_lt.mp (show r1 < (84 : Int32) from c_86)
              unfold cb_X6_step_134
              have q_89 := i_rng (F 57)
              refine WP.bind (cs_X6_act hfu r1 (F 57) F1 G1 hI1) ?_
              rintro r90 F90 G90 ⟨hI90, hB90, hT90, hO90, hp90⟩
              dsimp only
              have q_91 := hI90.r 10 rfl
              have e_92 : (F90 10).toInt = (F1 10).toInt := hO90
              unfold cb_X6_step_140
              refine WP.ret ?_
              exact ⟨hI90, (KB.tr (KB.tr (KB.rf : KB F G F G) hB1) hB90), (KT.tr (KT.tr (rfl : KT F F) hT1) hT90), (KO.tr (KO.tr (rfl : KO F F) hO1) hO90), trivial⟩
            · skip
              have l_93 : (84 : Int32).toInt = 84 := rfl
              have e_94 := mt i_lt.mpr (show ¬ (r1 < (84 : Int32)) from c_86)
              unfold cb_X6_step_116
              refine WP.ite (fun c_95 => ?_) (fun c_95 => ?_)
              · skip
                have l_96 : (88 : Int32).toInt = 88 := rfl
                have e_97 := i_lt.mp (show (88 : Int32) < r1 from c_95)
                unfold cb_X6_step_134
                have q_98 := i_rng (F 57)
                refine WP.bind (cs_X6_act hfu r1 (F 57) F1 G1 hI1) ?_
                rintro r99 F99 G99 ⟨hI99, hB99, hT99, hO99, hp99⟩
                dsimp only
                have q_100 := hI99.r 10 rfl
                have e_101 : (F99 10).toInt = (F1 10).toInt := hO99
                unfold cb_X6_step_140
                refine WP.ret ?_
                exact ⟨hI99, (KB.tr (KB.tr (KB.rf : KB F G F G) hB1) hB99), (KT.tr (KT.tr (rfl : KT F F) hT1) hT99), (KO.tr (KO.tr (rfl : KO F F) hO1) hO99), trivial⟩
              · skip
                have l_102 : (88 : Int32).toInt = 88 := rfl
                have e_103 := mt i_lt.mpr (show ¬ ((88 : Int32) < r1) from c_95)
                unfold cb_X6_step_122
                refine WP.bind (cs_X6_next hfu F1 G1 hI1) ?_
                rintro r104 F104 G104 ⟨hI104, hB104, hT104, hO104, hp104⟩
                dsimp only
                have q_105 := hI104.r 10 rfl
                have e_106 : (F104 10).toInt = (F1 10).toInt := hO104
                unfold cb_X6_step_128
                have q_107 := i_rng r104
                refine WP.bind (cs_X6_jump hfu r1 r104 F104 G104 hI104) ?_
                rintro r108 F108 G108 ⟨hI108, hB108, hT108, hO108, hp108⟩
                dsimp only
                have q_109 := hI108.r 10 rfl
                have e_110 : (F108 10).toInt = (F104 10).toInt := hO108
                unfold cb_X6_step_131
                unfold cb_X6_step_140
                refine WP.ret ?_
                exact ⟨hI108, (KB.tr (KB.tr (KB.tr (KB.rf : KB F G F G) hB1) hB104) hB108), (KT.tr (KT.tr (KT.tr (rfl : KT F F) hT1) hT104) hT108), (KO.tr (KO.tr (KO.tr (rfl : KO F F) hO1) hO104) hO108), trivial⟩
          · skip
            have l_111 : (74 : Int32).toInt = 74 := rfl
            have e_112 := mt i_lt.mpr (show ¬ (r1 < (74 : Int32)) from c_83)
            unfold cb_X6_step_96
            refine WP.ite (fun c_113 => ?_) (fun c_113 => ?_)
            · skip
              have l_114 : (83 : Int32).toInt = 83 := rfl
              have e_115 := i_lt.mp (show (83 : Int32) < r1 from c_113)
              unfold cb_X6_step_110
              refine WP.ite (fun c_116 => ?_) (fun c_116 => ?_)
              · skip
                have l_117 : (84 : Int32).toInt = 84 := rfl
                have e_118 := i_lt.mp (show r1 < (84 : Int32) from c_116)
                unfold cb_X6_step_134
                have q_119 := i_rng (F 57)
                refine WP.bind (cs_X6_act hfu r1 (F 57) F1 G1 hI1) ?_
                rintro r120 F120 G120 ⟨hI120, hB120, hT120, hO120, hp120⟩
                dsimp only
                have q_121 := hI120.r 10 rfl
                have e_122 : (F120 10).toInt = (F1 10).toInt := hO120
                unfold cb_X6_step_140
                refine WP.ret ?_
                exact ⟨hI120, (KB.tr (KB.tr (KB.rf : KB F G F G) hB1) hB120), (KT.tr (KT.tr (rfl : KT F F) hT1) hT120), (KO.tr (KO.tr (rfl : KO F F) hO1) hO120), trivial⟩
              · skip
                have l_123 : (84 : Int32).toInt = 84 := rfl
                have e_124 := mt i_lt.mpr (show ¬ (r1 < (84 : Int32)) from c_116)
                unfold cb_X6_step_116
                refine WP.ite (fun c_125 => ?_) (fun c_125 => ?_)
                · skip
                  have l_126 : (88 : Int32).toInt = 88 := rfl
                  have e_127 := i_lt.mp (show (88 : Int32) < r1 from c_125)
                  unfold cb_X6_step_134
                  have q_128 := i_rng (F 57)
                  refine WP.bind (cs_X6_act hfu r1 (F 57) F1 G1 hI1) ?_
                  rintro r129 F129 G129 ⟨hI129, hB129, hT129, hO129, hp129⟩
                  dsimp only
                  have q_130 := hI129.r 10 rfl
                  have e_131 : (F129 10).toInt = (F1 10).toInt := hO129
                  unfold cb_X6_step_140
                  refine WP.ret ?_
                  exact ⟨hI129, (KB.tr (KB.tr (KB.rf : KB F G F G) hB1) hB129), (KT.tr (KT.tr (rfl : KT F F) hT1) hT129), (KO.tr (KO.tr (rfl : KO F F) hO1) hO129), trivial⟩
                · skip
                  have l_132 : (88 : Int32).toInt = 88 := rfl
                  have e_133 := mt i_lt.mpr (show ¬ ((88 : Int32) < r1) from c_125)
                  unfold cb_X6_step_122
                  refine WP.bind (cs_X6_next hfu F1 G1 hI1) ?_
                  rintro r134 F134 G134 ⟨hI134, hB134, hT134, hO134, hp134⟩
                  dsimp only
                  have q_135 := hI134.r 10 rfl
                  have e_136 : (F134 10).toInt = (F1 10).toInt := hO134
                  unfold cb_X6_step_128
                  have q_137 := i_rng r134
                  refine WP.bind (cs_X6_jump hfu r1 r134 F134 G134 hI134) ?_
                  rintro r138 F138 G138 ⟨hI138, hB138, hT138, hO138, hp138⟩
                  dsimp only
                  have q_139 := hI138.r 10 rfl
                  have e_140 : (F138 10).toInt = (F134 10).toInt := hO138
                  unfold cb_X6_step_131
                  unfold cb_X6_step_140
                  refine WP.ret ?_
                  exact ⟨hI138, (KB.tr (KB.tr (KB.tr (KB.rf : KB F G F G) hB1) hB134) hB138), (KT.tr (KT.tr (KT.tr (rfl : KT F F) hT1) hT134) hT138), (KO.tr (KO.tr (KO.tr (rfl : KO F F) hO1) hO134) hO138), trivial⟩
            · skip
              have l_141 : (83 : Int32).toInt = 83 := rfl
              have e_142 := mt i_lt.mpr (show ¬ ((83 : Int32) < r1) from c_113)
              unfold cb_X6_step_102
              refine WP.bind (cs_X6_reach hfu r1 F1 G1 hI1) ?_
              rintro r143 F143 G143 ⟨hI143, hB143, hT143, hO143, hp143⟩
              dsimp only
              have q_144 := hI143.r 10 rfl
              have e_145 : (F143 10).toInt = (F1 10).toInt := hO143
              unfold cb_X6_step_107
              unfold cb_X6_step_140
              refine WP.ret ?_
              exact ⟨hI143, (KB.tr (KB.tr (KB.rf : KB F G F G) hB1) hB143), (KT.tr (KT.tr (rfl : KT F F) hT1) hT143), (KO.tr (KO.tr (rfl : KO F F) hO1) hO143), trivial⟩
        · skip
          have l_146 : (73 : Int32).toInt = 73 := rfl
          have e_147 := mt i_lt.mpr (show ¬ ((73 : Int32) < r1) from c_80)
          unfold cb_X6_step_82
          refine WP.bind (cs_X6_move hfu r1 F1 G1 hI1) ?_
          rintro r148 F148 G148 ⟨hI148, hB148, hT148, hO148, hp148⟩
          dsimp only
          have q_149 := hI148.r 10 rfl
          have e_150 : (F148 10).toInt = (F1 10).toInt := hO148
          unfold cb_X6_step_87
          unfold cb_X6_step_140
          refine WP.ret ?_
          exact ⟨hI148, (KB.tr (KB.tr (KB.rf : KB F G F G) hB1) hB148), (KT.tr (KT.tr (rfl : KT F F) hT1) hT148), (KO.tr (KO.tr (rfl : KO F F) hO1) hO148), trivial⟩
    · skip
      have l_151 : (62 : Int32).toInt = 62 := rfl
      have e_152 := mt i_lt.mpr (show ¬ (r1 < (62 : Int32)) from c_9)
      unfold cb_X6_step_49
      refine WP.ite (fun c_153 => ?_) (fun c_153 => ?_)
      · skip
        have l_154 : (65 : Int32).toInt = 65 := rfl
        have e_155 := i_lt.mp (show (65 : Int32) < r1 from c_153)
        unfold cb_X6_step_70
        refine WP.ite (fun c_156 => ?_) (fun c_156 => ?_)
        · skip
          have l_157 : (66 : Int32).toInt = 66 := rfl
          have e_158 := i_lt.mp (show r1 < (66 : Int32) from c_156)
          unfold cb_X6_step_90
          refine WP.ite (fun c_159 => ?_) (fun c_159 => ?_)
          · skip
            have l_160 : (74 : Int32).toInt = 74 := rfl
            have e_161 := i_lt.mp (show r1 < (74 : Int32) from c_159)
            unfold cb_X6_step_110
            refine WP.ite (fun c_162 => ?_) (fun c_162 => ?_)
            · skip
              have l_163 : (84 : Int32).toInt = 84 := rfl
              have e_164 := i_lt.mp (show r1 < (84 : Int32) from c_162)
              unfold cb_X6_step_134
              have q_165 := i_rng (F 57)
              refine WP.bind (cs_X6_act hfu r1 (F 57) F1 G1 hI1) ?_
              rintro r166 F166 G166 ⟨hI166, hB166, hT166, hO166, hp166⟩
              dsimp only
              have q_167 := hI166.r 10 rfl
              have e_168 : (F166 10).toInt = (F1 10).toInt := hO166
              unfold cb_X6_step_140
              refine WP.ret ?_
              exact ⟨hI166, (KB.tr (KB.tr (KB.rf : KB F G F G) hB1) hB166), (KT.tr (KT.tr (rfl : KT F F) hT1) hT166), (KO.tr (KO.tr (rfl : KO F F) hO1) hO166), trivial⟩
            · skip
              have l_169 : (84 : Int32).toInt = 84 := rfl
              have e_170 := mt i_lt.mpr (show ¬ (r1 < (84 : Int32)) from c_162)
              unfold cb_X6_step_116
              refine WP.ite (fun c_171 => ?_) (fun c_171 => ?_)
              · skip
                have l_172 : (88 : Int32).toInt = 88 := rfl
                have e_173 := i_lt.mp (show (88 : Int32) < r1 from c_171)
                unfold cb_X6_step_134
                have q_174 := i_rng (F 57)
                refine WP.bind (cs_X6_act hfu r1 (F 57) F1 G1 hI1) ?_
                rintro r175 F175 G175 ⟨hI175, hB175, hT175, hO175, hp175⟩
                dsimp only
                have q_176 := hI175.r 10 rfl
                have e_177 : (F175 10).toInt = (F1 10).toInt := hO175
                unfold cb_X6_step_140
                refine WP.ret ?_
                exact ⟨hI175, (KB.tr (KB.tr (KB.rf : KB F G F G) hB1) hB175), (KT.tr (KT.tr (rfl : KT F F) hT1) hT175), (KO.tr (KO.tr (rfl : KO F F) hO1) hO175), trivial⟩
              · skip
                have l_178 : (88 : Int32).toInt = 88 := rfl
                have e_179 := mt i_lt.mpr (show ¬ ((88 : Int32) < r1) from c_171)
                unfold cb_X6_step_122
                refine WP.bind (cs_X6_next hfu F1 G1 hI1) ?_
                rintro r180 F180 G180 ⟨hI180, hB180, hT180, hO180, hp180⟩
                dsimp only
                have q_181 := hI180.r 10 rfl
                have e_182 : (F180 10).toInt = (F1 10).toInt := hO180
                unfold cb_X6_step_128
                have q_183 := i_rng r180
                refine WP.bind (cs_X6_jump hfu r1 r180 F180 G180 hI180) ?_
                rintro r184 F184 G184 ⟨hI184, hB184, hT184, hO184, hp184⟩
                dsimp only
                have q_185 := hI184.r 10 rfl
                have e_186 : (F184 10).toInt = (F180 10).toInt := hO184
                unfold cb_X6_step_131
                unfold cb_X6_step_140
                refine WP.ret ?_
                exact ⟨hI184, (KB.tr (KB.tr (KB.tr (KB.rf : KB F G F G) hB1) hB180) hB184), (KT.tr (KT.tr (KT.tr (rfl : KT F F) hT1) hT180) hT184), (KO.tr (KO.tr (KO.tr (rfl : KO F F) hO1) hO180) hO184), trivial⟩
          · skip
            have l_187 : (74 : Int32).toInt = 74 := rfl
            have e_188 := mt i_lt.mpr (show ¬ (r1 < (74 : Int32)) from c_159)
            unfold cb_X6_step_96
            refine WP.ite (fun c_189 => ?_) (fun c_189 => ?_)
            · skip
              have l_190 : (83 : Int32).toInt = 83 := rfl
              have e_191 := i_lt.mp (show (83 : Int32) < r1 from c_189)
              unfold cb_X6_step_110
              refine WP.ite (fun c_192 => ?_) (fun c_192 => ?_)
              · skip
                have l_193 : (84 : Int32).toInt = 84 := rfl
                have e_194 := i_lt.mp (show r1 < (84 : Int32) from c_192)
                unfold cb_X6_step_134
                have q_195 := i_rng (F 57)
                refine WP.bind (cs_X6_act hfu r1 (F 57) F1 G1 hI1) ?_
                rintro r196 F196 G196 ⟨hI196, hB196, hT196, hO196, hp196⟩
                dsimp only
                have q_197 := hI196.r 10 rfl
                have e_198 : (F196 10).toInt = (F1 10).toInt := hO196
                unfold cb_X6_step_140
                refine WP.ret ?_
                exact ⟨hI196, (KB.tr (KB.tr (KB.rf : KB F G F G) hB1) hB196), (KT.tr (KT.tr (rfl : KT F F) hT1) hT196), (KO.tr (KO.tr (rfl : KO F F) hO1) hO196), trivial⟩
              · skip
                have l_199 : (84 : Int32).toInt = 84 := rfl
                have e_200 := mt i_lt.mpr (show ¬ (r1 < (84 : Int32)) from c_192)
                unfold cb_X6_step_116
                refine WP.ite (fun c_201 => ?_) (fun c_201 => ?_)
                · skip
                  have l_202 : (88 : Int32).toInt = 88 := rfl
                  have e_203 := i_lt.mp (show (88 : Int32) < r1 from c_201)
                  unfold cb_X6_step_134
                  have q_204 := i_rng (F 57)
                  refine WP.bind (cs_X6_act hfu r1 (F 57) F1 G1 hI1) ?_
                  rintro r205 F205 G205 ⟨hI205, hB205, hT205, hO205, hp205⟩
                  dsimp only
                  have q_206 := hI205.r 10 rfl
                  have e_207 : (F205 10).toInt = (F1 10).toInt := hO205
                  unfold cb_X6_step_140
                  refine WP.ret ?_
                  exact ⟨hI205, (KB.tr (KB.tr (KB.rf : KB F G F G) hB1) hB205), (KT.tr (KT.tr (rfl : KT F F) hT1) hT205), (KO.tr (KO.tr (rfl : KO F F) hO1) hO205), trivial⟩
                · skip
                  have l_208 : (88 : Int32).toInt = 88 := rfl
                  have e_209 := mt i_lt.mpr (show ¬ ((88 : Int32) < r1) from c_201)
                  unfold cb_X6_step_122
                  refine WP.bind (cs_X6_next hfu F1 G1 hI1) ?_
                  rintro r210 F210 G210 ⟨hI210, hB210, hT210, hO210, hp210⟩
                  dsimp only
                  have q_211 := hI210.r 10 rfl
                  have e_212 : (F210 10).toInt = (F1 10).toInt := hO210
                  unfold cb_X6_step_128
                  have q_213 := i_rng r210
                  refine WP.bind (cs_X6_jump hfu r1 r210 F210 G210 hI210) ?_
                  rintro r214 F214 G214 ⟨hI214, hB214, hT214, hO214, hp214⟩
                  dsimp only
                  have q_215 := hI214.r 10 rfl
                  have e_216 : (F214 10).toInt = (F210 10).toInt := hO214
                  unfold cb_X6_step_131
                  unfold cb_X6_step_140
                  refine WP.ret ?_
                  exact ⟨hI214, (KB.tr (KB.tr (KB.tr (KB.rf : KB F G F G) hB1) hB210) hB214), (KT.tr (KT.tr (KT.tr (rfl : KT F F) hT1) hT210) hT214), (KO.tr (KO.tr (KO.tr (rfl : KO F F) hO1) hO210) hO214), trivial⟩
            · skip
              have l_217 : (83 : Int32).toInt = 83 := rfl
              have e_218 := mt i_lt.mpr (show ¬ ((83 : Int32) < r1) from c_189)
              unfold cb_X6_step_102
              refine WP.bind (cs_X6_reach hfu r1 F1 G1 hI1) ?_
              rintro r219 F219 G219 ⟨hI219, hB219, hT219, hO219, hp219⟩
              dsimp only
              have q_220 := hI219.r 10 rfl
              have e_221 : (F219 10).toInt = (F1 10).toInt := hO219
              unfold cb_X6_step_107
              unfold cb_X6_step_140
              refine WP.ret ?_
              exact ⟨hI219, (KB.tr (KB.tr (KB.rf : KB F G F G) hB1) hB219), (KT.tr (KT.tr (rfl : KT F F) hT1) hT219), (KO.tr (KO.tr (rfl : KO F F) hO1) hO219), trivial⟩
        · skip
          have l_222 : (66 : Int32).toInt = 66 := rfl
          have e_223 := mt i_lt.mpr (show ¬ (r1 < (66 : Int32)) from c_156)
          unfold cb_X6_step_76
          refine WP.ite (fun c_224 => ?_) (fun c_224 => ?_)
          · skip
            have l_225 : (73 : Int32).toInt = 73 := rfl
            have e_226 := i_lt.mp (show (73 : Int32) < r1 from c_224)
            unfold cb_X6_step_90
            refine WP.ite (fun c_227 => ?_) (fun c_227 => ?_)
            · skip
              have l_228 : (74 : Int32).toInt = 74 := rfl
              have e_229 := i_lt.mp (show r1 < (74 : Int32) from c_227)
              unfold cb_X6_step_110
              refine WP.ite (fun c_230 => ?_) (fun c_230 => ?_)
              · skip
                have l_231 : (84 : Int32).toInt = 84 := rfl
                have e_232 := i_lt.mp (show r1 < (84 : Int32) from c_230)
                unfold cb_X6_step_134
                have q_233 := i_rng (F 57)
                refine WP.bind (cs_X6_act hfu r1 (F 57) F1 G1 hI1) ?_
                rintro r234 F234 G234 ⟨hI234, hB234, hT234, hO234, hp234⟩
                dsimp only
                have q_235 := hI234.r 10 rfl
                have e_236 : (F234 10).toInt = (F1 10).toInt := hO234
                unfold cb_X6_step_140
                refine WP.ret ?_
                exact ⟨hI234, (KB.tr (KB.tr (KB.rf : KB F G F G) hB1) hB234), (KT.tr (KT.tr (rfl : KT F F) hT1) hT234), (KO.tr (KO.tr (rfl : KO F F) hO1) hO234), trivial⟩
              · skip
                have l_237 : (84 : Int32).toInt = 84 := rfl
                have e_238 := mt i_lt.mpr (show ¬ (r1 < (84 : Int32)) from c_230)
                unfold cb_X6_step_116
                refine WP.ite (fun c_239 => ?_) (fun c_239 => ?_)
                · skip
                  have l_240 : (88 : Int32).toInt = 88 := rfl
                  have e_241 := i_lt.mp (show (88 : Int32) < r1 from c_239)
                  unfold cb_X6_step_134
                  have q_242 := i_rng (F 57)
                  refine WP.bind (cs_X6_act hfu r1 (F 57) F1 G1 hI1) ?_
                  rintro r243 F243 G243 ⟨hI243, hB243, hT243, hO243, hp243⟩
                  dsimp only
                  have q_244 := hI243.r 10 rfl
                  have e_245 : (F243 10).toInt = (F1 10).toInt := hO243
                  unfold cb_X6_step_140
                  refine WP.ret ?_
                  exact ⟨hI243, (KB.tr (KB.tr (KB.rf : KB F G F G) hB1) hB243), (KT.tr (KT.tr (rfl : KT F F) hT1) hT243), (KO.tr (KO.tr (rfl : KO F F) hO1) hO243), trivial⟩
                · skip
                  have l_246 : (88 : Int32).toInt = 88 := rfl
                  have e_247 := mt i_lt.mpr (show ¬ ((88 : Int32) < r1) from c_239)
                  unfold cb_X6_step_122
                  refine WP.bind (cs_X6_next hfu F1 G1 hI1) ?_
                  rintro r248 F248 G248 ⟨hI248, hB248, hT248, hO248, hp248⟩
                  dsimp only
                  have q_249 := hI248.r 10 rfl
                  have e_250 : (F248 10).toInt = (F1 10).toInt := hO248
                  unfold cb_X6_step_128
                  have q_251 := i_rng r248
                  refine WP.bind (cs_X6_jump hfu r1 r248 F248 G248 hI248) ?_
                  rintro r252 F252 G252 ⟨hI252, hB252, hT252, hO252, hp252⟩
                  dsimp only
                  have q_253 := hI252.r 10 rfl
                  have e_254 : (F252 10).toInt = (F248 10).toInt := hO252
                  unfold cb_X6_step_131
                  unfold cb_X6_step_140
                  refine WP.ret ?_
                  exact ⟨hI252, (KB.tr (KB.tr (KB.tr (KB.rf : KB F G F G) hB1) hB248) hB252), (KT.tr (KT.tr (KT.tr (rfl : KT F F) hT1) hT248) hT252), (KO.tr (KO.tr (KO.tr (rfl : KO F F) hO1) hO248) hO252), trivial⟩
            · skip
              have l_255 : (74 : Int32).toInt = 74 := rfl
              have e_256 := mt i_lt.mpr (show ¬ (r1 < (74 : Int32)) from c_227)
              unfold cb_X6_step_96
              refine WP.ite (fun c_257 => ?_) (fun c_257 => ?_)
              · skip
                have l_258 : (83 : Int32).toInt = 83 := rfl
                have e_259 := i_lt.mp (show (83 : Int32) < r1 from c_257)
                unfold cb_X6_step_110
                refine WP.ite (fun c_260 => ?_) (fun c_260 => ?_)
                · skip
                  have l_261 : (84 : Int32).toInt = 84 := rfl
                  have e_262 := i_lt.mp (show r1 < (84 : Int32) from c_260)
                  unfold cb_X6_step_134
                  have q_263 := i_rng (F 57)
                  refine WP.bind (cs_X6_act hfu r1 (F 57) F1 G1 hI1) ?_
                  rintro r264 F264 G264 ⟨hI264, hB264, hT264, hO264, hp264⟩
                  dsimp only
                  have q_265 := hI264.r 10 rfl
                  have e_266 : (F264 10).toInt = (F1 10).toInt := hO264
                  unfold cb_X6_step_140
                  refine WP.ret ?_
                  exact ⟨hI264, (KB.tr (KB.tr (KB.rf : KB F G F G) hB1) hB264), (KT.tr (KT.tr (rfl : KT F F) hT1) hT264), (KO.tr (KO.tr (rfl : KO F F) hO1) hO264), trivial⟩
                · skip
                  have l_267 : (84 : Int32).toInt = 84 := rfl
                  have e_268 := mt i_lt.mpr (show ¬ (r1 < (84 : Int32)) from c_260)
                  unfold cb_X6_step_116
                  refine WP.ite (fun c_269 => ?_) (fun c_269 => ?_)
                  · skip
                    have l_270 : (88 : Int32).toInt = 88 := rfl
                    have e_271 := i_lt.mp (show (88 : Int32) < r1 from c_269)
                    unfold cb_X6_step_134
                    have q_272 := i_rng (F 57)
                    refine WP.bind (cs_X6_act hfu r1 (F 57) F1 G1 hI1) ?_
                    rintro r273 F273 G273 ⟨hI273, hB273, hT273, hO273, hp273⟩
                    dsimp only
                    have q_274 := hI273.r 10 rfl
                    have e_275 : (F273 10).toInt = (F1 10).toInt := hO273
                    unfold cb_X6_step_140
                    refine WP.ret ?_
                    exact ⟨hI273, (KB.tr (KB.tr (KB.rf : KB F G F G) hB1) hB273), (KT.tr (KT.tr (rfl : KT F F) hT1) hT273), (KO.tr (KO.tr (rfl : KO F F) hO1) hO273), trivial⟩
                  · skip
                    have l_276 : (88 : Int32).toInt = 88 := rfl
                    have e_277 := mt i_lt.mpr (show ¬ ((88 : Int32) < r1) from c_269)
                    unfold cb_X6_step_122
                    refine WP.bind (cs_X6_next hfu F1 G1 hI1) ?_
                    rintro r278 F278 G278 ⟨hI278, hB278, hT278, hO278, hp278⟩
                    dsimp only
                    have q_279 := hI278.r 10 rfl
                    have e_280 : (F278 10).toInt = (F1 10).toInt := hO278
                    unfold cb_X6_step_128
                    have q_281 := i_rng r278
                    refine WP.bind (cs_X6_jump hfu r1 r278 F278 G278 hI278) ?_
                    rintro r282 F282 G282 ⟨hI282, hB282, hT282, hO282, hp282⟩
                    dsimp only
                    have q_283 := hI282.r 10 rfl
                    have e_284 : (F282 10).toInt = (F278 10).toInt := hO282
                    unfold cb_X6_step_131
                    unfold cb_X6_step_140
                    refine WP.ret ?_
                    exact ⟨hI282, (KB.tr (KB.tr (KB.tr (KB.rf : KB F G F G) hB1) hB278) hB282), (KT.tr (KT.tr (KT.tr (rfl : KT F F) hT1) hT278) hT282), (KO.tr (KO.tr (KO.tr (rfl : KO F F) hO1) hO278) hO282), trivial⟩
              · skip
                have l_285 : (83 : Int32).toInt = 83 := rfl
                have e_286 := mt i_lt.mpr (show ¬ ((83 : Int32) < r1) from c_257)
                unfold cb_X6_step_102
                refine WP.bind (cs_X6_reach hfu r1 F1 G1 hI1) ?_
                rintro r287 F287 G287 ⟨hI287, hB287, hT287, hO287, hp287⟩
                dsimp only
                have q_288 := hI287.r 10 rfl
                have e_289 : (F287 10).toInt = (F1 10).toInt := hO287
                unfold cb_X6_step_107
                unfold cb_X6_step_140
                refine WP.ret ?_
                exact ⟨hI287, (KB.tr (KB.tr (KB.rf : KB F G F G) hB1) hB287), (KT.tr (KT.tr (rfl : KT F F) hT1) hT287), (KO.tr (KO.tr (rfl : KO F F) hO1) hO287), trivial⟩
          · skip
            have l_290 : (73 : Int32).toInt = 73 := rfl
            have e_291 := mt i_lt.mpr (show ¬ ((73 : Int32) < r1) from c_224)
            unfold cb_X6_step_82
            refine WP.bind (cs_X6_move hfu r1 F1 G1 hI1) ?_
            rintro r292 F292 G292 ⟨hI292, hB292, hT292, hO292, hp292⟩
            dsimp only
            have q_293 := hI292.r 10 rfl
            have e_294 : (F292 10).toInt = (F1 10).toInt := hO292
            unfold cb_X6_step_87
            unfold cb_X6_step_140
            refine WP.ret ?_
            exact ⟨hI292, (KB.tr (KB.tr (KB.rf : KB F G F G) hB1) hB292), (KT.tr (KT.tr (rfl : KT F F) hT1) hT292), (KO.tr (KO.tr (rfl : KO F F) hO1) hO292), trivial⟩
      · skip
        have l_295 : (65 : Int32).toInt = 65 := rfl
        have e_296 := mt i_lt.mpr (show ¬ ((65 : Int32) < r1) from c_153)
        unfold cb_X6_step_55
        refine WP.bind (cs_X6_pop hfu F1 G1 hI1) ?_
        rintro r297 F297 G297 ⟨hI297, hB297, hT297, hO297, hp297⟩
        dsimp only
        have q_298 := hI297.r 10 rfl
        have e_299 : (F297 10).toInt = (F1 10).toInt := hO297
        unfold cb_X6_step_61
        have q_300 := i_rng r297
        refine WP.bind (cs_X6_changed hfu r1 r297 F297 G297 hI297) ?_
        rintro r301 _ _ ⟨rfl, rfl, hp301⟩
        dsimp only
        unfold cb_X6_step_64
        have q_302 := i_rng r301
        refine WP.bind (cs_X6_push hfu r301 F297 G297 hI297) ?_
        rintro r303 F303 G303 ⟨hI303, hB303, hT303, hO303, hp303⟩
        dsimp only
        have q_304 := hI303.r 10 rfl
        have e_305 : (F303 10).toInt = (F297 10).toInt := hO303
        unfold cb_X6_step_67
        unfold cb_X6_step_140
        refine WP.ret ?_
        exact ⟨hI303, (KB.tr (KB.tr (KB.tr (KB.rf : KB F G F G) hB1) hB297) hB303), (KT.tr (KT.tr (KT.tr (rfl : KT F F) hT1) hT297) hT303), (KO.tr (KO.tr (KO.tr (rfl : KO F F) hO1) hO297) hO303), trivial⟩
  · skip
    have q_306 := i_rng r1
    have l_307 : (45 : Int32).toInt = 45 := rfl
    have e_308 := mt i_lt.mpr (show ¬ (r1 < (45 : Int32)) from c_5)
    unfold cb_X6_step_16
    refine WP.ite (fun c_309 => ?_) (fun c_309 => ?_)
    · skip
      have l_310 : (61 : Int32).toInt = 61 := rfl
      have e_311 := i_lt.mp (show (61 : Int32) < r1 from c_309)
      unfold cb_X6_step_43
      refine WP.ite (fun c_312 => ?_) (fun c_312 => ?_)
      · skip
        have l_313 : (62 : Int32).toInt = 62 := rfl
        have e_314 := i_lt.mp (show r1 < (62 : Int32) from c_312)
        unfold cb_X6_step_70
        refine WP.ite (fun c_315 => ?_) (fun c_315 => ?_)
        · skip
          have l_316 : (66 : Int32).toInt = 66 := rfl
          have e_317 := i_lt.mp (show r1 < (66 : Int32) from c_315)
          unfold cb_X6_step_90
          refine WP.ite (fun c_318 => ?_) (fun c_318 => ?_)
          · skip
            have l_319 : (74 : Int32).toInt = 74 := rfl
            have e_320 := i_lt.mp (show r1 < (74 : Int32) from c_318)
            unfold cb_X6_step_110
            refine WP.ite (fun c_321 => ?_) (fun c_321 => ?_)
            · skip
              have l_322 : (84 : Int32).toInt = 84 := rfl
              have e_323 := i_lt.mp (show r1 < (84 : Int32) from c_321)
              unfold cb_X6_step_134
              have q_324 := i_rng (F 57)
              refine WP.bind (cs_X6_act hfu r1 (F 57) F1 G1 hI1) ?_
              rintro r325 F325 G325 ⟨hI325, hB325, hT325, hO325, hp325⟩
              dsimp only
              have q_326 := hI325.r 10 rfl
              have e_327 : (F325 10).toInt = (F1 10).toInt := hO325
              unfold cb_X6_step_140
              refine WP.ret ?_
              exact ⟨hI325, (KB.tr (KB.tr (KB.rf : KB F G F G) hB1) hB325), (KT.tr (KT.tr (rfl : KT F F) hT1) hT325), (KO.tr (KO.tr (rfl : KO F F) hO1) hO325), trivial⟩
            · skip
              have l_328 : (84 : Int32).toInt = 84 := rfl
              have e_329 := mt i_lt.mpr (show ¬ (r1 < (84 : Int32)) from c_321)
              unfold cb_X6_step_116
              refine WP.ite (fun c_330 => ?_) (fun c_330 => ?_)
              · skip
                have l_331 : (88 : Int32).toInt = 88 := rfl
                have e_332 := i_lt.mp (show (88 : Int32) < r1 from c_330)
                unfold cb_X6_step_134
                have q_333 := i_rng (F 57)
                refine WP.bind (cs_X6_act hfu r1 (F 57) F1 G1 hI1) ?_
                rintro r334 F334 G334 ⟨hI334, hB334, hT334, hO334, hp334⟩
                dsimp only
                have q_335 := hI334.r 10 rfl
                have e_336 : (F334 10).toInt = (F1 10).toInt := hO334
                unfold cb_X6_step_140
                refine WP.ret ?_
                exact ⟨hI334, (KB.tr (KB.tr (KB.rf : KB F G F G) hB1) hB334), (KT.tr (KT.tr (rfl : KT F F) hT1) hT334), (KO.tr (KO.tr (rfl : KO F F) hO1) hO334), trivial⟩
              · skip
                have l_337 : (88 : Int32).toInt = 88 := rfl
                have e_338 := mt i_lt.mpr (show ¬ ((88 : Int32) < r1) from c_330)
                unfold cb_X6_step_122
                refine WP.bind (cs_X6_next hfu F1 G1 hI1) ?_
                rintro r339 F339 G339 ⟨hI339, hB339, hT339, hO339, hp339⟩
                dsimp only
                have q_340 := hI339.r 10 rfl
                have e_341 : (F339 10).toInt = (F1 10).toInt := hO339
                unfold cb_X6_step_128
                have q_342 := i_rng r339
                refine WP.bind (cs_X6_jump hfu r1 r339 F339 G339 hI339) ?_
                rintro r343 F343 G343 ⟨hI343, hB343, hT343, hO343, hp343⟩
                dsimp only
                have q_344 := hI343.r 10 rfl
                have e_345 : (F343 10).toInt = (F339 10).toInt := hO343
                unfold cb_X6_step_131
                unfold cb_X6_step_140
                refine WP.ret ?_
                exact ⟨hI343, (KB.tr (KB.tr (KB.tr (KB.rf : KB F G F G) hB1) hB339) hB343), (KT.tr (KT.tr (KT.tr (rfl : KT F F) hT1) hT339) hT343), (KO.tr (KO.tr (KO.tr (rfl : KO F F) hO1) hO339) hO343), trivial⟩
          · skip
            have l_346 : (74 : Int32).toInt = 74 := rfl
            have e_347 := mt i_lt.mpr (show ¬ (r1 < (74 : Int32)) from c_318)
            unfold cb_X6_step_96
            refine WP.ite (fun c_348 => ?_) (fun c_348 => ?_)
            · skip
              have l_349 : (83 : Int32).toInt = 83 := rfl
              have e_350 := i_lt.mp (show (83 : Int32) < r1 from c_348)
              unfold cb_X6_step_110
              refine WP.ite (fun c_351 => ?_) (fun c_351 => ?_)
              · skip
                have l_352 : (84 : Int32).toInt = 84 := rfl
                have e_353 := i_lt.mp (show r1 < (84 : Int32) from c_351)
                unfold cb_X6_step_134
                have q_354 := i_rng (F 57)
                refine WP.bind (cs_X6_act hfu r1 (F 57) F1 G1 hI1) ?_
                rintro r355 F355 G355 ⟨hI355, hB355, hT355, hO355, hp355⟩
                dsimp only
                have q_356 := hI355.r 10 rfl
                have e_357 : (F355 10).toInt = (F1 10).toInt := hO355
                unfold cb_X6_step_140
                refine WP.ret ?_
                exact ⟨hI355, (KB.tr (KB.tr (KB.rf : KB F G F G) hB1) hB355), (KT.tr (KT.tr (rfl : KT F F) hT1) hT355), (KO.tr (KO.tr (rfl : KO F F) hO1) hO355), trivial⟩
              · skip
                have l_358 : (84 : Int32).toInt = 84 := rfl
                have e_359 := mt i_lt.mpr (show ¬ (r1 < (84 : Int32)) from c_351)
                unfold cb_X6_step_116
                refine WP.ite (fun c_360 => ?_) (fun c_360 => ?_)
                · skip
                  have l_361 : (88 : Int32).toInt = 88 := rfl
                  have e_362 := i_lt.mp (show (88 : Int32) < r1 from c_360)
                  unfold cb_X6_step_134
                  have q_363 := i_rng (F 57)
                  refine WP.bind (cs_X6_act hfu r1 (F 57) F1 G1 hI1) ?_
                  rintro r364 F364 G364 ⟨hI364, hB364, hT364, hO364, hp364⟩
                  dsimp only
                  have q_365 := hI364.r 10 rfl
                  have e_366 : (F364 10).toInt = (F1 10).toInt := hO364
                  unfold cb_X6_step_140
                  refine WP.ret ?_
                  exact ⟨hI364, (KB.tr (KB.tr (KB.rf : KB F G F G) hB1) hB364), (KT.tr (KT.tr (rfl : KT F F) hT1) hT364), (KO.tr (KO.tr (rfl : KO F F) hO1) hO364), trivial⟩
                · skip
                  have l_367 : (88 : Int32).toInt = 88 := rfl
                  have e_368 := mt i_lt.mpr (show ¬ ((88 : Int32) < r1) from c_360)
                  unfold cb_X6_step_122
                  refine WP.bind (cs_X6_next hfu F1 G1 hI1) ?_
                  rintro r369 F369 G369 ⟨hI369, hB369, hT369, hO369, hp369⟩
                  dsimp only
                  have q_370 := hI369.r 10 rfl
                  have e_371 : (F369 10).toInt = (F1 10).toInt := hO369
                  unfold cb_X6_step_128
                  have q_372 := i_rng r369
                  refine WP.bind (cs_X6_jump hfu r1 r369 F369 G369 hI369) ?_
                  rintro r373 F373 G373 ⟨hI373, hB373, hT373, hO373, hp373⟩
                  dsimp only
                  have q_374 := hI373.r 10 rfl
                  have e_375 : (F373 10).toInt = (F369 10).toInt := hO373
                  unfold cb_X6_step_131
                  unfold cb_X6_step_140
                  refine WP.ret ?_
                  exact ⟨hI373, (KB.tr (KB.tr (KB.tr (KB.rf : KB F G F G) hB1) hB369) hB373), (KT.tr (KT.tr (KT.tr (rfl : KT F F) hT1) hT369) hT373), (KO.tr (KO.tr (KO.tr (rfl : KO F F) hO1) hO369) hO373), trivial⟩
            · skip
              have l_376 : (83 : Int32).toInt = 83 := rfl
              have e_377 := mt i_lt.mpr (show ¬ ((83 : Int32) < r1) from c_348)
              unfold cb_X6_step_102
              refine WP.bind (cs_X6_reach hfu r1 F1 G1 hI1) ?_
              rintro r378 F378 G378 ⟨hI378, hB378, hT378, hO378, hp378⟩
              dsimp only
              have q_379 := hI378.r 10 rfl
              have e_380 : (F378 10).toInt = (F1 10).toInt := hO378
              unfold cb_X6_step_107
              unfold cb_X6_step_140
              refine WP.ret ?_
              exact ⟨hI378, (KB.tr (KB.tr (KB.rf : KB F G F G) hB1) hB378), (KT.tr (KT.tr (rfl : KT F F) hT1) hT378), (KO.tr (KO.tr (rfl : KO F F) hO1) hO378), trivial⟩
        · skip
          have l_381 : (66 : Int32).toInt = 66 := rfl
          have e_382 := mt i_lt.mpr (show ¬ (r1 < (66 : Int32)) from c_315)
          unfold cb_X6_step_76
          refine WP.ite (fun c_383 => ?_) (fun c_383 => ?_)
          · skip
            have l_384 : (73 : Int32).toInt = 73 := rfl
            have e_385 := i_lt.mp (show (73 : Int32) < r1 from c_383)
            unfold cb_X6_step_90
            refine WP.ite (fun c_386 => ?_) (fun c_386 => ?_)
            · skip
              have l_387 : (74 : Int32).toInt = 74 := rfl
              have e_388 := i_lt.mp (show r1 < (74 : Int32) from c_386)
              unfold cb_X6_step_110
              refine WP.ite (fun c_389 => ?_) (fun c_389 => ?_)
              · skip
                have l_390 : (84 : Int32).toInt = 84 := rfl
                have e_391 := i_lt.mp (show r1 < (84 : Int32) from c_389)
                unfold cb_X6_step_134
                have q_392 := i_rng (F 57)
                refine WP.bind (cs_X6_act hfu r1 (F 57) F1 G1 hI1) ?_
                rintro r393 F393 G393 ⟨hI393, hB393, hT393, hO393, hp393⟩
                dsimp only
                have q_394 := hI393.r 10 rfl
                have e_395 : (F393 10).toInt = (F1 10).toInt := hO393
                unfold cb_X6_step_140
                refine WP.ret ?_
                exact ⟨hI393, (KB.tr (KB.tr (KB.rf : KB F G F G) hB1) hB393), (KT.tr (KT.tr (rfl : KT F F) hT1) hT393), (KO.tr (KO.tr (rfl : KO F F) hO1) hO393), trivial⟩
              · skip
                have l_396 : (84 : Int32).toInt = 84 := rfl
                have e_397 := mt i_lt.mpr (show ¬ (r1 < (84 : Int32)) from c_389)
                unfold cb_X6_step_116
                refine WP.ite (fun c_398 => ?_) (fun c_398 => ?_)
                · skip
                  have l_399 : (88 : Int32).toInt = 88 := rfl
                  have e_400 := i_lt.mp (show (88 : Int32) < r1 from c_398)
                  unfold cb_X6_step_134
                  have q_401 := i_rng (F 57)
                  refine WP.bind (cs_X6_act hfu r1 (F 57) F1 G1 hI1) ?_
                  rintro r402 F402 G402 ⟨hI402, hB402, hT402, hO402, hp402⟩
                  dsimp only
                  have q_403 := hI402.r 10 rfl
                  have e_404 : (F402 10).toInt = (F1 10).toInt := hO402
                  unfold cb_X6_step_140
                  refine WP.ret ?_
                  exact ⟨hI402, (KB.tr (KB.tr (KB.rf : KB F G F G) hB1) hB402), (KT.tr (KT.tr (rfl : KT F F) hT1) hT402), (KO.tr (KO.tr (rfl : KO F F) hO1) hO402), trivial⟩
                · skip
                  have l_405 : (88 : Int32).toInt = 88 := rfl
                  have e_406 := mt i_lt.mpr (show ¬ ((88 : Int32) < r1) from c_398)
                  unfold cb_X6_step_122
                  refine WP.bind (cs_X6_next hfu F1 G1 hI1) ?_
                  rintro r407 F407 G407 ⟨hI407, hB407, hT407, hO407, hp407⟩
                  dsimp only
                  have q_408 := hI407.r 10 rfl
                  have e_409 : (F407 10).toInt = (F1 10).toInt := hO407
                  unfold cb_X6_step_128
                  have q_410 := i_rng r407
                  refine WP.bind (cs_X6_jump hfu r1 r407 F407 G407 hI407) ?_
                  rintro r411 F411 G411 ⟨hI411, hB411, hT411, hO411, hp411⟩
                  dsimp only
                  have q_412 := hI411.r 10 rfl
                  have e_413 : (F411 10).toInt = (F407 10).toInt := hO411
                  unfold cb_X6_step_131
                  unfold cb_X6_step_140
                  refine WP.ret ?_
                  exact ⟨hI411, (KB.tr (KB.tr (KB.tr (KB.rf : KB F G F G) hB1) hB407) hB411), (KT.tr (KT.tr (KT.tr (rfl : KT F F) hT1) hT407) hT411), (KO.tr (KO.tr (KO.tr (rfl : KO F F) hO1) hO407) hO411), trivial⟩
            · skip
              have l_414 : (74 : Int32).toInt = 74 := rfl
              have e_415 := mt i_lt.mpr (show ¬ (r1 < (74 : Int32)) from c_386)
              unfold cb_X6_step_96
              refine WP.ite (fun c_416 => ?_) (fun c_416 => ?_)
              · skip
                have l_417 : (83 : Int32).toInt = 83 := rfl
                have e_418 := i_lt.mp (show (83 : Int32) < r1 from c_416)
                unfold cb_X6_step_110
                refine WP.ite (fun c_419 => ?_) (fun c_419 => ?_)
                · skip
                  have l_420 : (84 : Int32).toInt = 84 := rfl
                  have e_421 := i_lt.mp (show r1 < (84 : Int32) from c_419)
                  unfold cb_X6_step_134
                  have q_422 := i_rng (F 57)
                  refine WP.bind (cs_X6_act hfu r1 (F 57) F1 G1 hI1) ?_
                  rintro r423 F423 G423 ⟨hI423, hB423, hT423, hO423, hp423⟩
                  dsimp only
                  have q_424 := hI423.r 10 rfl
                  have e_425 : (F423 10).toInt = (F1 10).toInt := hO423
                  unfold cb_X6_step_140
                  refine WP.ret ?_
                  exact ⟨hI423, (KB.tr (KB.tr (KB.rf : KB F G F G) hB1) hB423), (KT.tr (KT.tr (rfl : KT F F) hT1) hT423), (KO.tr (KO.tr (rfl : KO F F) hO1) hO423), trivial⟩
                · skip
                  have l_426 : (84 : Int32).toInt = 84 := rfl
                  have e_427 := mt i_lt.mpr (show ¬ (r1 < (84 : Int32)) from c_419)
                  unfold cb_X6_step_116
                  refine WP.ite (fun c_428 => ?_) (fun c_428 => ?_)
                  · skip
                    have l_429 : (88 : Int32).toInt = 88 := rfl
                    have e_430 := i_lt.mp (show (88 : Int32) < r1 from c_428)
                    unfold cb_X6_step_134
                    have q_431 := i_rng (F 57)
                    refine WP.bind (cs_X6_act hfu r1 (F 57) F1 G1 hI1) ?_
                    rintro r432 F432 G432 ⟨hI432, hB432, hT432, hO432, hp432⟩
                    dsimp only
                    have q_433 := hI432.r 10 rfl
                    have e_434 : (F432 10).toInt = (F1 10).toInt := hO432
                    unfold cb_X6_step_140
                    refine WP.ret ?_
                    exact ⟨hI432, (KB.tr (KB.tr (KB.rf : KB F G F G) hB1) hB432), (KT.tr (KT.tr (rfl : KT F F) hT1) hT432), (KO.tr (KO.tr (rfl : KO F F) hO1) hO432), trivial⟩
                  · skip
                    have l_435 : (88 : Int32).toInt = 88 := rfl
                    have e_436 := mt i_lt.mpr (show ¬ ((88 : Int32) < r1) from c_428)
                    unfold cb_X6_step_122
                    refine WP.bind (cs_X6_next hfu F1 G1 hI1) ?_
                    rintro r437 F437 G437 ⟨hI437, hB437, hT437, hO437, hp437⟩
                    dsimp only
                    have q_438 := hI437.r 10 rfl
                    have e_439 : (F437 10).toInt = (F1 10).toInt := hO437
                    unfold cb_X6_step_128
                    have q_440 := i_rng r437
                    refine WP.bind (cs_X6_jump hfu r1 r437 F437 G437 hI437) ?_
                    rintro r441 F441 G441 ⟨hI441, hB441, hT441, hO441, hp441⟩
                    dsimp only
                    have q_442 := hI441.r 10 rfl
                    have e_443 : (F441 10).toInt = (F437 10).toInt := hO441
                    unfold cb_X6_step_131
                    unfold cb_X6_step_140
                    refine WP.ret ?_
                    exact ⟨hI441, (KB.tr (KB.tr (KB.tr (KB.rf : KB F G F G) hB1) hB437) hB441), (KT.tr (KT.tr (KT.tr (rfl : KT F F) hT1) hT437) hT441), (KO.tr (KO.tr (KO.tr (rfl : KO F F) hO1) hO437) hO441), trivial⟩
              · skip
                have l_444 : (83 : Int32).toInt = 83 := rfl
                have e_445 := mt i_lt.mpr (show ¬ ((83 : Int32) < r1) from c_416)
                unfold cb_X6_step_102
                refine WP.bind (cs_X6_reach hfu r1 F1 G1 hI1) ?_
                rintro r446 F446 G446 ⟨hI446, hB446, hT446, hO446, hp446⟩
                dsimp only
                have q_447 := hI446.r 10 rfl
                have e_448 : (F446 10).toInt = (F1 10).toInt := hO446
                unfold cb_X6_step_107
                unfold cb_X6_step_140
                refine WP.ret ?_
                exact ⟨hI446, (KB.tr (KB.tr (KB.rf : KB F G F G) hB1) hB446), (KT.tr (KT.tr (rfl : KT F F) hT1) hT446), (KO.tr (KO.tr (rfl : KO F F) hO1) hO446), trivial⟩
          · skip
            have l_449 : (73 : Int32).toInt = 73 := rfl
            have e_450 := mt i_lt.mpr (show ¬ ((73 : Int32) < r1) from c_383)
            unfold cb_X6_step_82
            refine WP.bind (cs_X6_move hfu r1 F1 G1 hI1) ?_
            rintro r451 F451 G451 ⟨hI451, hB451, hT451, hO451, hp451⟩
            dsimp only
            have q_452 := hI451.r 10 rfl
            have e_453 : (F451 10).toInt = (F1 10).toInt := hO451
            unfold cb_X6_step_87
            unfold cb_X6_step_140
            refine WP.ret ?_
            exact ⟨hI451, (KB.tr (KB.tr (KB.rf : KB F G F G) hB1) hB451), (KT.tr (KT.tr (rfl : KT F F) hT1) hT451), (KO.tr (KO.tr (rfl : KO F F) hO1) hO451), trivial⟩
      · skip
        have l_454 : (62 : Int32).toInt = 62 := rfl
        have e_455 := mt i_lt.mpr (show ¬ (r1 < (62 : Int32)) from c_312)
        unfold cb_X6_step_49
        refine WP.ite (fun c_456 => ?_) (fun c_456 => ?_)
        · skip
          have l_457 : (65 : Int32).toInt = 65 := rfl
          have e_458 := i_lt.mp (show (65 : Int32) < r1 from c_456)
          unfold cb_X6_step_70
          refine WP.ite (fun c_459 => ?_) (fun c_459 => ?_)
          · skip
            have l_460 : (66 : Int32).toInt = 66 := rfl
            have e_461 := i_lt.mp (show r1 < (66 : Int32) from c_459)
            unfold cb_X6_step_90
            refine WP.ite (fun c_462 => ?_) (fun c_462 => ?_)
            · skip
              have l_463 : (74 : Int32).toInt = 74 := rfl
              have e_464 := i_lt.mp (show r1 < (74 : Int32) from c_462)
              unfold cb_X6_step_110
              refine WP.ite (fun c_465 => ?_) (fun c_465 => ?_)
              · skip
                have l_466 : (84 : Int32).toInt = 84 := rfl
                have e_467 := i_lt.mp (show r1 < (84 : Int32) from c_465)
                unfold cb_X6_step_134
                have q_468 := i_rng (F 57)
                refine WP.bind (cs_X6_act hfu r1 (F 57) F1 G1 hI1) ?_
                rintro r469 F469 G469 ⟨hI469, hB469, hT469, hO469, hp469⟩
                dsimp only
                have q_470 := hI469.r 10 rfl
                have e_471 : (F469 10).toInt = (F1 10).toInt := hO469
                unfold cb_X6_step_140
                refine WP.ret ?_
                exact ⟨hI469, (KB.tr (KB.tr (KB.rf : KB F G F G) hB1) hB469), (KT.tr (KT.tr (rfl : KT F F) hT1) hT469), (KO.tr (KO.tr (rfl : KO F F) hO1) hO469), trivial⟩
              · skip
                have l_472 : (84 : Int32).toInt = 84 := rfl
                have e_473 := mt i_lt.mpr (show ¬ (r1 < (84 : Int32)) from c_465)
                unfold cb_X6_step_116
                refine WP.ite (fun c_474 => ?_) (fun c_474 => ?_)
                · skip
                  have l_475 : (88 : Int32).toInt = 88 := rfl
                  have e_476 := i_lt.mp (show (88 : Int32) < r1 from c_474)
                  unfold cb_X6_step_134
                  have q_477 := i_rng (F 57)
                  refine WP.bind (cs_X6_act hfu r1 (F 57) F1 G1 hI1) ?_
                  rintro r478 F478 G478 ⟨hI478, hB478, hT478, hO478, hp478⟩
                  dsimp only
                  have q_479 := hI478.r 10 rfl
                  have e_480 : (F478 10).toInt = (F1 10).toInt := hO478
                  unfold cb_X6_step_140
                  refine WP.ret ?_
                  exact ⟨hI478, (KB.tr (KB.tr (KB.rf : KB F G F G) hB1) hB478), (KT.tr (KT.tr (rfl : KT F F) hT1) hT478), (KO.tr (KO.tr (rfl : KO F F) hO1) hO478), trivial⟩
                · skip
                  have l_481 : (88 : Int32).toInt = 88 := rfl
                  have e_482 := mt i_lt.mpr (show ¬ ((88 : Int32) < r1) from c_474)
                  unfold cb_X6_step_122
                  refine WP.bind (cs_X6_next hfu F1 G1 hI1) ?_
                  rintro r483 F483 G483 ⟨hI483, hB483, hT483, hO483, hp483⟩
                  dsimp only
                  have q_484 := hI483.r 10 rfl
                  have e_485 : (F483 10).toInt = (F1 10).toInt := hO483
                  unfold cb_X6_step_128
                  have q_486 := i_rng r483
                  refine WP.bind (cs_X6_jump hfu r1 r483 F483 G483 hI483) ?_
                  rintro r487 F487 G487 ⟨hI487, hB487, hT487, hO487, hp487⟩
                  dsimp only
                  have q_488 := hI487.r 10 rfl
                  have e_489 : (F487 10).toInt = (F483 10).toInt := hO487
                  unfold cb_X6_step_131
                  unfold cb_X6_step_140
                  refine WP.ret ?_
                  exact ⟨hI487, (KB.tr (KB.tr (KB.tr (KB.rf : KB F G F G) hB1) hB483) hB487), (KT.tr (KT.tr (KT.tr (rfl : KT F F) hT1) hT483) hT487), (KO.tr (KO.tr (KO.tr (rfl : KO F F) hO1) hO483) hO487), trivial⟩
            · skip
              have l_490 : (74 : Int32).toInt = 74 := rfl
              have e_491 := mt i_lt.mpr (show ¬ (r1 < (74 : Int32)) from c_462)
              unfold cb_X6_step_96
              refine WP.ite (fun c_492 => ?_) (fun c_492 => ?_)
              · skip
                have l_493 : (83 : Int32).toInt = 83 := rfl
                have e_494 := i_lt.mp (show (83 : Int32) < r1 from c_492)
                unfold cb_X6_step_110
                refine WP.ite (fun c_495 => ?_) (fun c_495 => ?_)
                · skip
                  have l_496 : (84 : Int32).toInt = 84 := rfl
                  have e_497 := i_lt.mp (show r1 < (84 : Int32) from c_495)
                  unfold cb_X6_step_134
                  have q_498 := i_rng (F 57)
                  refine WP.bind (cs_X6_act hfu r1 (F 57) F1 G1 hI1) ?_
                  rintro r499 F499 G499 ⟨hI499, hB499, hT499, hO499, hp499⟩
                  dsimp only
                  have q_500 := hI499.r 10 rfl
                  have e_501 : (F499 10).toInt = (F1 10).toInt := hO499
                  unfold cb_X6_step_140
                  refine WP.ret ?_
                  exact ⟨hI499, (KB.tr (KB.tr (KB.rf : KB F G F G) hB1) hB499), (KT.tr (KT.tr (rfl : KT F F) hT1) hT499), (KO.tr (KO.tr (rfl : KO F F) hO1) hO499), trivial⟩
                · skip
                  have l_502 : (84 : Int32).toInt = 84 := rfl
                  have e_503 := mt i_lt.mpr (show ¬ (r1 < (84 : Int32)) from c_495)
                  unfold cb_X6_step_116
                  refine WP.ite (fun c_504 => ?_) (fun c_504 => ?_)
                  · skip
                    have l_505 : (88 : Int32).toInt = 88 := rfl
                    have e_506 := i_lt.mp (show (88 : Int32) < r1 from c_504)
                    unfold cb_X6_step_134
                    have q_507 := i_rng (F 57)
                    refine WP.bind (cs_X6_act hfu r1 (F 57) F1 G1 hI1) ?_
                    rintro r508 F508 G508 ⟨hI508, hB508, hT508, hO508, hp508⟩
                    dsimp only
                    have q_509 := hI508.r 10 rfl
                    have e_510 : (F508 10).toInt = (F1 10).toInt := hO508
                    unfold cb_X6_step_140
                    refine WP.ret ?_
                    exact ⟨hI508, (KB.tr (KB.tr (KB.rf : KB F G F G) hB1) hB508), (KT.tr (KT.tr (rfl : KT F F) hT1) hT508), (KO.tr (KO.tr (rfl : KO F F) hO1) hO508), trivial⟩
                  · skip
                    have l_511 : (88 : Int32).toInt = 88 := rfl
                    have e_512 := mt i_lt.mpr (show ¬ ((88 : Int32) < r1) from c_504)
                    unfold cb_X6_step_122
                    refine WP.bind (cs_X6_next hfu F1 G1 hI1) ?_
                    rintro r513 F513 G513 ⟨hI513, hB513, hT513, hO513, hp513⟩
                    dsimp only
                    have q_514 := hI513.r 10 rfl
                    have e_515 : (F513 10).toInt = (F1 10).toInt := hO513
                    unfold cb_X6_step_128
                    have q_516 := i_rng r513
                    refine WP.bind (cs_X6_jump hfu r1 r513 F513 G513 hI513) ?_
                    rintro r517 F517 G517 ⟨hI517, hB517, hT517, hO517, hp517⟩
                    dsimp only
                    have q_518 := hI517.r 10 rfl
                    have e_519 : (F517 10).toInt = (F513 10).toInt := hO517
                    unfold cb_X6_step_131
                    unfold cb_X6_step_140
                    refine WP.ret ?_
                    exact ⟨hI517, (KB.tr (KB.tr (KB.tr (KB.rf : KB F G F G) hB1) hB513) hB517), (KT.tr (KT.tr (KT.tr (rfl : KT F F) hT1) hT513) hT517), (KO.tr (KO.tr (KO.tr (rfl : KO F F) hO1) hO513) hO517), trivial⟩
              · skip
                have l_520 : (83 : Int32).toInt = 83 := rfl
                have e_521 := mt i_lt.mpr (show ¬ ((83 : Int32) < r1) from c_492)
                unfold cb_X6_step_102
                refine WP.bind (cs_X6_reach hfu r1 F1 G1 hI1) ?_
                rintro r522 F522 G522 ⟨hI522, hB522, hT522, hO522, hp522⟩
                dsimp only
                have q_523 := hI522.r 10 rfl
                have e_524 : (F522 10).toInt = (F1 10).toInt := hO522
                unfold cb_X6_step_107
                unfold cb_X6_step_140
                refine WP.ret ?_
                exact ⟨hI522, (KB.tr (KB.tr (KB.rf : KB F G F G) hB1) hB522), (KT.tr (KT.tr (rfl : KT F F) hT1) hT522), (KO.tr (KO.tr (rfl : KO F F) hO1) hO522), trivial⟩
          · skip
            have l_525 : (66 : Int32).toInt = 66 := rfl
            have e_526 := mt i_lt.mpr (show ¬ (r1 < (66 : Int32)) from c_459)
            unfold cb_X6_step_76
            refine WP.ite (fun c_527 => ?_) (fun c_527 => ?_)
            · skip
              have l_528 : (73 : Int32).toInt = 73 := rfl
              have e_529 := i_lt.mp (show (73 : Int32) < r1 from c_527)
              unfold cb_X6_step_90
              refine WP.ite (fun c_530 => ?_) (fun c_530 => ?_)
              · skip
                have l_531 : (74 : Int32).toInt = 74 := rfl
                have e_532 := i_lt.mp (show r1 < (74 : Int32) from c_530)
                unfold cb_X6_step_110
                refine WP.ite (fun c_533 => ?_) (fun c_533 => ?_)
                · skip
                  have l_534 : (84 : Int32).toInt = 84 := rfl
                  have e_535 := i_lt.mp (show r1 < (84 : Int32) from c_533)
                  unfold cb_X6_step_134
                  have q_536 := i_rng (F 57)
                  refine WP.bind (cs_X6_act hfu r1 (F 57) F1 G1 hI1) ?_
                  rintro r537 F537 G537 ⟨hI537, hB537, hT537, hO537, hp537⟩
                  dsimp only
                  have q_538 := hI537.r 10 rfl
                  have e_539 : (F537 10).toInt = (F1 10).toInt := hO537
                  unfold cb_X6_step_140
                  refine WP.ret ?_
                  exact ⟨hI537, (KB.tr (KB.tr (KB.rf : KB F G F G) hB1) hB537), (KT.tr (KT.tr (rfl : KT F F) hT1) hT537), (KO.tr (KO.tr (rfl : KO F F) hO1) hO537), trivial⟩
                · skip
                  have l_540 : (84 : Int32).toInt = 84 := rfl
                  have e_541 := mt i_lt.mpr (show ¬ (r1 < (84 : Int32)) from c_533)
                  unfold cb_X6_step_116
                  refine WP.ite (fun c_542 => ?_) (fun c_542 => ?_)
                  · skip
                    have l_543 : (88 : Int32).toInt = 88 := rfl
                    have e_544 := i_lt.mp (show (88 : Int32) < r1 from c_542)
                    unfold cb_X6_step_134
                    have q_545 := i_rng (F 57)
                    refine WP.bind (cs_X6_act hfu r1 (F 57) F1 G1 hI1) ?_
                    rintro r546 F546 G546 ⟨hI546, hB546, hT546, hO546, hp546⟩
                    dsimp only
                    have q_547 := hI546.r 10 rfl
                    have e_548 : (F546 10).toInt = (F1 10).toInt := hO546
                    unfold cb_X6_step_140
                    refine WP.ret ?_
                    exact ⟨hI546, (KB.tr (KB.tr (KB.rf : KB F G F G) hB1) hB546), (KT.tr (KT.tr (rfl : KT F F) hT1) hT546), (KO.tr (KO.tr (rfl : KO F F) hO1) hO546), trivial⟩
                  · skip
                    have l_549 : (88 : Int32).toInt = 88 := rfl
                    have e_550 := mt i_lt.mpr (show ¬ ((88 : Int32) < r1) from c_542)
                    unfold cb_X6_step_122
                    refine WP.bind (cs_X6_next hfu F1 G1 hI1) ?_
                    rintro r551 F551 G551 ⟨hI551, hB551, hT551, hO551, hp551⟩
                    dsimp only
                    have q_552 := hI551.r 10 rfl
                    have e_553 : (F551 10).toInt = (F1 10).toInt := hO551
                    unfold cb_X6_step_128
                    have q_554 := i_rng r551
                    refine WP.bind (cs_X6_jump hfu r1 r551 F551 G551 hI551) ?_
                    rintro r555 F555 G555 ⟨hI555, hB555, hT555, hO555, hp555⟩
                    dsimp only
                    have q_556 := hI555.r 10 rfl
                    have e_557 : (F555 10).toInt = (F551 10).toInt := hO555
                    unfold cb_X6_step_131
                    unfold cb_X6_step_140
                    refine WP.ret ?_
                    exact ⟨hI555, (KB.tr (KB.tr (KB.tr (KB.rf : KB F G F G) hB1) hB551) hB555), (KT.tr (KT.tr (KT.tr (rfl : KT F F) hT1) hT551) hT555), (KO.tr (KO.tr (KO.tr (rfl : KO F F) hO1) hO551) hO555), trivial⟩
              · skip
                have l_558 : (74 : Int32).toInt = 74 := rfl
                have e_559 := mt i_lt.mpr (show ¬ (r1 < (74 : Int32)) from c_530)
                unfold cb_X6_step_96
                refine WP.ite (fun c_560 => ?_) (fun c_560 => ?_)
                · skip
                  have l_561 : (83 : Int32).toInt = 83 := rfl
                  have e_562 := i_lt.mp (show (83 : Int32) < r1 from c_560)
                  unfold cb_X6_step_110
                  refine WP.ite (fun c_563 => ?_) (fun c_563 => ?_)
                  · skip
                    have l_564 : (84 : Int32).toInt = 84 := rfl
                    have e_565 := i_lt.mp (show r1 < (84 : Int32) from c_563)
                    unfold cb_X6_step_134
                    have q_566 := i_rng (F 57)
                    refine WP.bind (cs_X6_act hfu r1 (F 57) F1 G1 hI1) ?_
                    rintro r567 F567 G567 ⟨hI567, hB567, hT567, hO567, hp567⟩
                    dsimp only
                    have q_568 := hI567.r 10 rfl
                    have e_569 : (F567 10).toInt = (F1 10).toInt := hO567
                    unfold cb_X6_step_140
                    refine WP.ret ?_
                    exact ⟨hI567, (KB.tr (KB.tr (KB.rf : KB F G F G) hB1) hB567), (KT.tr (KT.tr (rfl : KT F F) hT1) hT567), (KO.tr (KO.tr (rfl : KO F F) hO1) hO567), trivial⟩
                  · skip
                    have l_570 : (84 : Int32).toInt = 84 := rfl
                    have e_571 := mt i_lt.mpr (show ¬ (r1 < (84 : Int32)) from c_563)
                    unfold cb_X6_step_116
                    refine WP.ite (fun c_572 => ?_) (fun c_572 => ?_)
                    · skip
                      have l_573 : (88 : Int32).toInt = 88 := rfl
                      have e_574 := i_lt.mp (show (88 : Int32) < r1 from c_572)
                      unfold cb_X6_step_134
                      have q_575 := i_rng (F 57)
                      refine WP.bind (cs_X6_act hfu r1 (F 57) F1 G1 hI1) ?_
                      rintro r576 F576 G576 ⟨hI576, hB576, hT576, hO576, hp576⟩
                      dsimp only
                      have q_577 := hI576.r 10 rfl
                      have e_578 : (F576 10).toInt = (F1 10).toInt := hO576
                      unfold cb_X6_step_140
                      refine WP.ret ?_
                      exact ⟨hI576, (KB.tr (KB.tr (KB.rf : KB F G F G) hB1) hB576), (KT.tr (KT.tr (rfl : KT F F) hT1) hT576), (KO.tr (KO.tr (rfl : KO F F) hO1) hO576), trivial⟩
                    · skip
                      have l_579 : (88 : Int32).toInt = 88 := rfl
                      have e_580 := mt i_lt.mpr (show ¬ ((88 : Int32) < r1) from c_572)
                      unfold cb_X6_step_122
                      refine WP.bind (cs_X6_next hfu F1 G1 hI1) ?_
                      rintro r581 F581 G581 ⟨hI581, hB581, hT581, hO581, hp581⟩
                      dsimp only
                      have q_582 := hI581.r 10 rfl
                      have e_583 : (F581 10).toInt = (F1 10).toInt := hO581
                      unfold cb_X6_step_128
                      have q_584 := i_rng r581
                      refine WP.bind (cs_X6_jump hfu r1 r581 F581 G581 hI581) ?_
                      rintro r585 F585 G585 ⟨hI585, hB585, hT585, hO585, hp585⟩
                      dsimp only
                      have q_586 := hI585.r 10 rfl
                      have e_587 : (F585 10).toInt = (F581 10).toInt := hO585
                      unfold cb_X6_step_131
                      unfold cb_X6_step_140
                      refine WP.ret ?_
                      exact ⟨hI585, (KB.tr (KB.tr (KB.tr (KB.rf : KB F G F G) hB1) hB581) hB585), (KT.tr (KT.tr (KT.tr (rfl : KT F F) hT1) hT581) hT585), (KO.tr (KO.tr (KO.tr (rfl : KO F F) hO1) hO581) hO585), trivial⟩
                · skip
                  have l_588 : (83 : Int32).toInt = 83 := rfl
                  have e_589 := mt i_lt.mpr (show ¬ ((83 : Int32) < r1) from c_560)
                  unfold cb_X6_step_102
                  refine WP.bind (cs_X6_reach hfu r1 F1 G1 hI1) ?_
                  rintro r590 F590 G590 ⟨hI590, hB590, hT590, hO590, hp590⟩
                  dsimp only
                  have q_591 := hI590.r 10 rfl
                  have e_592 : (F590 10).toInt = (F1 10).toInt := hO590
                  unfold cb_X6_step_107
                  unfold cb_X6_step_140
                  refine WP.ret ?_
                  exact ⟨hI590, (KB.tr (KB.tr (KB.rf : KB F G F G) hB1) hB590), (KT.tr (KT.tr (rfl : KT F F) hT1) hT590), (KO.tr (KO.tr (rfl : KO F F) hO1) hO590), trivial⟩
            · skip
              have l_593 : (73 : Int32).toInt = 73 := rfl
              have e_594 := mt i_lt.mpr (show ¬ ((73 : Int32) < r1) from c_527)
              unfold cb_X6_step_82
              refine WP.bind (cs_X6_move hfu r1 F1 G1 hI1) ?_
              rintro r595 F595 G595 ⟨hI595, hB595, hT595, hO595, hp595⟩
              dsimp only
              have q_596 := hI595.r 10 rfl
              have e_597 : (F595 10).toInt = (F1 10).toInt := hO595
              unfold cb_X6_step_87
              unfold cb_X6_step_140
              refine WP.ret ?_
              exact ⟨hI595, (KB.tr (KB.tr (KB.rf : KB F G F G) hB1) hB595), (KT.tr (KT.tr (rfl : KT F F) hT1) hT595), (KO.tr (KO.tr (rfl : KO F F) hO1) hO595), trivial⟩
        · skip
          have l_598 : (65 : Int32).toInt = 65 := rfl
          have e_599 := mt i_lt.mpr (show ¬ ((65 : Int32) < r1) from c_456)
          unfold cb_X6_step_55
          refine WP.bind (cs_X6_pop hfu F1 G1 hI1) ?_
          rintro r600 F600 G600 ⟨hI600, hB600, hT600, hO600, hp600⟩
          dsimp only
          have q_601 := hI600.r 10 rfl
          have e_602 : (F600 10).toInt = (F1 10).toInt := hO600
          unfold cb_X6_step_61
          have q_603 := i_rng r600
          refine WP.bind (cs_X6_changed hfu r1 r600 F600 G600 hI600) ?_
          rintro r604 _ _ ⟨rfl, rfl, hp604⟩
          dsimp only
          unfold cb_X6_step_64
          have q_605 := i_rng r604
          refine WP.bind (cs_X6_push hfu r604 F600 G600 hI600) ?_
          rintro r606 F606 G606 ⟨hI606, hB606, hT606, hO606, hp606⟩
          dsimp only
          have q_607 := hI606.r 10 rfl
          have e_608 : (F606 10).toInt = (F600 10).toInt := hO606
          unfold cb_X6_step_67
          unfold cb_X6_step_140
          refine WP.ret ?_
          exact ⟨hI606, (KB.tr (KB.tr (KB.tr (KB.rf : KB F G F G) hB1) hB600) hB606), (KT.tr (KT.tr (KT.tr (rfl : KT F F) hT1) hT600) hT606), (KO.tr (KO.tr (KO.tr (rfl : KO F F) hO1) hO600) hO606), trivial⟩
    · skip
      have l_609 : (61 : Int32).toInt = 61 := rfl
      have e_610 := mt i_lt.mpr (show ¬ ((61 : Int32) < r1) from c_309)
      unfold cb_X6_step_22
      refine WP.bind (cs_X6_pop hfu F1 G1 hI1) ?_
      rintro r611 F611 G611 ⟨hI611, hB611, hT611, hO611, hp611⟩
      dsimp only
      have q_612 := hI611.r 10 rfl
      have e_613 : (F611 10).toInt = (F1 10).toInt := hO611
      unfold cb_X6_step_26
      refine WP.bind (cs_X6_pop hfu F611 G611 hI611) ?_
      rintro r614 F614 G614 ⟨hI614, hB614, hT614, hO614, hp614⟩
      dsimp only
      have q_615 := hI614.r 10 rfl
      have e_616 : (F614 10).toInt = (F611 10).toInt := hO614
      unfold cb_X6_step_33
      have q_617 := i_rng r614
      have q_618 := i_rng r611
      refine WP.bind (cs_X11_joined hfu r1 r614 r611 F614 G614 hI614) ?_
      rintro r619 _ _ ⟨rfl, rfl, hp619⟩
      dsimp only
      unfold cb_X6_step_37
      have q_620 := i_rng r619
      refine WP.bind (cs_X6_push hfu r619 F614 G614 hI614) ?_
      rintro r621 F621 G621 ⟨hI621, hB621, hT621, hO621, hp621⟩
      dsimp only
      have q_622 := hI621.r 10 rfl
      have e_623 : (F621 10).toInt = (F614 10).toInt := hO621
      unfold cb_X6_step_40
      unfold cb_X6_step_140
      refine WP.ret ?_
      exact ⟨hI621, (KB.tr (KB.tr (KB.tr (KB.tr (KB.rf : KB F G F G) hB1) hB611) hB614) hB621), (KT.tr (KT.tr (KT.tr (KT.tr (rfl : KT F F) hT1) hT611) hT614) hT621), (KO.tr (KO.tr (KO.tr (KO.tr (rfl : KO F F) hO1) hO611) hO614) hO621), trivial⟩
