theorem cs_X6_move {fu : Nat} (hfu : 8589934592 ≤ fu) (x1 : Int32) (F : PF) (G : PG) (hI : CI F G) : WP (cf_X6_move fu x1 F G) (fun r' F' G' => CI F' G' ∧ KB F G F' G' ∧ KT F F' ∧ KO F F' ∧ KK F F' ∧ True) := by
  unfold cf_X6_move
  unfold cb_X6_move_0
  have q_1 := i_rng x1
  refine WP.ite (fun c_2 => ?_) (fun c_2 => ?_)
  · have e_3 : x1.toInt < 66 ∨ 72 < x1.toInt := c_2
    unfold cb_X6_move_151
    refine WP.bind (cs_X6_next hfu F G hI) ?_
    rintro r4 F4 G4 ⟨hI4, hB4, hT4, hO4, hK4, hp4⟩
    dsimp only
    have q_5 := hI.r 10 rfl
    have q_6 := hI4.r 10 rfl
    have e_7 : (F4 10).toInt = (F 10).toInt := hO4
    unfold cb_X6_move_160
    refine WP.bind (cs_X6_next hfu F4 G4 hI4) ?_
    rintro r8 F8 G8 ⟨hI8, hB8, hT8, hO8, hK8, hp8⟩
    dsimp only
    have q_9 := hI8.r 10 rfl
    have e_10 : (F8 10).toInt = (F4 10).toInt := hO8
    unfold cb_X6_move_165
    have q_11 := i_rng (F 58)
    have q_12 := i_rng r4
    first | have e_13 : ((F 58) + r4).toInt = (F 58).toInt + (r4.toInt) := i_addn (F 58) rfl (by omega) (by omega) | have e_14 := i_rng ((F 58) + r4)
    have q_15 := i_rng r8
    refine WP.bind (cs_X6_clear hfu ((F 58) + r4) r8 F8 G8 hI8) ?_
    rintro r16 F16 G16 ⟨hI16, hB16, hT16, hO16, hK16, hp16⟩
    dsimp only
    have q_17 := hI16.r 10 rfl
    have e_18 : (F16 10).toInt = (F8 10).toInt := hO16
    unfold cb_X6_move_168
    refine WP.ret ?_
    exact ⟨hI16, (KB.tr (KB.tr (KB.tr (KB.rf : KB F G F G) hB4) hB8) hB16), (KT.tr (KT.tr (KT.tr (rfl : KT F F) hT4) hT8) hT16), (KO.tr (KO.tr (KO.tr (rfl : KO F F) hO4) hO8) hO16), (KK.tr (KK.tr (KK.tr (rfl : KK F F) hK4) hK8) hK16), trivial⟩
  have e_19 : ¬ (x1.toInt < 66 ∨ 72 < x1.toInt) := c_2
  refine WP.ite (fun c_20 => ?_) (fun c_20 => ?_)
  · skip
    have l_21 : (66 : Int32).toInt = 66 := rfl
    have e_22 := i_eq.mp (show x1 = (66 : Int32) from c_20)
    unfold cb_X6_move_44
    refine WP.bind (cs_X6_next hfu F G hI) ?_
    rintro r23 F23 G23 ⟨hI23, hB23, hT23, hO23, hK23, hp23⟩
    dsimp only
    have q_24 := hI.r 10 rfl
    have q_25 := hI23.r 10 rfl
    have e_26 : (F23 10).toInt = (F 10).toInt := hO23
    unfold cb_X6_move_49
    have q_27 := i_rng r23
    refine WP.bind (cs_X6_push hfu r23 F23 G23 hI23) ?_
    rintro r28 F28 G28 ⟨hI28, hB28, hT28, hO28, hK28, hp28⟩
    dsimp only
    have q_29 := hI28.r 10 rfl
    have e_30 : (F28 10).toInt = (F23 10).toInt := hO28
    unfold cb_X6_move_52
    unfold cb_X6_move_168
    refine WP.ret ?_
    exact ⟨hI28, (KB.tr (KB.tr (KB.rf : KB F G F G) hB23) hB28), (KT.tr (KT.tr (rfl : KT F F) hT23) hT28), (KO.tr (KO.tr (rfl : KO F F) hO23) hO28), (KK.tr (KK.tr (rfl : KK F F) hK23) hK28), trivial⟩
  have l_31 : (66 : Int32).toInt = 66 := rfl
  have e_32 := mt i_eq.mpr (show ¬ (x1 = (66 : Int32)) from c_20)
  refine WP.ite (fun c_33 => ?_) (fun c_33 => ?_)
  · skip
    have l_34 : (67 : Int32).toInt = 67 := rfl
    have e_35 := i_eq.mp (show x1 = (67 : Int32) from c_33)
    unfold cb_X6_move_55
    refine WP.bind (cs_X6_pop hfu F G hI) ?_
    rintro r36 F36 G36 ⟨hI36, hB36, hT36, hO36, hK36, hp36⟩
    dsimp only
    have q_37 := hI.r 10 rfl
    have q_38 := hI36.r 10 rfl
    have e_39 : (F36 10).toInt = (F 10).toInt := hO36
    unfold cb_X6_move_59
    have q_40 := i_rng r36
    refine WP.bind (cs_X6_push hfu r36 F36 G36 hI36) ?_
    rintro r41 F41 G41 ⟨hI41, hB41, hT41, hO41, hK41, hp41⟩
    dsimp only
    have q_42 := hI41.r 10 rfl
    have e_43 : (F41 10).toInt = (F36 10).toInt := hO41
    unfold cb_X6_move_65
    refine WP.bind (cs_X6_push hfu r36 F41 G41 hI41) ?_
    rintro r44 F44 G44 ⟨hI44, hB44, hT44, hO44, hK44, hp44⟩
    dsimp only
    have q_45 := hI44.r 10 rfl
    have e_46 : (F44 10).toInt = (F41 10).toInt := hO44
    unfold cb_X6_move_70
    unfold cb_X6_move_168
    refine WP.ret ?_
    exact ⟨hI44, (KB.tr (KB.tr (KB.tr (KB.rf : KB F G F G) hB36) hB41) hB44), (KT.tr (KT.tr (KT.tr (rfl : KT F F) hT36) hT41) hT44), (KO.tr (KO.tr (KO.tr (rfl : KO F F) hO36) hO41) hO44), (KK.tr (KK.tr (KK.tr (rfl : KK F F) hK36) hK41) hK44), trivial⟩
  have l_47 : (67 : Int32).toInt = 67 := rfl
  have e_48 := mt i_eq.mpr (show ¬ (x1 = (67 : Int32)) from c_33)
  refine WP.ite (fun c_49 => ?_) (fun c_49 => ?_)
  · skip
    have l_50 : (68 : Int32).toInt = 68 := rfl
    have e_51 := i_eq.mp (show x1 = (68 : Int32) from c_49)
    unfold cb_X6_move_73
    refine WP.bind (cs_X6_pop hfu F G hI) ?_
    rintro r52 F52 G52 ⟨hI52, hB52, hT52, hO52, hK52, hp52⟩
    dsimp only
    have q_53 := hI.r 10 rfl
    have q_54 := hI52.r 10 rfl
    have e_55 : (F52 10).toInt = (F 10).toInt := hO52
    unfold cb_X6_move_77
    unfold cb_X6_move_168
    refine WP.ret ?_
    exact ⟨hI52, (KB.tr (KB.rf : KB F G F G) hB52), (KT.tr (rfl : KT F F) hT52), (KO.tr (rfl : KO F F) hO52), (KK.tr (rfl : KK F F) hK52), trivial⟩
  have l_56 : (68 : Int32).toInt = 68 := rfl
  have e_57 := mt i_eq.mpr (show ¬ (x1 = (68 : Int32)) from c_49)
  refine WP.ite (fun c_58 => ?_) (fun c_58 => ?_)
  · skip
    have l_59 : (69 : Int32).toInt = 69 := rfl
    have e_60 := i_eq.mp (show x1 = (69 : Int32) from c_58)
    unfold cb_X6_move_81
    refine WP.bind (cs_X6_next hfu F G hI) ?_
    rintro r61 F61 G61 ⟨hI61, hB61, hT61, hO61, hK61, hp61⟩
    dsimp only
    have q_62 := hI.r 10 rfl
    have q_63 := hI61.r 10 rfl
    have e_64 : (F61 10).toInt = (F 10).toInt := hO61
    unfold cb_X6_move_87
    have q_65 := i_rng r61
    refine WP.bind (cs_X6_held hfu r61 F61 G61 hI61) ?_
    rintro r66 _ _ ⟨rfl, rfl, hp66⟩
    dsimp only
    unfold cb_X6_move_90
    have q_67 := i_rng r66
    refine WP.bind (cs_X6_push hfu r66 F61 G61 hI61) ?_
    rintro r68 F68 G68 ⟨hI68, hB68, hT68, hO68, hK68, hp68⟩
    dsimp only
    have q_69 := hI68.r 10 rfl
    have e_70 : (F68 10).toInt = (F61 10).toInt := hO68
    unfold cb_X6_move_93
    unfold cb_X6_move_168
    refine WP.ret ?_
    exact ⟨hI68, (KB.tr (KB.tr (KB.rf : KB F G F G) hB61) hB68), (KT.tr (KT.tr (rfl : KT F F) hT61) hT68), (KO.tr (KO.tr (rfl : KO F F) hO61) hO68), (KK.tr (KK.tr (rfl : KK F F) hK61) hK68), trivial⟩
  have l_71 : (69 : Int32).toInt = 69 := rfl
  have e_72 := mt i_eq.mpr (show ¬ (x1 = (69 : Int32)) from c_58)
  refine WP.ite (fun c_73 => ?_) (fun c_73 => ?_)
  · skip
    have l_74 : (70 : Int32).toInt = 70 := rfl
    have e_75 := i_eq.mp (show x1 = (70 : Int32) from c_73)
    unfold cb_X6_move_96
    refine WP.bind (cs_X6_next hfu F G hI) ?_
    rintro r76 F76 G76 ⟨hI76, hB76, hT76, hO76, hK76, hp76⟩
    dsimp only
    have q_77 := hI.r 10 rfl
    have q_78 := hI76.r 10 rfl
    have e_79 : (F76 10).toInt = (F 10).toInt := hO76
    unfold cb_X6_move_106
    have q_80 := i_rng (F 58)
    have q_81 := i_rng r76
    first | have e_82 : ((F 58) + r76).toInt = (F 58).toInt + (r76.toInt) := i_addn (F 58) rfl (by omega) (by omega) | have e_83 := i_rng ((F 58) + r76)
    refine WP.bind (cs_X6_held hfu ((F 58) + r76) F76 G76 hI76) ?_
    rintro r84 _ _ ⟨rfl, rfl, hp84⟩
    dsimp only
    unfold cb_X6_move_110
    have q_85 := i_rng r84
    refine WP.bind (cs_X6_push hfu r84 F76 G76 hI76) ?_
    rintro r86 F86 G86 ⟨hI86, hB86, hT86, hO86, hK86, hp86⟩
    dsimp only
    have q_87 := hI86.r 10 rfl
    have e_88 : (F86 10).toInt = (F76 10).toInt := hO86
    unfold cb_X6_move_113
    unfold cb_X6_move_168
    refine WP.ret ?_
    exact ⟨hI86, (KB.tr (KB.tr (KB.rf : KB F G F G) hB76) hB86), (KT.tr (KT.tr (rfl : KT F F) hT76) hT86), (KO.tr (KO.tr (rfl : KO F F) hO76) hO86), (KK.tr (KK.tr (rfl : KK F F) hK76) hK86), trivial⟩
  have l_89 : (70 : Int32).toInt = 70 := rfl
  have e_90 := mt i_eq.mpr (show ¬ (x1 = (70 : Int32)) from c_73)
  refine WP.ite (fun c_91 => ?_) (fun c_91 => ?_)
  · skip
    have l_92 : (71 : Int32).toInt = 71 := rfl
    have e_93 := i_eq.mp (show x1 = (71 : Int32) from c_91)
    unfold cb_X6_move_116
    refine WP.bind (cs_X6_next hfu F G hI) ?_
    rintro r94 F94 G94 ⟨hI94, hB94, hT94, hO94, hK94, hp94⟩
    dsimp only
    have q_95 := hI.r 10 rfl
    have q_96 := hI94.r 10 rfl
    have e_97 : (F94 10).toInt = (F 10).toInt := hO94
    unfold cb_X6_move_121
    refine WP.bind (cs_X6_pop hfu F94 G94 hI94) ?_
    rintro r98 F98 G98 ⟨hI98, hB98, hT98, hO98, hK98, hp98⟩
    dsimp only
    have q_99 := hI98.r 10 rfl
    have e_100 : (F98 10).toInt = (F94 10).toInt := hO98
    unfold cb_X6_move_125
    have q_101 := i_rng r94
    have q_102 := i_rng r98
    refine WP.bind (cs_X6_hold hfu r94 r98 F98 G98 hI98) ?_
    rintro r103 F103 G103 ⟨hI103, hB103, hT103, hO103, hK103, hp103⟩
    dsimp only
    have q_104 := hI103.r 10 rfl
    have e_105 : (F103 10).toInt = (F98 10).toInt := hO103
    unfold cb_X6_move_128
    unfold cb_X6_move_168
    refine WP.ret ?_
    exact ⟨hI103, (KB.tr (KB.tr (KB.tr (KB.rf : KB F G F G) hB94) hB98) hB103), (KT.tr (KT.tr (KT.tr (rfl : KT F F) hT94) hT98) hT103), (KO.tr (KO.tr (KO.tr (rfl : KO F F) hO94) hO98) hO103), (KK.tr (KK.tr (KK.tr (rfl : KK F F) hK94) hK98) hK103), trivial⟩
  have l_106 : (71 : Int32).toInt = 71 := rfl
  have e_107 := mt i_eq.mpr (show ¬ (x1 = (71 : Int32)) from c_91)
  unfold cb_X6_move_131
  refine WP.bind (cs_X6_next hfu F G hI) ?_
  rintro r108 F108 G108 ⟨hI108, hB108, hT108, hO108, hK108, hp108⟩
  dsimp only
  have q_109 := hI.r 10 rfl
  have q_110 := hI108.r 10 rfl
  have e_111 : (F108 10).toInt = (F 10).toInt := hO108
  unfold cb_X6_move_140
  refine WP.bind (cs_X6_pop hfu F108 G108 hI108) ?_
  rintro r112 F112 G112 ⟨hI112, hB112, hT112, hO112, hK112, hp112⟩
  dsimp only
  have q_113 := hI112.r 10 rfl
  have e_114 : (F112 10).toInt = (F108 10).toInt := hO112
  unfold cb_X6_move_145
  have q_115 := i_rng (F 58)
  have q_116 := i_rng r108
  first | have e_117 : ((F 58) + r108).toInt = (F 58).toInt + (r108.toInt) := i_addn (F 58) rfl (by omega) (by omega) | have e_118 := i_rng ((F 58) + r108)
  have q_119 := i_rng r112
  refine WP.bind (cs_X6_hold hfu ((F 58) + r108) r112 F112 G112 hI112) ?_
  rintro r120 F120 G120 ⟨hI120, hB120, hT120, hO120, hK120, hp120⟩
  dsimp only
  have q_121 := hI120.r 10 rfl
  have e_122 : (F120 10).toInt = (F112 10).toInt := hO120
  unfold cb_X6_move_148
  unfold cb_X6_move_168
  refine WP.ret ?_
  exact ⟨hI120, (KB.tr (KB.tr (KB.tr (KB.rf : KB F G F G) hB108) hB112) hB120), (KT.tr (KT.tr (KT.tr (rfl : KT F F) hT108) hT112) hT120), (KO.tr (KO.tr (KO.tr (rfl : KO F F) hO108) hO112) hO120), (KK.tr (KK.tr (KK.tr (rfl : KK F F) hK108) hK112) hK120), trivial⟩
theorem cs_X6_over {fu : Nat} (hfu : 8589934592 ≤ fu) (x1 : Int32) (F : PF) (G : PG) (hI : CI F G) : WP (cf_X6_over fu x1 F G) (fun r' F' G' => CI F' G' ∧ KB F G F' G' ∧ KT F F' ∧ KO F F' ∧ KK F F' ∧ True) := by
  unfold cf_X6_over
  unfold cb_X6_over_0
  have q_1 := i_rng x1
  have j_2 : CI (fup F 63 x1) G := CI.fr rfl hI
  unfold cb_X6_over_5
  have l_3 : (0 : Int32).toInt = 0 := rfl
  have j_4 : CI (fup (fup F 63 x1) 61 (0 : Int32)) G := CI.rg (k := 61) (x := (0 : Int32)) rfl (by decide) (by decide) j_2 ⟨by omega, by omega⟩
  unfold cb_X6_over_10
  refine WP.ret ?_
  exact ⟨j_4, (KB.f (by decide) (KB.f (by decide) (KB.rf : KB F G F G))), (KT.f (by decide) (KT.f (by decide) (rfl : KT F F))), (KO.f (by decide) (KO.f (by decide) (rfl : KO F F))), (KK.f (by decide) (KK.f (by decide) (rfl : KK F F))), trivial⟩
theorem cs_X6_leave {fu : Nat} (hfu : 8589934592 ≤ fu) (F : PF) (G : PG) (hI : CI F G) : WP (cf_X6_leave fu F G) (fun r' F' G' => CI F' G' ∧ KB F G F' G' ∧ KT F F' ∧ KO F F' ∧ KK F F' ∧ True) := by
  unfold cf_X6_leave
  unfold cb_X6_leave_0
  have q_1 := i_rng (F 58)
  have j_2 : CI (fup F 59 (F 58)) G := CI.fr rfl hI
  unfold cb_X6_leave_8
  refine WP.ite (fun c_3 => ?_) (fun c_3 => ?_)
  · skip
    have l_4 : (2000 : Int32).toInt = 2000 := rfl
    have e_5 := i_eq.mp (show (F 58) = (2000 : Int32) from c_3)
    unfold cb_X6_leave_18
    refine WP.bind (cs_X6_pop hfu (fup F 59 (F 58)) G j_2) ?_
    rintro r6 F6 G6 ⟨hI6, hB6, hT6, hO6, hK6, hp6⟩
    dsimp only
    have q_7 := hI.r 10 rfl
    have q_8 := hI6.r 10 rfl
    have e_9 : (F6 10).toInt = (F 10).toInt := hO6
    unfold cb_X6_leave_23
    have q_10 := i_rng r6
    have j_11 : CI (fup F6 65 r6) G6 := CI.fr rfl hI6
    unfold cb_X6_leave_26
    have l_12 : (3 : Int32).toInt = 3 := rfl
    refine WP.bind (cs_X6_over hfu (3 : Int32) (fup F6 65 r6) G6 j_11) ?_
    rintro r13 F13 G13 ⟨hI13, hB13, hT13, hO13, hK13, hp13⟩
    dsimp only
    have q_14 := hI13.r 10 rfl
    have e_15 : (F13 10).toInt = (F6 10).toInt := hO13
    unfold cb_X6_leave_31
    refine WP.ret ?_
    exact ⟨hI13, (KB.tr (KB.f (by decide) (KB.tr (KB.f (by decide) (KB.rf : KB F G F G)) hB6)) hB13), (KT.tr (KT.f (by decide) (KT.tr (KT.f (by decide) (rfl : KT F F)) hT6)) hT13), (KO.tr (KO.f (by decide) (KO.tr (KO.f (by decide) (rfl : KO F F)) hO6)) hO13), (KK.tr (KK.f (by decide) (KK.tr (KK.f (by decide) (rfl : KK F F)) hK6)) hK13), trivial⟩
  · skip
    have l_16 : (2000 : Int32).toInt = 2000 := rfl
    have e_17 := mt i_eq.mpr (show ¬ ((F 58) = (2000 : Int32)) from c_3)
    unfold cb_X6_leave_32
    refine WP.bind (cs_X6_held hfu (F 58) (fup F 59 (F 58)) G j_2) ?_
    rintro r18 _ _ ⟨rfl, rfl, hp18⟩
    dsimp only
    unfold cb_X6_leave_41
    have q_19 := i_rng r18
    have j_20 : CI (fup (fup F 59 (F 58)) 57 r18) G := CI.fr rfl j_2
    unfold cb_X6_leave_44
    first | have e_21 : ((F 58) + (1 : Int32)).toInt = (F 58).toInt + (1) := i_addn (F 58) rfl (by omega) (by omega) | have e_22 := i_rng ((F 58) + (1 : Int32))
    refine WP.bind (cs_X6_held hfu ((F 58) + (1 : Int32)) (fup (fup F 59 (F 58)) 57 r18) G j_20) ?_
    rintro r23 _ _ ⟨rfl, rfl, hp23⟩
    dsimp only
    unfold cb_X6_leave_55
    have q_24 := i_rng r23
    have j_25 : CI (fup (fup (fup F 59 (F 58)) 57 r18) 58 r23) G := CI.fr rfl j_20
    unfold cb_X6_leave_58
    refine WP.ret ?_
    exact ⟨j_25, (KB.f (by decide) (KB.f (by decide) (KB.f (by decide) (KB.rf : KB F G F G)))), (KT.f (by decide) (KT.f (by decide) (KT.f (by decide) (rfl : KT F F)))), (KO.f (by decide) (KO.f (by decide) (KO.f (by decide) (rfl : KO F F)))), (KK.f (by decide) (KK.f (by decide) (KK.f (by decide) (rfl : KK F F)))), trivial⟩
theorem cs_X6_stops {fu : Nat} (hfu : 8589934592 ≤ fu) (x1 : Int32) (x2 : Int32) (F : PF) (G : PG) (hI : CI F G) : WP (cf_X6_stops fu x1 x2 F G) (fun r' F' G' => CI F' G' ∧ KB F G F' G' ∧ KT F F' ∧ KO F F' ∧ KK F F' ∧ True) := by
  unfold cf_X6_stops
  unfold cb_X6_stops_0
  have q_1 := i_rng x2
  have j_2 : CI (fup F 57 x2) G := CI.fr rfl hI
  unfold cb_X6_stops_5
  have q_3 := i_rng x1
  refine WP.bind (cs_X6_over hfu x1 (fup F 57 x2) G j_2) ?_
  rintro r4 F4 G4 ⟨hI4, hB4, hT4, hO4, hK4, hp4⟩
  dsimp only
  have q_5 := hI.r 10 rfl
  have q_6 := hI4.r 10 rfl
  have e_7 : (F4 10).toInt = (F 10).toInt := hO4
  unfold cb_X6_stops_10
  refine WP.ret ?_
  exact ⟨hI4, (KB.tr (KB.f (by decide) (KB.rf : KB F G F G)) hB4), (KT.tr (KT.f (by decide) (rfl : KT F F)) hT4), (KO.tr (KO.f (by decide) (rfl : KO F F)) hO4), (KK.tr (KK.f (by decide) (rfl : KK F F)) hK4), trivial⟩
theorem cs_X7_handIn {fu : Nat} (hfu : 8589934592 ≤ fu) (F : PF) (G : PG) (hI : CI F G) : WP (cf_X7_handIn fu F G) (fun r' F' G' => CI F' G' ∧ KB F G F' G' ∧ KT F F' ∧ KO F F' ∧ KK F F' ∧ True) := by
  unfold cf_X7_handIn
  unfold cb_X7_handIn_0
  refine WP.ite (fun c_1 => ?_) (fun c_1 => ?_)
  · skip
    have l_2 : (0 : Int32).toInt = 0 := rfl
    have q_3 := hI.r 70 rfl
    have e_4 := i_lt.mp (show (0 : Int32) < (F 70) from c_1)
    unfold cb_X7_handIn_9
    have q_5 := hI.r 69 rfl
    refine WP.ix (show vp_in (F 69) 500 from vp_in_iff.mpr ⟨by omega, by omega⟩) ?_
    first | have e_6 : ((F 69) + (1 : Int32)).toInt = (F 69).toInt + (1) := i_addn (F 69) rfl (by omega) (by omega) | have e_7 := i_rng ((F 69) + (1 : Int32))
    have l_8 : (500 : Int32).toInt = 500 := rfl
    have e_10 : 0 ≤ ((((F 69) + (1 : Int32)) - ((F 69) + (1 : Int32)) / (500 : Int32) * (500 : Int32))).toInt ∧ ((((F 69) + (1 : Int32)) - ((F 69) + (1 : Int32)) / (500 : Int32) * (500 : Int32))).toInt < 500 := i_rem 500 (by decide) (by decide) (by omega)
    have j_11 : CI (fup F 69 (((F 69) + (1 : Int32)) - ((F 69) + (1 : Int32)) / (500 : Int32) * (500 : Int32))) G := CI.rg (k := 69) (x := (((F 69) + (1 : Int32)) - ((F 69) + (1 : Int32)) / (500 : Int32) * (500 : Int32))) rfl (by decide) (by decide) hI ⟨by omega, by omega⟩
    unfold cb_X7_handIn_33
    first | have e_12 : ((F 70) - (1 : Int32)).toInt = (F 70).toInt - (1) := i_subn (F 70) rfl (by omega) (by omega) | have e_13 := i_rng ((F 70) - (1 : Int32))
    have j_14 : CI (fup (fup F 69 (((F 69) + (1 : Int32)) - ((F 69) + (1 : Int32)) / (500 : Int32) * (500 : Int32))) 70 ((F 70) - (1 : Int32))) G := CI.rg (k := 70) (x := ((F 70) - (1 : Int32))) rfl (by decide) (by decide) j_11 ⟨by omega, by omega⟩
    unfold cb_X7_handIn_43
    refine WP.ret ?_
    exact ⟨j_14, (KB.f (by decide) (KB.f (by decide) (KB.rf : KB F G F G))), (KT.f (by decide) (KT.f (by decide) (rfl : KT F F))), (KO.f (by decide) (KO.f (by decide) (rfl : KO F F))), (KK.f (by decide) (KK.f (by decide) (rfl : KK F F))), trivial⟩
  · skip
    have l_15 : (0 : Int32).toInt = 0 := rfl
    have q_16 := hI.r 70 rfl
    have e_17 := mt i_lt.mpr (show ¬ ((0 : Int32) < (F 70)) from c_1)
    unfold cb_X7_handIn_7
    refine WP.ret ?_
    exact ⟨hI, (KB.rf : KB F G F G), (rfl : KT F F), (rfl : KO F F), (rfl : KK F F), trivial⟩
theorem cs_X7_show {fu : Nat} (hfu : 8589934592 ≤ fu) (x1 : Int32) (F : PF) (G : PG) (hI : CI F G) : WP (cf_X7_show fu x1 F G) (fun r' F' G' => CI F' G' ∧ KB F G F' G' ∧ KT F F' ∧ KO F F' ∧ KK F F' ∧ True) := by
  unfold cf_X7_show
  unfold cb_X7_show_0
  refine WP.ite (fun c_1 => ?_) (fun c_1 => ?_)
  · skip
    have l_2 : (2000 : Int32).toInt = 2000 := rfl
    have q_3 := hI.r 72 rfl
    have e_4 := i_le.mp (show (2000 : Int32) ≤ (F 72) from c_1)
    unfold cb_X7_show_20
    refine WP.ite (fun c_5 => ?_) (fun c_5 => ?_)
    · skip
      have l_6 : (2147483647 : Int32).toInt = 2147483647 := rfl
      have e_7 := i_le.mp (show (2147483647 : Int32) ≤ (F 72) from c_5)
      unfold cb_X7_show_39
      refine WP.ret ?_
      exact ⟨hI, (KB.rf : KB F G F G), (rfl : KT F F), (rfl : KO F F), (rfl : KK F F), trivial⟩
    · skip
      have l_8 : (2147483647 : Int32).toInt = 2147483647 := rfl
      have e_9 := mt i_le.mpr (show ¬ ((2147483647 : Int32) ≤ (F 72)) from c_5)
      unfold cb_X7_show_29
      first | have e_10 : ((F 72) + (1 : Int32)).toInt = (F 72).toInt + (1) := i_addn (F 72) rfl (by omega) (by omega) | have e_11 := i_rng ((F 72) + (1 : Int32))
      have j_12 : CI (fup F 72 ((F 72) + (1 : Int32))) G := CI.rg (k := 72) (x := ((F 72) + (1 : Int32))) rfl (by decide) (by decide) hI ⟨by omega, by omega⟩
      unfold cb_X7_show_39
      refine WP.ret ?_
      exact ⟨j_12, (KB.f (by decide) (KB.rf : KB F G F G)), (KT.f (by decide) (rfl : KT F F)), (KO.f (by decide) (rfl : KO F F)), (KK.f (by decide) (rfl : KK F F)), trivial⟩
  · skip
    have l_13 : (2000 : Int32).toInt = 2000 := rfl
    have q_14 := hI.r 72 rfl
    have e_15 := mt i_le.mpr (show ¬ ((2000 : Int32) ≤ (F 72)) from c_1)
    unfold cb_X7_show_10
    refine WP.ix (show vp_in (F 72) 2000 from vp_in_iff.mpr ⟨by omega, by omega⟩) ?_
    have j_16 : CI F (gup G 71 (F 72).toNatClampNeg x1) := CI.g (by decide) hI
    unfold cb_X7_show_20
    refine WP.ite (fun c_17 => ?_) (fun c_17 => ?_)
    · skip
      have l_18 : (2147483647 : Int32).toInt = 2147483647 := rfl
      have e_19 := i_le.mp (show (2147483647 : Int32) ≤ (F 72) from c_17)
      unfold cb_X7_show_39
      refine WP.ret ?_
      exact ⟨j_16, (KB.g (by decide) (KB.rf : KB F G F G)), (rfl : KT F F), (rfl : KO F F), (rfl : KK F F), trivial⟩
    · skip
      have l_20 : (2147483647 : Int32).toInt = 2147483647 := rfl
      have e_21 := mt i_le.mpr (show ¬ ((2147483647 : Int32) ≤ (F 72)) from c_17)
      unfold cb_X7_show_29
      first | have e_22 : ((F 72) + (1 : Int32)).toInt = (F 72).toInt + (1) := i_addn (F 72) rfl (by omega) (by omega) | have e_23 := i_rng ((F 72) + (1 : Int32))
      have j_24 : CI (fup F 72 ((F 72) + (1 : Int32))) (gup G 71 (F 72).toNatClampNeg x1) := CI.rg (k := 72) (x := ((F 72) + (1 : Int32))) rfl (by decide) (by decide) j_16 ⟨by omega, by omega⟩
      unfold cb_X7_show_39
      refine WP.ret ?_
      exact ⟨j_24, (KB.f (by decide) (KB.g (by decide) (KB.rf : KB F G F G))), (KT.f (by decide) (rfl : KT F F)), (KO.f (by decide) (rfl : KO F F)), (KK.f (by decide) (rfl : KK F F)), trivial⟩
theorem cs_X6_takesTurn {fu : Nat} (hfu : 8589934592 ≤ fu) (F : PF) (G : PG) (hI : CI F G) : WP (cf_X6_takesTurn fu F G) (fun r' F' G' => CI F' G' ∧ KB F G F' G' ∧ KT F F' ∧ KO F F' ∧ KK F F' ∧ (r' = 0 ∨ r' = 1)) := by
  unfold cf_X6_takesTurn
  unfold cb_X6_takesTurn_0
  refine WP.ite (fun c_1 => ?_) (fun c_1 => ?_)
  · skip
    have l_2 : (0 : Int32).toInt = 0 := rfl
    have q_3 := i_rng (F 62)
    have e_4 := i_lt.mp (show (0 : Int32) < (F 62) from c_1)
    unfold cb_X6_takesTurn_9
    first | have e_5 : ((F 62) - (1 : Int32)).toInt = (F 62).toInt - (1) := i_subn (F 62) rfl (by omega) (by omega) | have e_6 := i_rng ((F 62) - (1 : Int32))
    have j_7 : CI (fup F 62 ((F 62) - (1 : Int32))) G := CI.fr rfl hI
    unfold cb_X6_takesTurn_19
    have q_8 := i_rng (F 64)
    first | have e_9 : ((F 64) + (1 : Int32)).toInt = (F 64).toInt + (1) := i_addn (F 64) rfl (by omega) (by omega) | have e_10 := i_rng ((F 64) + (1 : Int32))
    have j_11 : CI (fup (fup F 62 ((F 62) - (1 : Int32))) 64 ((F 64) + (1 : Int32))) G := CI.fr rfl j_7
    unfold cb_X6_takesTurn_29
    refine WP.ret ?_
    exact ⟨j_11, (KB.f (by decide) (KB.f (by decide) (KB.rf : KB F G F G))), (KT.f (by decide) (KT.f (by decide) (rfl : KT F F))), (KO.f (by decide) (KO.f (by decide) (rfl : KO F F))), (KK.f (by decide) (KK.f (by decide) (rfl : KK F F))), (by decide)⟩
  · skip
    have l_12 : (0 : Int32).toInt = 0 := rfl
    have q_13 := i_rng (F 62)
    have e_14 := mt i_lt.mpr (show ¬ ((0 : Int32) < (F 62)) from c_1)
    unfold cb_X6_takesTurn_7
    refine WP.ret ?_
    exact ⟨hI, (KB.rf : KB F G F G), (rfl : KT F F), (rfl : KO F F), (rfl : KK F F), (by decide)⟩
theorem cz_X6_enters_75 {fu : Nat} (hfu : 8589934592 ≤ fu) {F0 : PF} {G0 : PG} : ∀ (n : Nat) (x1 : Int32) (x3 : Int32) (x4 : Int32) (F : PF) (G : PG) (hI : CI F G) (hB : KB F0 G0 F G) (hT : KT F0 F) (hO : KO F0 F) (hK : KK F0 F) (i_0 : 0 ≤ x1.toInt) (i_1 : x1.toInt < 450) (hn : (x4.toInt + 1).toNat < n), WP (cl_X6_enters_75 fu n x1 x3 x4 F G) (fun r' F' G' => CI F' G' ∧ KB F0 G0 F' G' ∧ KT F0 F' ∧ KO F0 F' ∧ KK F0 F' ∧ (r' = 0 ∨ r' = 1)) := by
  intro n
  induction n with
  | zero =>
    intro x1 x3 x4 F G hI hB hT hO hK i_0 i_1 hn
    exact absurd hn (Nat.not_lt_zero _)
  | succ n ihn =>
    intro x1 x3 x4 F G hI hB hT hO hK i_0 i_1 hn
    show WP (cb_X6_enters_75 fu (cl_X6_enters_75 fu n)  x1 x3 x4 F G) _
    unfold cb_X6_enters_75
    refine WP.ite (fun c_1 => ?_) (fun c_1 => ?_)
    · skip
      have q_2 := i_rng x4
      have l_3 : (0 : Int32).toInt = 0 := rfl
      have e_4 := i_lt.mp (show x4 < (0 : Int32) from c_1)
      unfold cb_X6_enters_103
      have q_5 := i_rng (F 59)
      have j_6 : CI (fup F 58 (F 59)) G := CI.fr rfl hI
      unfold cb_X6_enters_111
      have q_7 := i_rng x3
      first | have e_8 : ((F 59) + x3).toInt = (F 59).toInt + (x3.toInt) := i_addn (F 59) rfl (by omega) (by omega) | have e_9 := i_rng ((F 59) + x3)
      have j_10 : CI (fup (fup F 58 (F 59)) 59 ((F 59) + x3)) G := CI.fr rfl j_6
      unfold cb_X6_enters_121
      have q_11 := i_rng x1
      refine WP.ix (show vp_in x1 450 from vp_in_iff.mpr ⟨by omega, by omega⟩) ?_
      have q_12 := i_rng (G 80 x1.toNatClampNeg)
      have j_13 : CI (fup (fup (fup F 58 (F 59)) 59 ((F 59) + x3)) 57 (G 80 x1.toNatClampNeg)) G := CI.fr rfl j_10
      unfold cb_X6_enters_134
      refine WP.ret ?_
      exact ⟨j_13, (KB.f (by decide) (KB.f (by decide) (KB.f (by decide) hB))), (KT.f (by decide) (KT.f (by decide) (KT.f (by decide) hT))), (KO.f (by decide) (KO.f (by decide) (KO.f (by decide) hO))), (KK.f (by decide) (KK.f (by decide) (KK.f (by decide) hK))), (by decide)⟩
    · skip
      have q_14 := i_rng x4
      have l_15 : (0 : Int32).toInt = 0 := rfl
      have e_16 := mt i_lt.mpr (show ¬ (x4 < (0 : Int32)) from c_1)
      unfold cb_X6_enters_80
      refine WP.bind (cs_X6_pop hfu F G hI) ?_
      rintro r17 F17 G17 ⟨hI17, hB17, hT17, hO17, hK17, hp17⟩
      dsimp only
      have q_18 := hI.r 10 rfl
      have q_19 := hI17.r 10 rfl
      have e_20 : (F17 10).toInt = (F 10).toInt := hO17
      unfold cb_X6_enters_94
      have q_21 := i_rng (F 59)
      first | have e_22 : ((F 59) + (4 : Int32)).toInt = (F 59).toInt + (4) := i_addn (F 59) rfl (by omega) (by omega) | have e_23 := i_rng ((F 59) + (4 : Int32))
      first | have e_24 : (((F 59) + (4 : Int32)) + x4).toInt = ((F 59) + (4 : Int32)).toInt + (x4.toInt) := i_addn ((F 59) + (4 : Int32)) rfl (by omega) (by omega) | have e_25 := i_rng (((F 59) + (4 : Int32)) + x4)
      have q_26 := i_rng r17
      refine WP.bind (cs_X6_hold hfu (((F 59) + (4 : Int32)) + x4) r17 F17 G17 hI17) ?_
      rintro r27 F27 G27 ⟨hI27, hB27, hT27, hO27, hK27, hp27⟩
      dsimp only
      have q_28 := hI27.r 10 rfl
      have e_29 : (F27 10).toInt = (F17 10).toInt := hO27
      unfold cb_X6_enters_97
      have q_30 := i_rng x1
      have q_31 := i_rng x3
      first | have e_32 : (x4 + (-1 : Int32)).toInt = x4.toInt + (-1) := i_addn x4 rfl (by omega) (by omega) | have e_33 := i_rng (x4 + (-1 : Int32))
      exact ihn x1 x3 (x4 + (-1 : Int32)) F27 G27 hI27 (KB.tr (KB.tr hB hB17) hB27) (KT.tr (KT.tr hT hT17) hT27) (KO.tr (KO.tr hO hO17) hO27) (KK.tr (KK.tr hK hK17) hK27) (show 0 ≤ x1.toInt by omega) (show x1.toInt < 450 by omega) (by omega)
theorem cs_X6_enters {fu : Nat} (hfu : 8589934592 ≤ fu) (x1 : Int32) (x2 : Int32) (F : PF) (G : PG) (hI : CI F G) (hc : 0 ≤ x1.toInt) (hd : x1.toInt < 450) : WP (cf_X6_enters fu x1 x2 F G) (fun r' F' G' => CI F' G' ∧ KB F G F' G' ∧ KT F F' ∧ KO F F' ∧ KK F F' ∧ (r' = 0 ∨ r' = 1)) := by
  unfold cf_X6_enters
  unfold cb_X6_enters_0
  have q_1 := i_rng x1
  refine WP.ix (show vp_in x1 450 from vp_in_iff.mpr ⟨by omega, by omega⟩) ?_
  refine WP.bind (cs_X6_depth hfu F G hI) ?_
  rintro r2 _ _ ⟨rfl, rfl, hp2⟩
  dsimp only
  unfold cb_X6_enters_14
  refine WP.ite (fun c_3 => ?_) (fun c_3 => ?_)
  · skip
    have q_4 := i_rng r2
    have q_5 := i_rng (G 79 x1.toNatClampNeg)
    first | have e_6 : (r2 + (G 79 x1.toNatClampNeg)).toInt = r2.toInt + ((G 79 x1.toNatClampNeg).toInt) := i_addn r2 rfl (by omega) (by omega) | have e_7 := i_rng (r2 + (G 79 x1.toNatClampNeg))
    have q_8 := i_rng (F 67)
    have e_9 := i_le.mp (show (r2 + (G 79 x1.toNatClampNeg)) ≤ (F 67) from c_3)
    unfold cb_X6_enters_36
    have q_10 := i_rng (F 59)
    have q_11 := i_rng (F 57)
    refine WP.bind (cs_X6_hold hfu (F 59) (F 57) F G hI) ?_
    rintro r12 F12 G12 ⟨hI12, hB12, hT12, hO12, hK12, hp12⟩
    dsimp only
    have q_13 := hI.r 10 rfl
    have q_14 := hI12.r 10 rfl
    have e_15 : (F12 10).toInt = (F 10).toInt := hO12
    unfold cb_X6_enters_48
    have q_16 := i_rng (F12 59)
    first | have e_17 : ((F12 59) + (1 : Int32)).toInt = (F12 59).toInt + (1) := i_addn (F12 59) rfl (by omega) (by omega) | have e_18 := i_rng ((F12 59) + (1 : Int32))
    have q_19 := i_rng (F12 58)
    refine WP.bind (cs_X6_hold hfu ((F12 59) + (1 : Int32)) (F12 58) F12 G12 hI12) ?_
    rintro r20 F20 G20 ⟨hI20, hB20, hT20, hO20, hK20, hp20⟩
    dsimp only
    have q_21 := hI20.r 10 rfl
    have e_22 : (F20 10).toInt = (F12 10).toInt := hO20
    unfold cb_X6_enters_62
    refine WP.ix (show vp_in x1 450 from vp_in_iff.mpr ⟨by omega, by omega⟩) ?_
    have q_23 := i_rng (G20 81 x1.toNatClampNeg)
    first | have e_24 : ((G20 81 x1.toNatClampNeg) - (1 : Int32)).toInt = (G20 81 x1.toNatClampNeg).toInt - (1) := i_subn (G20 81 x1.toNatClampNeg) rfl (by omega) (by omega) | have e_25 := i_rng ((G20 81 x1.toNatClampNeg) - (1 : Int32))
    exact cz_X6_enters_75 (F0 := F) (G0 := G) hfu fu x1 (G 79 x1.toNatClampNeg) ((G20 81 x1.toNatClampNeg) - (1 : Int32)) F20 G20 hI20 (KB.tr (KB.tr (KB.rf : KB F G F G) hB12) hB20) (KT.tr (KT.tr (rfl : KT F F) hT12) hT20) (KO.tr (KO.tr (rfl : KO F F) hO12) hO20) (KK.tr (KK.tr (rfl : KK F F) hK12) hK20) (show 0 ≤ x1.toInt by omega) (show x1.toInt < 450 by omega) (by omega)
  · skip
    have q_26 := i_rng r2
    have q_27 := i_rng (G 79 x1.toNatClampNeg)
    first | have e_28 : (r2 + (G 79 x1.toNatClampNeg)).toInt = r2.toInt + ((G 79 x1.toNatClampNeg).toInt) := i_addn r2 rfl (by omega) (by omega) | have e_29 := i_rng (r2 + (G 79 x1.toNatClampNeg))
    have q_30 := i_rng (F 67)
    have e_31 := mt i_le.mpr (show ¬ ((r2 + (G 79 x1.toNatClampNeg)) ≤ (F 67)) from c_3)
    unfold cb_X6_enters_23
    have q_32 := i_rng x2
    have j_33 : CI (fup F 66 x2) G := CI.fr rfl hI
    unfold cb_X6_enters_28
    have l_34 : (6 : Int32).toInt = 6 := rfl
    refine WP.bind (cs_X6_over hfu (6 : Int32) (fup F 66 x2) G j_33) ?_
    rintro r35 F35 G35 ⟨hI35, hB35, hT35, hO35, hK35, hp35⟩
    dsimp only
    have q_36 := hI.r 10 rfl
    have q_37 := hI35.r 10 rfl
    have e_38 : (F35 10).toInt = (F 10).toInt := hO35
    unfold cb_X6_enters_34
    refine WP.ret ?_
    exact ⟨hI35, (KB.tr (KB.f (by decide) (KB.rf : KB F G F G)) hB35), (KT.tr (KT.f (by decide) (rfl : KT F F)) hT35), (KO.tr (KO.f (by decide) (rfl : KO F F)) hO35), (KK.tr (KK.f (by decide) (rfl : KK F F)) hK35), (by decide)⟩
theorem cs_X6_call {fu : Nat} (hfu : 8589934592 ≤ fu) (x1 : Int32) (F : PF) (G : PG) (hI : CI F G) : WP (cf_X6_call fu x1 F G) (fun r' F' G' => CI F' G' ∧ KB F G F' G' ∧ KT F F' ∧ KO F F' ∧ KK F F' ∧ True) := by
  unfold cf_X6_call
  unfold cb_X6_call_0
  refine WP.bind (cs_X6_next hfu F G hI) ?_
  rintro r1 F1 G1 ⟨hI1, hB1, hT1, hO1, hK1, hp1⟩
  dsimp only
  have q_2 := hI.r 10 rfl
  have q_3 := hI1.r 10 rfl
  have e_4 : (F1 10).toInt = (F 10).toInt := hO1
  unfold cb_X6_call_4
  refine WP.bind (cs_X6_next hfu F1 G1 hI1) ?_
  rintro r5 F5 G5 ⟨hI5, hB5, hT5, hO5, hK5, hp5⟩
  dsimp only
  have q_6 := hI5.r 10 rfl
  have e_7 : (F5 10).toInt = (F1 10).toInt := hO5
  unfold cb_X6_call_9
  refine WP.bind (cs_X6_takesTurn hfu F5 G5 hI5) ?_
  rintro r8 F8 G8 ⟨hI8, hB8, hT8, hO8, hK8, hp8⟩
  dsimp only
  have q_9 := hI8.r 10 rfl
  have e_10 : (F8 10).toInt = (F5 10).toInt := hO8
  have q_11 := b_rng hp8
  unfold cb_X6_call_14
  refine WP.ite (fun c_12 => ?_) (fun c_12 => ?_)
  · skip
    have l_13 : (0 : Int32).toInt = 0 := rfl
    have e_14 := i_eq.mp (show r8 = (0 : Int32) from c_12)
    unfold cb_X6_call_17
    have l_15 : (1 : Int32).toInt = 1 := rfl
    have q_16 := i_rng x1
    refine WP.bind (cs_X6_stops hfu (1 : Int32) x1 F8 G8 hI8) ?_
    rintro r17 F17 G17 ⟨hI17, hB17, hT17, hO17, hK17, hp17⟩
    dsimp only
    have q_18 := hI17.r 10 rfl
    have e_19 : (F17 10).toInt = (F8 10).toInt := hO17
    unfold cb_X6_call_23
    unfold cb_X6_call_44
    refine WP.ret ?_
    exact ⟨hI17, (KB.tr (KB.tr (KB.tr (KB.tr (KB.rf : KB F G F G) hB1) hB5) hB8) hB17), (KT.tr (KT.tr (KT.tr (KT.tr (rfl : KT F F) hT1) hT5) hT8) hT17), (KO.tr (KO.tr (KO.tr (KO.tr (rfl : KO F F) hO1) hO5) hO8) hO17), (KK.tr (KK.tr (KK.tr (KK.tr (rfl : KK F F) hK1) hK5) hK8) hK17), trivial⟩
  · skip
    have l_20 : (0 : Int32).toInt = 0 := rfl
    have e_21 := mt i_eq.mpr (show ¬ (r8 = (0 : Int32)) from c_12)
    unfold cb_X6_call_26
    have q_22 := i_rng r1
    refine WP.bind (cs_X8_has hfu r1 F8 G8 hI8) ?_
    rintro r23 _ _ ⟨rfl, rfl, hp23⟩
    dsimp only
    have q_24 := b_rng (hp23.1)
    unfold cb_X6_call_34
    refine WP.ite (fun c_25 => ?_) (fun c_25 => ?_)
    · skip
      have e_26 := i_eq.mp (show r23 = (0 : Int32) from c_25)
      unfold cb_X6_call_44
      refine WP.ret ?_
      exact ⟨hI8, (KB.tr (KB.tr (KB.tr (KB.rf : KB F G F G) hB1) hB5) hB8), (KT.tr (KT.tr (KT.tr (rfl : KT F F) hT1) hT5) hT8), (KO.tr (KO.tr (KO.tr (rfl : KO F F) hO1) hO5) hO8), (KK.tr (KK.tr (KK.tr (rfl : KK F F) hK1) hK5) hK8), trivial⟩
    · skip
      have e_27 := mt i_eq.mpr (show ¬ (r23 = (0 : Int32)) from c_25)
      unfold cb_X6_call_37
      have q_28 := i_rng r5
      refine WP.bind (cs_X6_enters hfu r1 r5 F8 G8 hI8 (show 0 ≤ r1.toInt by omega) (show r1.toInt < 450 by omega)) ?_
      rintro r29 F29 G29 ⟨hI29, hB29, hT29, hO29, hK29, hp29⟩
      dsimp only
      have q_30 := hI29.r 10 rfl
      have e_31 : (F29 10).toInt = (F8 10).toInt := hO29
      have q_32 := b_rng hp29
      unfold cb_X6_call_43
      unfold cb_X6_call_44
      refine WP.ret ?_
      exact ⟨hI29, (KB.tr (KB.tr (KB.tr (KB.tr (KB.rf : KB F G F G) hB1) hB5) hB8) hB29), (KT.tr (KT.tr (KT.tr (KT.tr (rfl : KT F F) hT1) hT5) hT8) hT29), (KO.tr (KO.tr (KO.tr (KO.tr (rfl : KO F F) hO1) hO5) hO8) hO29), (KK.tr (KK.tr (KK.tr (KK.tr (rfl : KK F F) hK1) hK5) hK8) hK29), trivial⟩
theorem cs_X6_act {fu : Nat} (hfu : 8589934592 ≤ fu) (x1 : Int32) (x2 : Int32) (F : PF) (G : PG) (hI : CI F G) : WP (cf_X6_act fu x1 x2 F G) (fun r' F' G' => CI F' G' ∧ KB F G F' G' ∧ KT F F' ∧ KO F F' ∧ KK F F' ∧ True) := by
  unfold cf_X6_act
  unfold cb_X6_act_0
  refine WP.ite (fun c_1 => ?_) (fun c_1 => ?_)
  · skip
    have q_2 := i_rng x1
    have l_3 : (15 : Int32).toInt = 15 := rfl
    have e_4 := i_eq.mp (show x1 = (15 : Int32) from c_1)
    unfold cb_X6_act_76
    refine WP.bind (cs_X6_leave hfu F G hI) ?_
    rintro r5 F5 G5 ⟨hI5, hB5, hT5, hO5, hK5, hp5⟩
    dsimp only
    have q_6 := hI.r 10 rfl
    have q_7 := hI5.r 10 rfl
    have e_8 : (F5 10).toInt = (F 10).toInt := hO5
    unfold cb_X6_act_80
    unfold cb_X6_act_143
    refine WP.ret ?_
    exact ⟨hI5, (KB.tr (KB.rf : KB F G F G) hB5), (KT.tr (rfl : KT F F) hT5), (KO.tr (rfl : KO F F) hO5), (KK.tr (rfl : KK F F) hK5), trivial⟩
  have q_9 := i_rng x1
  have l_10 : (15 : Int32).toInt = 15 := rfl
  have e_11 := mt i_eq.mpr (show ¬ (x1 = (15 : Int32)) from c_1)
  refine WP.ite (fun c_12 => ?_) (fun c_12 => ?_)
  · skip
    have l_13 : (16 : Int32).toInt = 16 := rfl
    have e_14 := i_eq.mp (show x1 = (16 : Int32) from c_12)
    unfold cb_X6_act_83
    refine WP.bind (cs_X6_pop hfu F G hI) ?_
    rintro r15 F15 G15 ⟨hI15, hB15, hT15, hO15, hK15, hp15⟩
    dsimp only
    have q_16 := hI.r 10 rfl
    have q_17 := hI15.r 10 rfl
    have e_18 : (F15 10).toInt = (F 10).toInt := hO15
    unfold cb_X6_act_91
    have q_19 := i_rng r15
    refine WP.bind (cs_X7_show hfu r15 F15 G15 hI15) ?_
    rintro r20 F20 G20 ⟨hI20, hB20, hT20, hO20, hK20, hp20⟩
    dsimp only
    have q_21 := hI20.r 10 rfl
    have e_22 : (F20 10).toInt = (F15 10).toInt := hO20
    unfold cb_X6_act_94
    unfold cb_X6_act_143
    refine WP.ret ?_
    exact ⟨hI20, (KB.tr (KB.tr (KB.rf : KB F G F G) hB15) hB20), (KT.tr (KT.tr (rfl : KT F F) hT15) hT20), (KO.tr (KO.tr (rfl : KO F F) hO15) hO20), (KK.tr (KK.tr (rfl : KK F F) hK15) hK20), trivial⟩
  have l_23 : (16 : Int32).toInt = 16 := rfl
  have e_24 := mt i_eq.mpr (show ¬ (x1 = (16 : Int32)) from c_12)
  refine WP.ite (fun c_25 => ?_) (fun c_25 => ?_)
  · skip
    have l_26 : (17 : Int32).toInt = 17 := rfl
    have e_27 := i_eq.mp (show x1 = (17 : Int32) from c_25)
    unfold cb_X6_act_97
    refine WP.ite (fun c_28 => ?_) (fun c_28 => ?_)
    · skip
      have q_29 := hI.r 70 rfl
      have l_30 : (0 : Int32).toInt = 0 := rfl
      have e_31 := i_le.mp (show (F 70) ≤ (0 : Int32) from c_28)
      unfold cb_X6_act_121
      have l_32 : (2 : Int32).toInt = 2 := rfl
      have q_33 := i_rng x2
      refine WP.bind (cs_X6_stops hfu (2 : Int32) x2 F G hI) ?_
      rintro r34 F34 G34 ⟨hI34, hB34, hT34, hO34, hK34, hp34⟩
      dsimp only
      have q_35 := hI.r 10 rfl
      have q_36 := hI34.r 10 rfl
      have e_37 : (F34 10).toInt = (F 10).toInt := hO34
      unfold cb_X6_act_127
      unfold cb_X6_act_143
      refine WP.ret ?_
      exact ⟨hI34, (KB.tr (KB.rf : KB F G F G) hB34), (KT.tr (rfl : KT F F) hT34), (KO.tr (rfl : KO F F) hO34), (KK.tr (rfl : KK F F) hK34), trivial⟩
    · skip
      have q_38 := hI.r 70 rfl
      have l_39 : (0 : Int32).toInt = 0 := rfl
      have e_40 := mt i_le.mpr (show ¬ ((F 70) ≤ (0 : Int32)) from c_28)
      unfold cb_X6_act_107
      refine WP.bind (cs_X7_handIn hfu F G hI) ?_
      rintro r41 F41 G41 ⟨hI41, hB41, hT41, hO41, hK41, hp41⟩
      dsimp only
      have q_42 := hI.r 10 rfl
      have q_43 := hI41.r 10 rfl
      have e_44 : (F41 10).toInt = (F 10).toInt := hO41
      unfold cb_X6_act_115
      have q_45 := i_rng r41
      refine WP.bind (cs_X6_push hfu r41 F41 G41 hI41) ?_
      rintro r46 F46 G46 ⟨hI46, hB46, hT46, hO46, hK46, hp46⟩
      dsimp only
      have q_47 := hI46.r 10 rfl
      have e_48 : (F46 10).toInt = (F41 10).toInt := hO46
      unfold cb_X6_act_118
      unfold cb_X6_act_143
      refine WP.ret ?_
      exact ⟨hI46, (KB.tr (KB.tr (KB.rf : KB F G F G) hB41) hB46), (KT.tr (KT.tr (rfl : KT F F) hT41) hT46), (KO.tr (KO.tr (rfl : KO F F) hO41) hO46), (KK.tr (KK.tr (rfl : KK F F) hK41) hK46), trivial⟩
  have l_49 : (17 : Int32).toInt = 17 := rfl
  have e_50 := mt i_eq.mpr (show ¬ (x1 = (17 : Int32)) from c_25)
  refine WP.ite (fun c_51 => ?_) (fun c_51 => ?_)
  · skip
    have l_52 : (89 : Int32).toInt = 89 := rfl
    have e_53 := i_eq.mp (show x1 = (89 : Int32) from c_51)
    unfold cb_X6_act_52
    refine WP.bind (cs_X6_takesTurn hfu F G hI) ?_
    rintro r54 F54 G54 ⟨hI54, hB54, hT54, hO54, hK54, hp54⟩
    dsimp only
    have q_55 := hI.r 10 rfl
    have q_56 := hI54.r 10 rfl
    have e_57 : (F54 10).toInt = (F 10).toInt := hO54
    have q_58 := b_rng hp54
    unfold cb_X6_act_56
    refine WP.ite (fun c_59 => ?_) (fun c_59 => ?_)
    · skip
      have l_60 : (0 : Int32).toInt = 0 := rfl
      have e_61 := i_eq.mp (show r54 = (0 : Int32) from c_59)
      unfold cb_X6_act_59
      have l_62 : (1 : Int32).toInt = 1 := rfl
      have q_63 := i_rng x2
      refine WP.bind (cs_X6_stops hfu (1 : Int32) x2 F54 G54 hI54) ?_
      rintro r64 F64 G64 ⟨hI64, hB64, hT64, hO64, hK64, hp64⟩
      dsimp only
      have q_65 := hI64.r 10 rfl
      have e_66 : (F64 10).toInt = (F54 10).toInt := hO64
      unfold cb_X6_act_65
      unfold cb_X6_act_143
      refine WP.ret ?_
      exact ⟨hI64, (KB.tr (KB.tr (KB.rf : KB F G F G) hB54) hB64), (KT.tr (KT.tr (rfl : KT F F) hT54) hT64), (KO.tr (KO.tr (rfl : KO F F) hO54) hO64), (KK.tr (KK.tr (rfl : KK F F) hK54) hK64), trivial⟩
    · skip
      have l_67 : (0 : Int32).toInt = 0 := rfl
      have e_68 := mt i_eq.mpr (show ¬ (r54 = (0 : Int32)) from c_59)
      unfold cb_X6_act_143
      refine WP.ret ?_
      exact ⟨hI54, (KB.tr (KB.rf : KB F G F G) hB54), (KT.tr (rfl : KT F F) hT54), (KO.tr (rfl : KO F F) hO54), (KK.tr (rfl : KK F F) hK54), trivial⟩
  have l_69 : (89 : Int32).toInt = 89 := rfl
  have e_70 := mt i_eq.mpr (show ¬ (x1 = (89 : Int32)) from c_51)
  refine WP.ite (fun c_71 => ?_) (fun c_71 => ?_)
  · skip
    have l_72 : (90 : Int32).toInt = 90 := rfl
    have e_73 := i_eq.mp (show x1 = (90 : Int32) from c_71)
    unfold cb_X6_act_68
    have q_74 := i_rng x2
    refine WP.bind (cs_X6_call hfu x2 F G hI) ?_
    rintro r75 F75 G75 ⟨hI75, hB75, hT75, hO75, hK75, hp75⟩
    dsimp only
    have q_76 := hI.r 10 rfl
    have q_77 := hI75.r 10 rfl
    have e_78 : (F75 10).toInt = (F 10).toInt := hO75
    unfold cb_X6_act_73
    unfold cb_X6_act_143
    refine WP.ret ?_
    exact ⟨hI75, (KB.tr (KB.rf : KB F G F G) hB75), (KT.tr (rfl : KT F F) hT75), (KO.tr (rfl : KO F F) hO75), (KK.tr (rfl : KK F F) hK75), trivial⟩
  have l_79 : (90 : Int32).toInt = 90 := rfl
  have e_80 := mt i_eq.mpr (show ¬ (x1 = (90 : Int32)) from c_71)
  unfold cb_X6_act_130
  refine WP.bind (cs_X6_pop hfu F G hI) ?_
  rintro r81 F81 G81 ⟨hI81, hB81, hT81, hO81, hK81, hp81⟩
  dsimp only
  have q_82 := hI.r 10 rfl
  have q_83 := hI81.r 10 rfl
  have e_84 : (F81 10).toInt = (F 10).toInt := hO81
  unfold cb_X6_act_135
  have q_85 := i_rng r81
  have j_86 : CI (fup F81 65 r81) G81 := CI.fr rfl hI81
  unfold cb_X6_act_138
  have l_87 : (4 : Int32).toInt = 4 := rfl
  refine WP.bind (cs_X6_over hfu (4 : Int32) (fup F81 65 r81) G81 j_86) ?_
  rintro r88 F88 G88 ⟨hI88, hB88, hT88, hO88, hK88, hp88⟩
  dsimp only
  have q_89 := hI88.r 10 rfl
  have e_90 : (F88 10).toInt = (F81 10).toInt := hO88
  unfold cb_X6_act_143
  refine WP.ret ?_
  exact ⟨hI88, (KB.tr (KB.f (by decide) (KB.tr (KB.rf : KB F G F G) hB81)) hB88), (KT.tr (KT.f (by decide) (KT.tr (rfl : KT F F) hT81)) hT88), (KO.tr (KO.f (by decide) (KO.tr (rfl : KO F F) hO81)) hO88), (KK.tr (KK.f (by decide) (KK.tr (rfl : KK F F) hK81)) hK88), trivial⟩
theorem cs_X6_element {fu : Nat} (hfu : 8589934592 ≤ fu) (x1 : Int32) (x2 : Int32) (F : PF) (G : PG) (hI : CI F G) : WP (cf_X6_element fu x1 x2 F G) (fun r' F' G' => CI F' G' ∧ KB F G F' G' ∧ KT F F' ∧ KO F F' ∧ KK F F' ∧ True) := by
  unfold cf_X6_element
  unfold cb_X6_element_0
  refine WP.bind (cs_X6_next hfu F G hI) ?_
  rintro r1 F1 G1 ⟨hI1, hB1, hT1, hO1, hK1, hp1⟩
  dsimp only
  have q_2 := hI.r 10 rfl
  have q_3 := hI1.r 10 rfl
  have e_4 : (F1 10).toInt = (F 10).toInt := hO1
  unfold cb_X6_element_4
  refine WP.bind (cs_X6_next hfu F1 G1 hI1) ?_
  rintro r5 F5 G5 ⟨hI5, hB5, hT5, hO5, hK5, hp5⟩
  dsimp only
  have q_6 := hI5.r 10 rfl
  have e_7 : (F5 10).toInt = (F1 10).toInt := hO5
  unfold cb_X6_element_9
  refine WP.bind (cs_X6_pop hfu F5 G5 hI5) ?_
  rintro r8 F8 G8 ⟨hI8, hB8, hT8, hO8, hK8, hp8⟩
  dsimp only
  have q_9 := hI8.r 10 rfl
  have e_10 : (F8 10).toInt = (F5 10).toInt := hO8
  unfold cb_X6_element_15
  refine WP.ite (fun c_11 => ?_) (fun c_11 => ?_)
  · skip
    have q_12 := i_rng r8
    have l_13 : (0 : Int32).toInt = 0 := rfl
    have e_14 := i_lt.mp (show r8 < (0 : Int32) from c_11)
    unfold cb_X6_element_28
    have q_15 := i_rng r5
    have j_16 : CI (fup F8 66 r5) G8 := CI.fr rfl hI8
    unfold cb_X6_element_34
    have l_17 : (5 : Int32).toInt = 5 := rfl
    refine WP.bind (cs_X6_over hfu (5 : Int32) (fup F8 66 r5) G8 j_16) ?_
    rintro r18 F18 G18 ⟨hI18, hB18, hT18, hO18, hK18, hp18⟩
    dsimp only
    have q_19 := hI18.r 10 rfl
    have e_20 : (F18 10).toInt = (F8 10).toInt := hO18
    unfold cb_X6_element_39
    unfold cb_X6_element_52
    refine WP.ret ?_
    exact ⟨hI18, (KB.tr (KB.f (by decide) (KB.tr (KB.tr (KB.tr (KB.rf : KB F G F G) hB1) hB5) hB8)) hB18), (KT.tr (KT.f (by decide) (KT.tr (KT.tr (KT.tr (rfl : KT F F) hT1) hT5) hT8)) hT18), (KO.tr (KO.f (by decide) (KO.tr (KO.tr (KO.tr (rfl : KO F F) hO1) hO5) hO8)) hO18), (KK.tr (KK.f (by decide) (KK.tr (KK.tr (KK.tr (rfl : KK F F) hK1) hK5) hK8)) hK18), trivial⟩
  · skip
    have q_21 := i_rng r8
    have l_22 : (0 : Int32).toInt = 0 := rfl
    have e_23 := mt i_lt.mpr (show ¬ (r8 < (0 : Int32)) from c_11)
    unfold cb_X6_element_22
    refine WP.ite (fun c_24 => ?_) (fun c_24 => ?_)
    · skip
      have q_25 := i_rng x2
      have e_26 := i_lt.mp (show r8 < x2 from c_24)
      unfold cb_X6_element_42
      have q_27 := i_rng x1
      have q_28 := i_rng r1
      have q_30 := i_rng (x1 <<< (r1 &&& 31))
      first | have e_31 : ((x1 <<< (r1 &&& 31)) + r8).toInt = (x1 <<< (r1 &&& 31)).toInt + (r8.toInt) := i_addn (x1 <<< (r1 &&& 31)) rfl (by omega) (by omega) | have e_32 := i_rng ((x1 <<< (r1 &&& 31)) + r8)
      refine WP.bind (cs_X6_push hfu ((x1 <<< (r1 &&& 31)) + r8) F8 G8 hI8) ?_
      rintro r33 F33 G33 ⟨hI33, hB33, hT33, hO33, hK33, hp33⟩
      dsimp only
      have q_34 := hI33.r 10 rfl
      have e_35 : (F33 10).toInt = (F8 10).toInt := hO33
      unfold cb_X6_element_52
      refine WP.ret ?_
      exact ⟨hI33, (KB.tr (KB.tr (KB.tr (KB.tr (KB.rf : KB F G F G) hB1) hB5) hB8) hB33), (KT.tr (KT.tr (KT.tr (KT.tr (rfl : KT F F) hT1) hT5) hT8) hT33), (KO.tr (KO.tr (KO.tr (KO.tr (rfl : KO F F) hO1) hO5) hO8) hO33), (KK.tr (KK.tr (KK.tr (KK.tr (rfl : KK F F) hK1) hK5) hK8) hK33), trivial⟩
    · skip
      have q_36 := i_rng x2
      have e_37 := mt i_lt.mpr (show ¬ (r8 < x2) from c_24)
      unfold cb_X6_element_28
      have q_38 := i_rng r5
      have j_39 : CI (fup F8 66 r5) G8 := CI.fr rfl hI8
      unfold cb_X6_element_34
      have l_40 : (5 : Int32).toInt = 5 := rfl
      refine WP.bind (cs_X6_over hfu (5 : Int32) (fup F8 66 r5) G8 j_39) ?_
      rintro r41 F41 G41 ⟨hI41, hB41, hT41, hO41, hK41, hp41⟩
      dsimp only
      have q_42 := hI41.r 10 rfl
      have e_43 : (F41 10).toInt = (F8 10).toInt := hO41
      unfold cb_X6_element_39
      unfold cb_X6_element_52
      refine WP.ret ?_
      exact ⟨hI41, (KB.tr (KB.f (by decide) (KB.tr (KB.tr (KB.tr (KB.rf : KB F G F G) hB1) hB5) hB8)) hB41), (KT.tr (KT.f (by decide) (KT.tr (KT.tr (KT.tr (rfl : KT F F) hT1) hT5) hT8)) hT41), (KO.tr (KO.f (by decide) (KO.tr (KO.tr (KO.tr (rfl : KO F F) hO1) hO5) hO8)) hO41), (KK.tr (KK.f (by decide) (KK.tr (KK.tr (KK.tr (rfl : KK F F) hK1) hK5) hK8)) hK41), trivial⟩
theorem cs_X6_pass {fu : Nat} (hfu : 8589934592 ≤ fu) (x1 : Int32) (x2 : Int32) (x3 : Int32) (F : PF) (G : PG) (hI : CI F G) : WP (cf_X6_pass fu x1 x2 x3 F G) (fun r' F' G' => CI F' G' ∧ KB F G F' G' ∧ KT F F' ∧ KO F F' ∧ KK F F' ∧ True) := by
  unfold cf_X6_pass
  unfold cb_X6_pass_0
  refine WP.ite (fun c_1 => ?_) (fun c_1 => ?_)
  · skip
    have q_2 := i_rng x1
    have l_3 : (83 : Int32).toInt = 83 := rfl
    have e_4 := i_eq.mp (show x1 = (83 : Int32) from c_1)
    unfold cb_X6_pass_6
    have q_5 := i_rng (F 58)
    have q_6 := i_rng x2
    first | have e_7 : ((F 58) + x2).toInt = (F 58).toInt + (x2.toInt) := i_addn (F 58) rfl (by omega) (by omega) | have e_8 := i_rng ((F 58) + x2)
    refine WP.bind (cs_X6_held hfu ((F 58) + x2) F G hI) ?_
    rintro r9 _ _ ⟨rfl, rfl, hp9⟩
    dsimp only
    unfold cb_X6_pass_17
    have q_10 := i_rng r9
    refine WP.bind (cs_X6_push hfu r9 F G hI) ?_
    rintro r11 F11 G11 ⟨hI11, hB11, hT11, hO11, hK11, hp11⟩
    dsimp only
    have q_12 := hI.r 10 rfl
    have q_13 := hI11.r 10 rfl
    have e_14 : (F11 10).toInt = (F 10).toInt := hO11
    unfold cb_X6_pass_20
    have q_15 := i_rng (F11 58)
    first | have e_16 : ((F11 58) + x2).toInt = (F11 58).toInt + (x2.toInt) := i_addn (F11 58) rfl (by omega) (by omega) | have e_17 := i_rng ((F11 58) + x2)
    first | have e_18 : (((F11 58) + x2) + (1 : Int32)).toInt = ((F11 58) + x2).toInt + (1) := i_addn ((F11 58) + x2) rfl (by omega) (by omega) | have e_19 := i_rng (((F11 58) + x2) + (1 : Int32))
    refine WP.bind (cs_X6_held hfu (((F11 58) + x2) + (1 : Int32)) F11 G11 hI11) ?_
    rintro r20 _ _ ⟨rfl, rfl, hp20⟩
    dsimp only
    unfold cb_X6_pass_33
    have q_21 := i_rng r20
    refine WP.bind (cs_X6_push hfu r20 F11 G11 hI11) ?_
    rintro r22 F22 G22 ⟨hI22, hB22, hT22, hO22, hK22, hp22⟩
    dsimp only
    have q_23 := hI22.r 10 rfl
    have e_24 : (F22 10).toInt = (F11 10).toInt := hO22
    unfold cb_X6_pass_36
    unfold cb_X6_pass_64
    refine WP.ret ?_
    exact ⟨hI22, (KB.tr (KB.tr (KB.rf : KB F G F G) hB11) hB22), (KT.tr (KT.tr (rfl : KT F F) hT11) hT22), (KO.tr (KO.tr (rfl : KO F F) hO11) hO22), (KK.tr (KK.tr (rfl : KK F F) hK11) hK22), trivial⟩
  · skip
    have q_25 := i_rng x1
    have l_26 : (83 : Int32).toInt = 83 := rfl
    have e_27 := mt i_eq.mpr (show ¬ (x1 = (83 : Int32)) from c_1)
    unfold cb_X6_pass_39
    refine WP.ite (fun c_28 => ?_) (fun c_28 => ?_)
    · skip
      have l_29 : (81 : Int32).toInt = 81 := rfl
      have e_30 := i_eq.mp (show x1 = (81 : Int32) from c_28)
      unfold cb_X6_pass_46
      unfold cb_X6_pass_56
      have q_31 := i_rng x2
      refine WP.bind (cs_X6_push hfu x2 F G hI) ?_
      rintro r32 F32 G32 ⟨hI32, hB32, hT32, hO32, hK32, hp32⟩
      dsimp only
      have q_33 := hI.r 10 rfl
      have q_34 := hI32.r 10 rfl
      have e_35 : (F32 10).toInt = (F 10).toInt := hO32
      unfold cb_X6_pass_59
      have q_36 := i_rng x3
      refine WP.bind (cs_X6_push hfu x3 F32 G32 hI32) ?_
      rintro r37 F37 G37 ⟨hI37, hB37, hT37, hO37, hK37, hp37⟩
      dsimp only
      have q_38 := hI37.r 10 rfl
      have e_39 : (F37 10).toInt = (F32 10).toInt := hO37
      unfold cb_X6_pass_64
      refine WP.ret ?_
      exact ⟨hI37, (KB.tr (KB.tr (KB.rf : KB F G F G) hB32) hB37), (KT.tr (KT.tr (rfl : KT F F) hT32) hT37), (KO.tr (KO.tr (rfl : KO F F) hO32) hO37), (KK.tr (KK.tr (rfl : KK F F) hK32) hK37), trivial⟩
    · skip
      have l_40 : (81 : Int32).toInt = 81 := rfl
      have e_41 := mt i_eq.mpr (show ¬ (x1 = (81 : Int32)) from c_28)
      unfold cb_X6_pass_50
      unfold cb_X6_pass_56
      have q_42 := i_rng (F 58)
      have q_43 := i_rng x2
      first | have e_44 : ((F 58) + x2).toInt = (F 58).toInt + (x2.toInt) := i_addn (F 58) rfl (by omega) (by omega) | have e_45 := i_rng ((F 58) + x2)
      refine WP.bind (cs_X6_push hfu ((F 58) + x2) F G hI) ?_
      rintro r46 F46 G46 ⟨hI46, hB46, hT46, hO46, hK46, hp46⟩
      dsimp only
      have q_47 := hI.r 10 rfl
      have q_48 := hI46.r 10 rfl
      have e_49 : (F46 10).toInt = (F 10).toInt := hO46
      unfold cb_X6_pass_59
      have q_50 := i_rng x3
      refine WP.bind (cs_X6_push hfu x3 F46 G46 hI46) ?_
      rintro r51 F51 G51 ⟨hI51, hB51, hT51, hO51, hK51, hp51⟩
      dsimp only
      have q_52 := hI51.r 10 rfl
      have e_53 : (F51 10).toInt = (F46 10).toInt := hO51
      unfold cb_X6_pass_64
      refine WP.ret ?_
      exact ⟨hI51, (KB.tr (KB.tr (KB.rf : KB F G F G) hB46) hB51), (KT.tr (KT.tr (rfl : KT F F) hT46) hT51), (KO.tr (KO.tr (rfl : KO F F) hO46) hO51), (KK.tr (KK.tr (rfl : KK F F) hK46) hK51), trivial⟩
theorem cs_X6_keepByte {fu : Nat} (hfu : 8589934592 ≤ fu) (x1 : Int32) (x2 : Int32) (F : PF) (G : PG) (hI : CI F G) : WP (cf_X6_keepByte fu x1 x2 F G) (fun r' F' G' => CI F' G' ∧ KB F G F' G' ∧ KT F F' ∧ KO F F' ∧ KK F F' ∧ True) := by
  unfold cf_X6_keepByte
  unfold cb_X6_keepByte_0
  have q_1 := i_rng x1
  have l_2 : (2 : Int32).toInt = 2 := rfl
  have e_4 : ((x1 >>> ((2 : Int32) &&& 31))).toInt = x1.toInt / 4 := i_shr 2 (by decide)
  refine WP.bind (cs_X6_held hfu (x1 >>> ((2 : Int32) &&& 31)) F G hI) ?_
  rintro r5 _ _ ⟨rfl, rfl, hp5⟩
  dsimp only
  unfold cb_X6_keepByte_19
  have q_6 := i_rng r5
  have l_7 : (255 : Int32).toInt = 255 := rfl
  have l_8 : (3 : Int32).toInt = 3 := rfl
  have e_10 := i_and x1 (m := 3) 2 (by decide) (by decide)
  have l_11 : (8 : Int32).toInt = 8 := rfl
  have q_13 := i_rng ((x1 &&& (3 : Int32)) * (8 : Int32))
  have q_15 := i_rng ((255 : Int32) <<< (((x1 &&& (3 : Int32)) * (8 : Int32)) &&& 31))
  have l_16 : (-1 : Int32).toInt = -1 := rfl
  have q_18 := i_rng (((255 : Int32) <<< (((x1 &&& (3 : Int32)) * (8 : Int32)) &&& 31)) ^^^ (-1 : Int32))
  have q_20 := i_rng (r5 &&& (((255 : Int32) <<< (((x1 &&& (3 : Int32)) * (8 : Int32)) &&& 31)) ^^^ (-1 : Int32)))
  have q_21 := i_rng x2
  have q_23 := i_rng (x2 <<< (((x1 &&& (3 : Int32)) * (8 : Int32)) &&& 31))
  have q_25 := i_rng ((r5 &&& (((255 : Int32) <<< (((x1 &&& (3 : Int32)) * (8 : Int32)) &&& 31)) ^^^ (-1 : Int32))) ||| (x2 <<< (((x1 &&& (3 : Int32)) * (8 : Int32)) &&& 31)))
  refine WP.bind (cs_X6_hold hfu (x1 >>> ((2 : Int32) &&& 31)) ((r5 &&& (((255 : Int32) <<< (((x1 &&& (3 : Int32)) * (8 : Int32)) &&& 31)) ^^^ (-1 : Int32))) ||| (x2 <<< (((x1 &&& (3 : Int32)) * (8 : Int32)) &&& 31))) F G hI) ?_
  rintro r26 F26 G26 ⟨hI26, hB26, hT26, hO26, hK26, hp26⟩
  dsimp only
  have q_27 := hI.r 10 rfl
  have q_28 := hI26.r 10 rfl
  have e_29 : (F26 10).toInt = (F 10).toInt := hO26
  unfold cb_X6_keepByte_36
  refine WP.ret ?_
  exact ⟨hI26, (KB.tr (KB.rf : KB F G F G) hB26), (KT.tr (rfl : KT F F) hT26), (KO.tr (rfl : KO F F) hO26), (KK.tr (rfl : KK F F) hK26), trivial⟩
theorem cs_X6_reach {fu : Nat} (hfu : 8589934592 ≤ fu) (x1 : Int32) (F : PF) (G : PG) (hI : CI F G) : WP (cf_X6_reach fu x1 F G) (fun r' F' G' => CI F' G' ∧ KB F G F' G' ∧ KT F F' ∧ KO F F' ∧ KK F F' ∧ True) := by
  unfold cf_X6_reach
  unfold cb_X6_reach_0
  have q_1 := i_rng x1
  refine WP.ite (fun c_2 => ?_) (fun c_2 => ?_)
  · have e_3 : x1.toInt < 74 ∨ 80 < x1.toInt := c_2
    unfold cb_X6_reach_200
    refine WP.bind (cs_X6_next hfu F G hI) ?_
    rintro r4 F4 G4 ⟨hI4, hB4, hT4, hO4, hK4, hp4⟩
    dsimp only
    have q_5 := hI.r 10 rfl
    have q_6 := hI4.r 10 rfl
    have e_7 : (F4 10).toInt = (F 10).toInt := hO4
    unfold cb_X6_reach_206
    refine WP.bind (cs_X6_next hfu F4 G4 hI4) ?_
    rintro r8 F8 G8 ⟨hI8, hB8, hT8, hO8, hK8, hp8⟩
    dsimp only
    have q_9 := hI8.r 10 rfl
    have e_10 : (F8 10).toInt = (F4 10).toInt := hO8
    unfold cb_X6_reach_210
    have q_11 := i_rng r4
    have q_12 := i_rng r8
    refine WP.bind (cs_X6_pass hfu x1 r4 r8 F8 G8 hI8) ?_
    rintro r13 F13 G13 ⟨hI13, hB13, hT13, hO13, hK13, hp13⟩
    dsimp only
    have q_14 := hI13.r 10 rfl
    have e_15 : (F13 10).toInt = (F8 10).toInt := hO13
    unfold cb_X6_reach_213
    refine WP.ret ?_
    exact ⟨hI13, (KB.tr (KB.tr (KB.tr (KB.rf : KB F G F G) hB4) hB8) hB13), (KT.tr (KT.tr (KT.tr (rfl : KT F F) hT4) hT8) hT13), (KO.tr (KO.tr (KO.tr (rfl : KO F F) hO4) hO8) hO13), (KK.tr (KK.tr (KK.tr (rfl : KK F F) hK4) hK8) hK13), trivial⟩
  have e_16 : ¬ (x1.toInt < 74 ∨ 80 < x1.toInt) := c_2
  refine WP.ite (fun c_17 => ?_) (fun c_17 => ?_)
  · skip
    have l_18 : (74 : Int32).toInt = 74 := rfl
    have e_19 := i_eq.mp (show x1 = (74 : Int32) from c_17)
    unfold cb_X6_reach_44
    refine WP.bind (cs_X6_next hfu F G hI) ?_
    rintro r20 F20 G20 ⟨hI20, hB20, hT20, hO20, hK20, hp20⟩
    dsimp only
    have q_21 := hI.r 10 rfl
    have q_22 := hI20.r 10 rfl
    have e_23 : (F20 10).toInt = (F 10).toInt := hO20
    unfold cb_X6_reach_49
    refine WP.bind (cs_X6_next hfu F20 G20 hI20) ?_
    rintro r24 F24 G24 ⟨hI24, hB24, hT24, hO24, hK24, hp24⟩
    dsimp only
    have q_25 := hI24.r 10 rfl
    have e_26 : (F24 10).toInt = (F20 10).toInt := hO24
    unfold cb_X6_reach_53
    have q_27 := i_rng r20
    have q_28 := i_rng r24
    refine WP.bind (cs_X6_element hfu r20 r24 F24 G24 hI24) ?_
    rintro r29 F29 G29 ⟨hI29, hB29, hT29, hO29, hK29, hp29⟩
    dsimp only
    have q_30 := hI29.r 10 rfl
    have e_31 : (F29 10).toInt = (F24 10).toInt := hO29
    unfold cb_X6_reach_56
    unfold cb_X6_reach_213
    refine WP.ret ?_
    exact ⟨hI29, (KB.tr (KB.tr (KB.tr (KB.rf : KB F G F G) hB20) hB24) hB29), (KT.tr (KT.tr (KT.tr (rfl : KT F F) hT20) hT24) hT29), (KO.tr (KO.tr (KO.tr (rfl : KO F F) hO20) hO24) hO29), (KK.tr (KK.tr (KK.tr (rfl : KK F F) hK20) hK24) hK29), trivial⟩
  have l_32 : (74 : Int32).toInt = 74 := rfl
  have e_33 := mt i_eq.mpr (show ¬ (x1 = (74 : Int32)) from c_17)
  refine WP.ite (fun c_34 => ?_) (fun c_34 => ?_)
  · skip
    have l_35 : (75 : Int32).toInt = 75 := rfl
    have e_36 := i_eq.mp (show x1 = (75 : Int32) from c_34)
    unfold cb_X6_reach_59
    refine WP.bind (cs_X6_next hfu F G hI) ?_
    rintro r37 F37 G37 ⟨hI37, hB37, hT37, hO37, hK37, hp37⟩
    dsimp only
    have q_38 := hI.r 10 rfl
    have q_39 := hI37.r 10 rfl
    have e_40 : (F37 10).toInt = (F 10).toInt := hO37
    unfold cb_X6_reach_68
    refine WP.bind (cs_X6_next hfu F37 G37 hI37) ?_
    rintro r41 F41 G41 ⟨hI41, hB41, hT41, hO41, hK41, hp41⟩
    dsimp only
    have q_42 := hI41.r 10 rfl
    have e_43 : (F41 10).toInt = (F37 10).toInt := hO41
    unfold cb_X6_reach_73
    have q_44 := i_rng (F 58)
    have q_45 := i_rng r37
    first | have e_46 : ((F 58) + r37).toInt = (F 58).toInt + (r37.toInt) := i_addn (F 58) rfl (by omega) (by omega) | have e_47 := i_rng ((F 58) + r37)
    have q_48 := i_rng r41
    refine WP.bind (cs_X6_element hfu ((F 58) + r37) r41 F41 G41 hI41) ?_
    rintro r49 F49 G49 ⟨hI49, hB49, hT49, hO49, hK49, hp49⟩
    dsimp only
    have q_50 := hI49.r 10 rfl
    have e_51 : (F49 10).toInt = (F41 10).toInt := hO49
    unfold cb_X6_reach_76
    unfold cb_X6_reach_213
    refine WP.ret ?_
    exact ⟨hI49, (KB.tr (KB.tr (KB.tr (KB.rf : KB F G F G) hB37) hB41) hB49), (KT.tr (KT.tr (KT.tr (rfl : KT F F) hT37) hT41) hT49), (KO.tr (KO.tr (KO.tr (rfl : KO F F) hO37) hO41) hO49), (KK.tr (KK.tr (KK.tr (rfl : KK F F) hK37) hK41) hK49), trivial⟩
  have l_52 : (75 : Int32).toInt = 75 := rfl
  have e_53 := mt i_eq.mpr (show ¬ (x1 = (75 : Int32)) from c_34)
  refine WP.ite (fun c_54 => ?_) (fun c_54 => ?_)
  · skip
    have l_55 : (76 : Int32).toInt = 76 := rfl
    have e_56 := i_eq.mp (show x1 = (76 : Int32) from c_54)
    unfold cb_X6_reach_79
    refine WP.bind (cs_X6_next hfu F G hI) ?_
    rintro r57 F57 G57 ⟨hI57, hB57, hT57, hO57, hK57, hp57⟩
    dsimp only
    have q_58 := hI.r 10 rfl
    have q_59 := hI57.r 10 rfl
    have e_60 : (F57 10).toInt = (F 10).toInt := hO57
    unfold cb_X6_reach_87
    refine WP.bind (cs_X6_next hfu F57 G57 hI57) ?_
    rintro r61 F61 G61 ⟨hI61, hB61, hT61, hO61, hK61, hp61⟩
    dsimp only
    have q_62 := hI61.r 10 rfl
    have e_63 : (F61 10).toInt = (F57 10).toInt := hO61
    unfold cb_X6_reach_93
    have q_64 := i_rng (F 58)
    have q_65 := i_rng r57
    first | have e_66 : ((F 58) + r57).toInt = (F 58).toInt + (r57.toInt) := i_addn (F 58) rfl (by omega) (by omega) | have e_67 := i_rng ((F 58) + r57)
    refine WP.bind (cs_X6_held hfu ((F 58) + r57) F61 G61 hI61) ?_
    rintro r68 _ _ ⟨rfl, rfl, hp68⟩
    dsimp only
    unfold cb_X6_reach_100
    first | have e_69 : (((F 58) + r57) + (1 : Int32)).toInt = ((F 58) + r57).toInt + (1) := i_addn ((F 58) + r57) rfl (by omega) (by omega) | have e_70 := i_rng (((F 58) + r57) + (1 : Int32))
    refine WP.bind (cs_X6_held hfu (((F 58) + r57) + (1 : Int32)) F61 G61 hI61) ?_
    rintro r71 _ _ ⟨rfl, rfl, hp71⟩
    dsimp only
    unfold cb_X6_reach_107
    have q_72 := i_rng r68
    have q_73 := i_rng r71
    refine WP.bind (cs_X6_element hfu r68 r71 F61 G61 hI61) ?_
    rintro r74 F74 G74 ⟨hI74, hB74, hT74, hO74, hK74, hp74⟩
    dsimp only
    have q_75 := hI74.r 10 rfl
    have e_76 : (F74 10).toInt = (F61 10).toInt := hO74
    unfold cb_X6_reach_110
    unfold cb_X6_reach_213
    refine WP.ret ?_
    exact ⟨hI74, (KB.tr (KB.tr (KB.tr (KB.rf : KB F G F G) hB57) hB61) hB74), (KT.tr (KT.tr (KT.tr (rfl : KT F F) hT57) hT61) hT74), (KO.tr (KO.tr (KO.tr (rfl : KO F F) hO57) hO61) hO74), (KK.tr (KK.tr (KK.tr (rfl : KK F F) hK57) hK61) hK74), trivial⟩
  have l_77 : (76 : Int32).toInt = 76 := rfl
  have e_78 := mt i_eq.mpr (show ¬ (x1 = (76 : Int32)) from c_54)
  refine WP.ite (fun c_79 => ?_) (fun c_79 => ?_)
  · skip
    have l_80 : (77 : Int32).toInt = 77 := rfl
    have e_81 := i_eq.mp (show x1 = (77 : Int32) from c_79)
    unfold cb_X6_reach_113
    refine WP.bind (cs_X6_pop hfu F G hI) ?_
    rintro r82 F82 G82 ⟨hI82, hB82, hT82, hO82, hK82, hp82⟩
    dsimp only
    have q_83 := hI.r 10 rfl
    have q_84 := hI82.r 10 rfl
    have e_85 : (F82 10).toInt = (F 10).toInt := hO82
    unfold cb_X6_reach_119
    have q_86 := i_rng r82
    refine WP.bind (cs_X6_held hfu r82 F82 G82 hI82) ?_
    rintro r87 _ _ ⟨rfl, rfl, hp87⟩
    dsimp only
    unfold cb_X6_reach_122
    have q_88 := i_rng r87
    refine WP.bind (cs_X6_push hfu r87 F82 G82 hI82) ?_
    rintro r89 F89 G89 ⟨hI89, hB89, hT89, hO89, hK89, hp89⟩
    dsimp only
    have q_90 := hI89.r 10 rfl
    have e_91 : (F89 10).toInt = (F82 10).toInt := hO89
    unfold cb_X6_reach_125
    unfold cb_X6_reach_213
    refine WP.ret ?_
    exact ⟨hI89, (KB.tr (KB.tr (KB.rf : KB F G F G) hB82) hB89), (KT.tr (KT.tr (rfl : KT F F) hT82) hT89), (KO.tr (KO.tr (rfl : KO F F) hO82) hO89), (KK.tr (KK.tr (rfl : KK F F) hK82) hK89), trivial⟩
  have l_92 : (77 : Int32).toInt = 77 := rfl
  have e_93 := mt i_eq.mpr (show ¬ (x1 = (77 : Int32)) from c_79)
  refine WP.ite (fun c_94 => ?_) (fun c_94 => ?_)
  · skip
    have l_95 : (78 : Int32).toInt = 78 := rfl
    have e_96 := i_eq.mp (show x1 = (78 : Int32) from c_94)
    unfold cb_X6_reach_128
    refine WP.bind (cs_X6_pop hfu F G hI) ?_
    rintro r97 F97 G97 ⟨hI97, hB97, hT97, hO97, hK97, hp97⟩
    dsimp only
    have q_98 := hI.r 10 rfl
    have q_99 := hI97.r 10 rfl
    have e_100 : (F97 10).toInt = (F 10).toInt := hO97
    unfold cb_X6_reach_132
    have q_101 := i_rng r97
    have l_102 : (2 : Int32).toInt = 2 := rfl
    have e_104 : ((r97 >>> ((2 : Int32) &&& 31))).toInt = r97.toInt / 4 := i_shr 2 (by decide)
    refine WP.bind (cs_X6_held hfu (r97 >>> ((2 : Int32) &&& 31)) F97 G97 hI97) ?_
    rintro r105 _ _ ⟨rfl, rfl, hp105⟩
    dsimp only
    unfold cb_X6_reach_141
    have q_106 := i_rng r105
    have l_107 : (3 : Int32).toInt = 3 := rfl
    have e_109 := i_and r97 (m := 3) 2 (by decide) (by decide)
    have l_110 : (8 : Int32).toInt = 8 := rfl
    have q_112 := i_rng ((r97 &&& (3 : Int32)) * (8 : Int32))
    have q_114 := i_rng ((r105.toUInt32 >>> (((r97 &&& (3 : Int32)) * (8 : Int32)).toUInt32 &&& Int32.toUInt32 31)).toInt32)
    have l_115 : (255 : Int32).toInt = 255 := rfl
    have e_117 := i_and ((r105.toUInt32 >>> (((r97 &&& (3 : Int32)) * (8 : Int32)).toUInt32 &&& Int32.toUInt32 31)).toInt32) (m := 255) 8 (by decide) (by decide)
    refine WP.bind (cs_X6_push hfu (((r105.toUInt32 >>> (((r97 &&& (3 : Int32)) * (8 : Int32)).toUInt32 &&& Int32.toUInt32 31)).toInt32) &&& (255 : Int32)) F97 G97 hI97) ?_
    rintro r118 F118 G118 ⟨hI118, hB118, hT118, hO118, hK118, hp118⟩
    dsimp only
    have q_119 := hI118.r 10 rfl
    have e_120 : (F118 10).toInt = (F97 10).toInt := hO118
    unfold cb_X6_reach_155
    unfold cb_X6_reach_213
    refine WP.ret ?_
    exact ⟨hI118, (KB.tr (KB.tr (KB.rf : KB F G F G) hB97) hB118), (KT.tr (KT.tr (rfl : KT F F) hT97) hT118), (KO.tr (KO.tr (rfl : KO F F) hO97) hO118), (KK.tr (KK.tr (rfl : KK F F) hK97) hK118), trivial⟩
  have l_121 : (78 : Int32).toInt = 78 := rfl
  have e_122 := mt i_eq.mpr (show ¬ (x1 = (78 : Int32)) from c_94)
  refine WP.ite (fun c_123 => ?_) (fun c_123 => ?_)
  · skip
    have l_124 : (79 : Int32).toInt = 79 := rfl
    have e_125 := i_eq.mp (show x1 = (79 : Int32) from c_123)
    unfold cb_X6_reach_158
    refine WP.bind (cs_X6_pop hfu F G hI) ?_
    rintro r126 F126 G126 ⟨hI126, hB126, hT126, hO126, hK126, hp126⟩
    dsimp only
    have q_127 := hI.r 10 rfl
    have q_128 := hI126.r 10 rfl
    have e_129 : (F126 10).toInt = (F 10).toInt := hO126
    unfold cb_X6_reach_162
    refine WP.bind (cs_X6_pop hfu F126 G126 hI126) ?_
    rintro r130 F130 G130 ⟨hI130, hB130, hT130, hO130, hK130, hp130⟩
    dsimp only
    have q_131 := hI130.r 10 rfl
    have e_132 : (F130 10).toInt = (F126 10).toInt := hO130
    unfold cb_X6_reach_169
    have q_133 := i_rng r130
    have q_134 := i_rng r126
    refine WP.bind (cs_X6_hold hfu r130 r126 F130 G130 hI130) ?_
    rintro r135 F135 G135 ⟨hI135, hB135, hT135, hO135, hK135, hp135⟩
    dsimp only
    have q_136 := hI135.r 10 rfl
    have e_137 : (F135 10).toInt = (F130 10).toInt := hO135
    unfold cb_X6_reach_174
    unfold cb_X6_reach_213
    refine WP.ret ?_
    exact ⟨hI135, (KB.tr (KB.tr (KB.tr (KB.rf : KB F G F G) hB126) hB130) hB135), (KT.tr (KT.tr (KT.tr (rfl : KT F F) hT126) hT130) hT135), (KO.tr (KO.tr (KO.tr (rfl : KO F F) hO126) hO130) hO135), (KK.tr (KK.tr (KK.tr (rfl : KK F F) hK126) hK130) hK135), trivial⟩
  have l_138 : (79 : Int32).toInt = 79 := rfl
  have e_139 := mt i_eq.mpr (show ¬ (x1 = (79 : Int32)) from c_123)
  unfold cb_X6_reach_177
  refine WP.bind (cs_X6_pop hfu F G hI) ?_
  rintro r140 F140 G140 ⟨hI140, hB140, hT140, hO140, hK140, hp140⟩
  dsimp only
  have q_141 := hI.r 10 rfl
  have q_142 := hI140.r 10 rfl
  have e_143 : (F140 10).toInt = (F 10).toInt := hO140
  unfold cb_X6_reach_181
  refine WP.bind (cs_X6_pop hfu F140 G140 hI140) ?_
  rintro r144 F144 G144 ⟨hI144, hB144, hT144, hO144, hK144, hp144⟩
  dsimp only
  have q_145 := hI144.r 10 rfl
  have e_146 : (F144 10).toInt = (F140 10).toInt := hO144
  unfold cb_X6_reach_188
  have q_147 := i_rng r144
  have q_148 := i_rng r140
  have l_149 : (255 : Int32).toInt = 255 := rfl
  have e_151 := i_and r140 (m := 255) 8 (by decide) (by decide)
  refine WP.bind (cs_X6_keepByte hfu r144 (r140 &&& (255 : Int32)) F144 G144 hI144) ?_
  rintro r152 F152 G152 ⟨hI152, hB152, hT152, hO152, hK152, hp152⟩
  dsimp only
  have q_153 := hI152.r 10 rfl
  have e_154 : (F152 10).toInt = (F144 10).toInt := hO152
  unfold cb_X6_reach_197
  unfold cb_X6_reach_213
  refine WP.ret ?_
  exact ⟨hI152, (KB.tr (KB.tr (KB.tr (KB.rf : KB F G F G) hB140) hB144) hB152), (KT.tr (KT.tr (KT.tr (rfl : KT F F) hT140) hT144) hT152), (KO.tr (KO.tr (KO.tr (rfl : KO F F) hO140) hO144) hO152), (KK.tr (KK.tr (KK.tr (rfl : KK F F) hK140) hK144) hK152), trivial⟩
theorem cs_X6_step {fu : Nat} (hfu : 8589934592 ≤ fu) (F : PF) (G : PG) (hI : CI F G) : WP (cf_X6_step fu F G) (fun r' F' G' => CI F' G' ∧ KB F G F' G' ∧ KT F F' ∧ KO F F' ∧ KK F F' ∧ True) := by
  unfold cf_X6_step
  unfold cb_X6_step_0
  refine WP.bind (cs_X6_next hfu F G hI) ?_
  rintro r1 F1 G1 ⟨hI1, hB1, hT1, hO1, hK1, hp1⟩
  dsimp only
  have q_2 := hI.r 10 rfl
  have q_3 := hI1.r 10 rfl
  have e_4 : (F1 10).toInt = (F 10).toInt := hO1
  unfold cb_X6_step_9
  refine WP.ite (fun c_5 => ?_) (fun c_5 => ?_)
  · skip
    have q_6 := i_rng r1
    have l_7 : (45 : Int32).toInt = 45 := rfl
    have e_8 := i_lt.mp (show r1 < (45 : Int32) from c_5)
    unfold cb_X6_step_43
    refine WP.ite (fun c_9 => ?_) (fun c_9 => ?_)
    · skip
      have l_10 : (62 : Int32).toInt = 62 := rfl
      have e_11 := i_lt.mp (show r1 < (62 : Int32) from c_9)
      unfold cb_X6_step_70
      refine WP.ite (fun c_12 => ?_) (fun c_12 => ?_)
      · skip
        have l_13 : (66 : Int32).toInt = 66 := rfl
        have e_14 := i_lt.mp (show r1 < (66 : Int32) from c_12)
        unfold cb_X6_step_90
        refine WP.ite (fun c_15 => ?_) (fun c_15 => ?_)
        · skip
          have l_16 : (74 : Int32).toInt = 74 := rfl
          have e_17 := i_lt.mp (show r1 < (74 : Int32) from c_15)
          unfold cb_X6_step_110
          refine WP.ite (fun c_18 => ?_) (fun c_18 => ?_)
          · skip
            have l_19 : (84 : Int32).toInt = 84 := rfl
            have e_20 := i_lt.mp (show r1 < (84 : Int32) from c_18)
            unfold cb_X6_step_134
            have q_21 := i_rng (F 57)
            refine WP.bind (cs_X6_act hfu r1 (F 57) F1 G1 hI1) ?_
            rintro r22 F22 G22 ⟨hI22, hB22, hT22, hO22, hK22, hp22⟩
            dsimp only
            have q_23 := hI22.r 10 rfl
            have e_24 : (F22 10).toInt = (F1 10).toInt := hO22
            unfold cb_X6_step_140
            refine WP.ret ?_
            exact ⟨hI22, (KB.tr (KB.tr (KB.rf : KB F G F G) hB1) hB22), (KT.tr (KT.tr (rfl : KT F F) hT1) hT22), (KO.tr (KO.tr (rfl : KO F F) hO1) hO22), (KK.tr (KK.tr (rfl : KK F F) hK1) hK22), trivial⟩
          · skip
            have l_25 : (84 : Int32).toInt = 84 := rfl
            have e_26 := mt i_lt.mpr (show ¬ (r1 < (84 : Int32)) from c_18)
            unfold cb_X6_step_116
            refine WP.ite (fun c_27 => ?_) (fun c_27 => ?_)
            · skip
              have l_28 : (88 : Int32).toInt = 88 := rfl
              have e_29 := i_lt.mp (show (88 : Int32) < r1 from c_27)
              unfold cb_X6_step_134
              have q_30 := i_rng (F 57)
              refine WP.bind (cs_X6_act hfu r1 (F 57) F1 G1 hI1) ?_
              rintro r31 F31 G31 ⟨hI31, hB31, hT31, hO31, hK31, hp31⟩
              dsimp only
              have q_32 := hI31.r 10 rfl
              have e_33 : (F31 10).toInt = (F1 10).toInt := hO31
              unfold cb_X6_step_140
              refine WP.ret ?_
              exact ⟨hI31, (KB.tr (KB.tr (KB.rf : KB F G F G) hB1) hB31), (KT.tr (KT.tr (rfl : KT F F) hT1) hT31), (KO.tr (KO.tr (rfl : KO F F) hO1) hO31), (KK.tr (KK.tr (rfl : KK F F) hK1) hK31), trivial⟩
            · skip
              have l_34 : (88 : Int32).toInt = 88 := rfl
              have e_35 := mt i_lt.mpr (show ¬ ((88 : Int32) < r1) from c_27)
              unfold cb_X6_step_122
              refine WP.bind (cs_X6_next hfu F1 G1 hI1) ?_
              rintro r36 F36 G36 ⟨hI36, hB36, hT36, hO36, hK36, hp36⟩
              dsimp only
              have q_37 := hI36.r 10 rfl
              have e_38 : (F36 10).toInt = (F1 10).toInt := hO36
              unfold cb_X6_step_128
              have q_39 := i_rng r36
              refine WP.bind (cs_X6_jump hfu r1 r36 F36 G36 hI36) ?_
              rintro r40 F40 G40 ⟨hI40, hB40, hT40, hO40, hK40, hp40⟩
              dsimp only
              have q_41 := hI40.r 10 rfl
              have e_42 : (F40 10).toInt = (F36 10).toInt := hO40
              unfold cb_X6_step_131
              unfold cb_X6_step_140
              refine WP.ret ?_
              exact ⟨hI40, (KB.tr (KB.tr (KB.tr (KB.rf : KB F G F G) hB1) hB36) hB40), (KT.tr (KT.tr (KT.tr (rfl : KT F F) hT1) hT36) hT40), (KO.tr (KO.tr (KO.tr (rfl : KO F F) hO1) hO36) hO40), (KK.tr (KK.tr (KK.tr (rfl : KK F F) hK1) hK36) hK40), trivial⟩
        · skip
          have l_43 : (74 : Int32).toInt = 74 := rfl
          have e_44 := mt i_lt.mpr (show ¬ (r1 < (74 : Int32)) from c_15)
          unfold cb_X6_step_96
          refine WP.ite (fun c_45 => ?_) (fun c_45 => ?_)
          · skip
            have l_46 : (83 : Int32).toInt = 83 := rfl
            have e_47 := i_lt.mp (show (83 : Int32) < r1 from c_45)
            unfold cb_X6_step_110
            refine WP.ite (fun c_48 => ?_) (fun c_48 => ?_)
            · skip
              have l_49 : (84 : Int32).toInt = 84 := rfl
              have e_50 := i_lt.mp (show r1 < (84 : Int32) from c_48)
              unfold cb_X6_step_134
              have q_51 := i_rng (F 57)
              refine WP.bind (cs_X6_act hfu r1 (F 57) F1 G1 hI1) ?_
              rintro r52 F52 G52 ⟨hI52, hB52, hT52, hO52, hK52, hp52⟩
              dsimp only
              have q_53 := hI52.r 10 rfl
              have e_54 : (F52 10).toInt = (F1 10).toInt := hO52
              unfold cb_X6_step_140
              refine WP.ret ?_
              exact ⟨hI52, (KB.tr (KB.tr (KB.rf : KB F G F G) hB1) hB52), (KT.tr (KT.tr (rfl : KT F F) hT1) hT52), (KO.tr (KO.tr (rfl : KO F F) hO1) hO52), (KK.tr (KK.tr (rfl : KK F F) hK1) hK52), trivial⟩
            · skip
              have l_55 : (84 : Int32).toInt = 84 := rfl
              have e_56 := mt i_lt.mpr (show ¬ (r1 < (84 : Int32)) from c_48)
              unfold cb_X6_step_116
              refine WP.ite (fun c_57 => ?_) (fun c_57 => ?_)
              · skip
                have l_58 : (88 : Int32).toInt = 88 := rfl
                have e_59 := i_lt.mp (show (88 : Int32) < r1 from c_57)
                unfold cb_X6_step_134
                have q_60 := i_rng (F 57)
                refine WP.bind (cs_X6_act hfu r1 (F 57) F1 G1 hI1) ?_
                rintro r61 F61 G61 ⟨hI61, hB61, hT61, hO61, hK61, hp61⟩
                dsimp only
                have q_62 := hI61.r 10 rfl
                have e_63 : (F61 10).toInt = (F1 10).toInt := hO61
                unfold cb_X6_step_140
                refine WP.ret ?_
                exact ⟨hI61, (KB.tr (KB.tr (KB.rf : KB F G F G) hB1) hB61), (KT.tr (KT.tr (rfl : KT F F) hT1) hT61), (KO.tr (KO.tr (rfl : KO F F) hO1) hO61), (KK.tr (KK.tr (rfl : KK F F) hK1) hK61), trivial⟩
              · skip
                have l_64 : (88 : Int32).toInt = 88 := rfl
                have e_65 := mt i_lt.mpr (show ¬ ((88 : Int32) < r1) from c_57)
                unfold cb_X6_step_122
                refine WP.bind (cs_X6_next hfu F1 G1 hI1) ?_
                rintro r66 F66 G66 ⟨hI66, hB66, hT66, hO66, hK66, hp66⟩
                dsimp only
                have q_67 := hI66.r 10 rfl
                have e_68 : (F66 10).toInt = (F1 10).toInt := hO66
                unfold cb_X6_step_128
                have q_69 := i_rng r66
                refine WP.bind (cs_X6_jump hfu r1 r66 F66 G66 hI66) ?_
                rintro r70 F70 G70 ⟨hI70, hB70, hT70, hO70, hK70, hp70⟩
                dsimp only
                have q_71 := hI70.r 10 rfl
                have e_72 : (F70 10).toInt = (F66 10).toInt := hO70
                unfold cb_X6_step_131
                unfold cb_X6_step_140
                refine WP.ret ?_
                exact ⟨hI70, (KB.tr (KB.tr (KB.tr (KB.rf : KB F G F G) hB1) hB66) hB70), (KT.tr (KT.tr (KT.tr (rfl : KT F F) hT1) hT66) hT70), (KO.tr (KO.tr (KO.tr (rfl : KO F F) hO1) hO66) hO70), (KK.tr (KK.tr (KK.tr (rfl : KK F F) hK1) hK66) hK70), trivial⟩
          · skip
            have l_73 : (83 : Int32).toInt = 83 := rfl
            have e_74 := mt i_lt.mpr (show ¬ ((83 : Int32) < r1) from c_45)
            unfold cb_X6_step_102
            refine WP.bind (cs_X6_reach hfu r1 F1 G1 hI1) ?_
            rintro r75 F75 G75 ⟨hI75, hB75, hT75, hO75, hK75, hp75⟩
            dsimp only
            have q_76 := hI75.r 10 rfl
            have e_77 : (F75 10).toInt = (F1 10).toInt := hO75
            unfold cb_X6_step_107
            unfold cb_X6_step_140
            refine WP.ret ?_
            exact ⟨hI75, (KB.tr (KB.tr (KB.rf : KB F G F G) hB1) hB75), (KT.tr (KT.tr (rfl : KT F F) hT1) hT75), (KO.tr (KO.tr (rfl : KO F F) hO1) hO75), (KK.tr (KK.tr (rfl : KK F F) hK1) hK75), trivial⟩
      · skip
        have l_78 : (66 : Int32).toInt = 66 := rfl
        have e_79 := mt i_lt.mpr (show ¬ (r1 < (66 : Int32)) from c_12)
        unfold cb_X6_step_76
        refine WP.ite (fun c_80 => ?_) (fun c_80 => ?_)
        · skip
          have l_81 : (73 : Int32).toInt = 73 := rfl
          have e_82 := i_lt.mp (show (73 : Int32) < r1 from c_80)
          unfold cb_X6_step_90
          refine WP.ite (fun c_83 => ?_) (fun c_83 => ?_)
          · skip
            have l_84 : (74 : Int32).toInt = 74 := rfl
            have e_85 := i_lt.mp (show r1 < (74 : Int32) from c_83)
            unfold cb_X6_step_110
            refine WP.ite (fun c_86 => ?_) (fun c_86 => ?_)
            · skip
              have l_87 : (84 : Int32).toInt = 84 := rfl
              have e_88 := i_lt.mp (show r1 < (84 : Int32) from c_86)
              unfold cb_X6_step_134
              have q_89 := i_rng (F 57)
              refine WP.bind (cs_X6_act hfu r1 (F 57) F1 G1 hI1) ?_
              rintro r90 F90 G90 ⟨hI90, hB90, hT90, hO90, hK90, hp90⟩
              dsimp only
              have q_91 := hI90.r 10 rfl
              have e_92 : (F90 10).toInt = (F1 10).toInt := hO90
              unfold cb_X6_step_140
              refine WP.ret ?_
              exact ⟨hI90, (KB.tr (KB.tr (KB.rf : KB F G F G) hB1) hB90), (KT.tr (KT.tr (rfl : KT F F) hT1) hT90), (KO.tr (KO.tr (rfl : KO F F) hO1) hO90), (KK.tr (KK.tr (rfl : KK F F) hK1) hK90), trivial⟩
            · skip
              have l_93 : (84 : Int32).toInt = 84 := rfl
              have e_94 := mt i_lt.mpr (show ¬ (r1 < (84 : Int32)) from c_86)
              unfold cb_X6_step_116
              refine WP.ite (fun c_95 => ?_) (fun c_95 => ?_)
              · skip
                have l_96 : (88 : Int32).toInt = 88 := rfl
                have e_97 := i_lt.mp (show (88 : Int32) < r1 from c_95)
                unfold cb_X6_step_134
                have q_98 := i_rng (F 57)
                refine WP.bind (cs_X6_act hfu r1 (F 57) F1 G1 hI1) ?_
                rintro r99 F99 G99 ⟨hI99, hB99, hT99, hO99, hK99, hp99⟩
                dsimp only
                have q_100 := hI99.r 10 rfl
                have e_101 : (F99 10).toInt = (F1 10).toInt := hO99
                unfold cb_X6_step_140
                refine WP.ret ?_
                exact ⟨hI99, (KB.tr (KB.tr (KB.rf : KB F G F G) hB1) hB99), (KT.tr (KT.tr (rfl : KT F F) hT1) hT99), (KO.tr (KO.tr (rfl : KO F F) hO1) hO99), (KK.tr (KK.tr (rfl : KK F F) hK1) hK99), trivial⟩
              · skip
                have l_102 : (88 : Int32).toInt = 88 := rfl
                have e_103 := mt i_lt.mpr (show ¬ ((88 : Int32) < r1) from c_95)
                unfold cb_X6_step_122
                refine WP.bind (cs_X6_next hfu F1 G1 hI1) ?_
                rintro r104 F104 G104 ⟨hI104, hB104, hT104, hO104, hK104, hp104⟩
                dsimp only
                have q_105 := hI104.r 10 rfl
                have e_106 : (F104 10).toInt = (F1 10).toInt := hO104
                unfold cb_X6_step_128
                have q_107 := i_rng r104
                refine WP.bind (cs_X6_jump hfu r1 r104 F104 G104 hI104) ?_
                rintro r108 F108 G108 ⟨hI108, hB108, hT108, hO108, hK108, hp108⟩
                dsimp only
                have q_109 := hI108.r 10 rfl
                have e_110 : (F108 10).toInt = (F104 10).toInt := hO108
                unfold cb_X6_step_131
                unfold cb_X6_step_140
                refine WP.ret ?_
                exact ⟨hI108, (KB.tr (KB.tr (KB.tr (KB.rf : KB F G F G) hB1) hB104) hB108), (KT.tr (KT.tr (KT.tr (rfl : KT F F) hT1) hT104) hT108), (KO.tr (KO.tr (KO.tr (rfl : KO F F) hO1) hO104) hO108), (KK.tr (KK.tr (KK.tr (rfl : KK F F) hK1) hK104) hK108), trivial⟩
          · skip
            have l_111 : (74 : Int32).toInt = 74 := rfl
            have e_112 := mt i_lt.mpr (show ¬ (r1 < (74 : Int32)) from c_83)
            unfold cb_X6_step_96
            refine WP.ite (fun c_113 => ?_) (fun c_113 => ?_)
            · skip
              have l_114 : (83 : Int32).toInt = 83 := rfl
              have e_115 := i_lt.mp (show (83 : Int32) < r1 from c_113)
              unfold cb_X6_step_110
              refine WP.ite (fun c_116 => ?_) (fun c_116 => ?_)
              · skip
                have l_117 : (84 : Int32).toInt = 84 := rfl
                have e_118 := i_lt.mp (show r1 < (84 : Int32) from c_116)
                unfold cb_X6_step_134
                have q_119 := i_rng (F 57)
                refine WP.bind (cs_X6_act hfu r1 (F 57) F1 G1 hI1) ?_
                rintro r120 F120 G120 ⟨hI120, hB120, hT120, hO120, hK120, hp120⟩
                dsimp only
                have q_121 := hI120.r 10 rfl
                have e_122 : (F120 10).toInt = (F1 10).toInt := hO120
                unfold cb_X6_step_140
                refine WP.ret ?_
                exact ⟨hI120, (KB.tr (KB.tr (KB.rf : KB F G F G) hB1) hB120), (KT.tr (KT.tr (rfl : KT F F) hT1) hT120), (KO.tr (KO.tr (rfl : KO F F) hO1) hO120), (KK.tr (KK.tr (rfl : KK F F) hK1) hK120), trivial⟩
              · skip
                have l_123 : (84 : Int32).toInt = 84 := rfl
                have e_124 := mt i_lt.mpr (show ¬ (r1 < (84 : Int32)) from c_116)
                unfold cb_X6_step_116
                refine WP.ite (fun c_125 => ?_) (fun c_125 => ?_)
                · skip
                  have l_126 : (88 : Int32).toInt = 88 := rfl
                  have e_127 := i_lt.mp (show (88 : Int32) < r1 from c_125)
                  unfold cb_X6_step_134
                  have q_128 := i_rng (F 57)
                  refine WP.bind (cs_X6_act hfu r1 (F 57) F1 G1 hI1) ?_
                  rintro r129 F129 G129 ⟨hI129, hB129, hT129, hO129, hK129, hp129⟩
                  dsimp only
                  have q_130 := hI129.r 10 rfl
                  have e_131 : (F129 10).toInt = (F1 10).toInt := hO129
                  unfold cb_X6_step_140
                  refine WP.ret ?_
                  exact ⟨hI129, (KB.tr (KB.tr (KB.rf : KB F G F G) hB1) hB129), (KT.tr (KT.tr (rfl : KT F F) hT1) hT129), (KO.tr (KO.tr (rfl : KO F F) hO1) hO129), (KK.tr (KK.tr (rfl : KK F F) hK1) hK129), trivial⟩
                · skip
                  have l_132 : (88 : Int32).toInt = 88 := rfl
                  have e_133 := mt i_lt.mpr (show ¬ ((88 : Int32) < r1) from c_125)
                  unfold cb_X6_step_122
                  refine WP.bind (cs_X6_next hfu F1 G1 hI1) ?_
                  rintro r134 F134 G134 ⟨hI134, hB134, hT134, hO134, hK134, hp134⟩
                  dsimp only
                  have q_135 := hI134.r 10 rfl
                  have e_136 : (F134 10).toInt = (F1 10).toInt := hO134
                  unfold cb_X6_step_128
                  have q_137 := i_rng r134
                  refine WP.bind (cs_X6_jump hfu r1 r134 F134 G134 hI134) ?_
                  rintro r138 F138 G138 ⟨hI138, hB138, hT138, hO138, hK138, hp138⟩
                  dsimp only
                  have q_139 := hI138.r 10 rfl
                  have e_140 : (F138 10).toInt = (F134 10).toInt := hO138
                  unfold cb_X6_step_131
                  unfold cb_X6_step_140
                  refine WP.ret ?_
                  exact ⟨hI138, (KB.tr (KB.tr (KB.tr (KB.rf : KB F G F G) hB1) hB134) hB138), (KT.tr (KT.tr (KT.tr (rfl : KT F F) hT1) hT134) hT138), (KO.tr (KO.tr (KO.tr (rfl : KO F F) hO1) hO134) hO138), (KK.tr (KK.tr (KK.tr (rfl : KK F F) hK1) hK134) hK138), trivial⟩
            · skip
              have l_141 : (83 : Int32).toInt = 83 := rfl
              have e_142 := mt i_lt.mpr (show ¬ ((83 : Int32) < r1) from c_113)
              unfold cb_X6_step_102
              refine WP.bind (cs_X6_reach hfu r1 F1 G1 hI1) ?_
              rintro r143 F143 G143 ⟨hI143, hB143, hT143, hO143, hK143, hp143⟩
              dsimp only
              have q_144 := hI143.r 10 rfl
              have e_145 : (F143 10).toInt = (F1 10).toInt := hO143
              unfold cb_X6_step_107
              unfold cb_X6_step_140
              refine WP.ret ?_
              exact ⟨hI143, (KB.tr (KB.tr (KB.rf : KB F G F G) hB1) hB143), (KT.tr (KT.tr (rfl : KT F F) hT1) hT143), (KO.tr (KO.tr (rfl : KO F F) hO1) hO143), (KK.tr (KK.tr (rfl : KK F F) hK1) hK143), trivial⟩
        · skip
          have l_146 : (73 : Int32).toInt = 73 := rfl
          have e_147 := mt i_lt.mpr (show ¬ ((73 : Int32) < r1) from c_80)
          unfold cb_X6_step_82
          refine WP.bind (cs_X6_move hfu r1 F1 G1 hI1) ?_
          rintro r148 F148 G148 ⟨hI148, hB148, hT148, hO148, hK148, hp148⟩
          dsimp only
          have q_149 := hI148.r 10 rfl
          have e_150 : (F148 10).toInt = (F1 10).toInt := hO148
          unfold cb_X6_step_87
          unfold cb_X6_step_140
          refine WP.ret ?_
          exact ⟨hI148, (KB.tr (KB.tr (KB.rf : KB F G F G) hB1) hB148), (KT.tr (KT.tr (rfl : KT F F) hT1) hT148), (KO.tr (KO.tr (rfl : KO F F) hO1) hO148), (KK.tr (KK.tr (rfl : KK F F) hK1) hK148), trivial⟩
    · skip
      have l_151 : (62 : Int32).toInt = 62 := rfl
      have e_152 := mt i_lt.mpr (show ¬ (r1 < (62 : Int32)) from c_9)
      unfold cb_X6_step_49
      refine WP.ite (fun c_153 => ?_) (fun c_153 => ?_)
      · skip
        have l_154 : (65 : Int32).toInt = 65 := rfl
        have e_155 := i_lt.mp (show (65 : Int32) < r1 from c_153)
        unfold cb_X6_step_70
        refine WP.ite (fun c_156 => ?_) (fun c_156 => ?_)
        · skip
          have l_157 : (66 : Int32).toInt = 66 := rfl
          have e_158 := i_lt.mp (show r1 < (66 : Int32) from c_156)
          unfold cb_X6_step_90
          refine WP.ite (fun c_159 => ?_) (fun c_159 => ?_)
          · skip
            have l_160 : (74 : Int32).toInt = 74 := rfl
            have e_161 := i_lt.mp (show r1 < (74 : Int32) from c_159)
            unfold cb_X6_step_110
            refine WP.ite (fun c_162 => ?_) (fun c_162 => ?_)
            · skip
              have l_163 : (84 : Int32).toInt = 84 := rfl
              have e_164 := i_lt.mp (show r1 < (84 : Int32) from c_162)
              unfold cb_X6_step_134
              have q_165 := i_rng (F 57)
              refine WP.bind (cs_X6_act hfu r1 (F 57) F1 G1 hI1) ?_
              rintro r166 F166 G166 ⟨hI166, hB166, hT166, hO166, hK166, hp166⟩
              dsimp only
              have q_167 := hI166.r 10 rfl
              have e_168 : (F166 10).toInt = (F1 10).toInt := hO166
              unfold cb_X6_step_140
              refine WP.ret ?_
              exact ⟨hI166, (KB.tr (KB.tr (KB.rf : KB F G F G) hB1) hB166), (KT.tr (KT.tr (rfl : KT F F) hT1) hT166), (KO.tr (KO.tr (rfl : KO F F) hO1) hO166), (KK.tr (KK.tr (rfl : KK F F) hK1) hK166), trivial⟩
            · skip
              have l_169 : (84 : Int32).toInt = 84 := rfl
              have e_170 := mt i_lt.mpr (show ¬ (r1 < (84 : Int32)) from c_162)
              unfold cb_X6_step_116
              refine WP.ite (fun c_171 => ?_) (fun c_171 => ?_)
              · skip
                have l_172 : (88 : Int32).toInt = 88 := rfl
                have e_173 := i_lt.mp (show (88 : Int32) < r1 from c_171)
                unfold cb_X6_step_134
                have q_174 := i_rng (F 57)
                refine WP.bind (cs_X6_act hfu r1 (F 57) F1 G1 hI1) ?_
                rintro r175 F175 G175 ⟨hI175, hB175, hT175, hO175, hK175, hp175⟩
                dsimp only
                have q_176 := hI175.r 10 rfl
                have e_177 : (F175 10).toInt = (F1 10).toInt := hO175
                unfold cb_X6_step_140
                refine WP.ret ?_
                exact ⟨hI175, (KB.tr (KB.tr (KB.rf : KB F G F G) hB1) hB175), (KT.tr (KT.tr (rfl : KT F F) hT1) hT175), (KO.tr (KO.tr (rfl : KO F F) hO1) hO175), (KK.tr (KK.tr (rfl : KK F F) hK1) hK175), trivial⟩
              · skip
                have l_178 : (88 : Int32).toInt = 88 := rfl
                have e_179 := mt i_lt.mpr (show ¬ ((88 : Int32) < r1) from c_171)
                unfold cb_X6_step_122
                refine WP.bind (cs_X6_next hfu F1 G1 hI1) ?_
                rintro r180 F180 G180 ⟨hI180, hB180, hT180, hO180, hK180, hp180⟩
                dsimp only
                have q_181 := hI180.r 10 rfl
                have e_182 : (F180 10).toInt = (F1 10).toInt := hO180
                unfold cb_X6_step_128
                have q_183 := i_rng r180
                refine WP.bind (cs_X6_jump hfu r1 r180 F180 G180 hI180) ?_
                rintro r184 F184 G184 ⟨hI184, hB184, hT184, hO184, hK184, hp184⟩
                dsimp only
                have q_185 := hI184.r 10 rfl
                have e_186 : (F184 10).toInt = (F180 10).toInt := hO184
                unfold cb_X6_step_131
                unfold cb_X6_step_140
                refine WP.ret ?_
                exact ⟨hI184, (KB.tr (KB.tr (KB.tr (KB.rf : KB F G F G) hB1) hB180) hB184), (KT.tr (KT.tr (KT.tr (rfl : KT F F) hT1) hT180) hT184), (KO.tr (KO.tr (KO.tr (rfl : KO F F) hO1) hO180) hO184), (KK.tr (KK.tr (KK.tr (rfl : KK F F) hK1) hK180) hK184), trivial⟩
          · skip
            have l_187 : (74 : Int32).toInt = 74 := rfl
            have e_188 := mt i_lt.mpr (show ¬ (r1 < (74 : Int32)) from c_159)
            unfold cb_X6_step_96
            refine WP.ite (fun c_189 => ?_) (fun c_189 => ?_)
            · skip
              have l_190 : (83 : Int32).toInt = 83 := rfl
              have e_191 := i_lt.mp (show (83 : Int32) < r1 from c_189)
              unfold cb_X6_step_110
              refine WP.ite (fun c_192 => ?_) (fun c_192 => ?_)
              · skip
                have l_193 : (84 : Int32).toInt = 84 := rfl
                have e_194 := i_lt.mp (show r1 < (84 : Int32) from c_192)
                unfold cb_X6_step_134
                have q_195 := i_rng (F 57)
                refine WP.bind (cs_X6_act hfu r1 (F 57) F1 G1 hI1) ?_
                rintro r196 F196 G196 ⟨hI196, hB196, hT196, hO196, hK196, hp196⟩
                dsimp only
                have q_197 := hI196.r 10 rfl
                have e_198 : (F196 10).toInt = (F1 10).toInt := hO196
                unfold cb_X6_step_140
                refine WP.ret ?_
                exact ⟨hI196, (KB.tr (KB.tr (KB.rf : KB F G F G) hB1) hB196), (KT.tr (KT.tr (rfl : KT F F) hT1) hT196), (KO.tr (KO.tr (rfl : KO F F) hO1) hO196), (KK.tr (KK.tr (rfl : KK F F) hK1) hK196), trivial⟩
              · skip
                have l_199 : (84 : Int32).toInt = 84 := rfl
                have e_200 := mt i_lt.mpr (show ¬ (r1 < (84 : Int32)) from c_192)
                unfold cb_X6_step_116
                refine WP.ite (fun c_201 => ?_) (fun c_201 => ?_)
                · skip
                  have l_202 : (88 : Int32).toInt = 88 := rfl
                  have e_203 := i_lt.mp (show (88 : Int32) < r1 from c_201)
                  unfold cb_X6_step_134
                  have q_204 := i_rng (F 57)
                  refine WP.bind (cs_X6_act hfu r1 (F 57) F1 G1 hI1) ?_
                  rintro r205 F205 G205 ⟨hI205, hB205, hT205, hO205, hK205, hp205⟩
                  dsimp only
                  have q_206 := hI205.r 10 rfl
                  have e_207 : (F205 10).toInt = (F1 10).toInt := hO205
                  unfold cb_X6_step_140
                  refine WP.ret ?_
                  exact ⟨hI205, (KB.tr (KB.tr (KB.rf : KB F G F G) hB1) hB205), (KT.tr (KT.tr (rfl : KT F F) hT1) hT205), (KO.tr (KO.tr (rfl : KO F F) hO1) hO205), (KK.tr (KK.tr (rfl : KK F F) hK1) hK205), trivial⟩
                · skip
                  have l_208 : (88 : Int32).toInt = 88 := rfl
                  have e_209 := mt i_lt.mpr (show ¬ ((88 : Int32) < r1) from c_201)
                  unfold cb_X6_step_122
                  refine WP.bind (cs_X6_next hfu F1 G1 hI1) ?_
                  rintro r210 F210 G210 ⟨hI210, hB210, hT210, hO210, hK210, hp210⟩
                  dsimp only
                  have q_211 := hI210.r 10 rfl
                  have e_212 : (F210 10).toInt = (F1 10).toInt := hO210
                  unfold cb_X6_step_128
                  have q_213 := i_rng r210
                  refine WP.bind (cs_X6_jump hfu r1 r210 F210 G210 hI210) ?_
                  rintro r214 F214 G214 ⟨hI214, hB214, hT214, hO214, hK214, hp214⟩
                  dsimp only
                  have q_215 := hI214.r 10 rfl
                  have e_216 : (F214 10).toInt = (F210 10).toInt := hO214
                  unfold cb_X6_step_131
                  unfold cb_X6_step_140
                  refine WP.ret ?_
                  exact ⟨hI214, (KB.tr (KB.tr (KB.tr (KB.rf : KB F G F G) hB1) hB210) hB214), (KT.tr (KT.tr (KT.tr (rfl : KT F F) hT1) hT210) hT214), (KO.tr (KO.tr (KO.tr (rfl : KO F F) hO1) hO210) hO214), (KK.tr (KK.tr (KK.tr (rfl : KK F F) hK1) hK210) hK214), trivial⟩
            · skip
              have l_217 : (83 : Int32).toInt = 83 := rfl
              have e_218 := mt i_lt.mpr (show ¬ ((83 : Int32) < r1) from c_189)
              unfold cb_X6_step_102
              refine WP.bind (cs_X6_reach hfu r1 F1 G1 hI1) ?_
              rintro r219 F219 G219 ⟨hI219, hB219, hT219, hO219, hK219, hp219⟩
              dsimp only
              have q_220 := hI219.r 10 rfl
              have e_221 : (F219 10).toInt = (F1 10).toInt := hO219
              unfold cb_X6_step_107
              unfold cb_X6_step_140
              refine WP.ret ?_
              exact ⟨hI219, (KB.tr (KB.tr (KB.rf : KB F G F G) hB1) hB219), (KT.tr (KT.tr (rfl : KT F F) hT1) hT219), (KO.tr (KO.tr (rfl : KO F F) hO1) hO219), (KK.tr (KK.tr (rfl : KK F F) hK1) hK219), trivial⟩
        · skip
          have l_222 : (66 : Int32).toInt = 66 := rfl
          have e_223 := mt i_lt.mpr (show ¬ (r1 < (66 : Int32)) from c_156)
          unfold cb_X6_step_76
          refine WP.ite (fun c_224 => ?_) (fun c_224 => ?_)
          · skip
            have l_225 : (73 : Int32).toInt = 73 := rfl
            have e_226 := i_lt.mp (show (73 : Int32) < r1 from c_224)
            unfold cb_X6_step_90
            refine WP.ite (fun c_227 => ?_) (fun c_227 => ?_)
            · skip
              have l_228 : (74 : Int32).toInt = 74 := rfl
              have e_229 := i_lt.mp (show r1 < (74 : Int32) from c_227)
              unfold cb_X6_step_110
              refine WP.ite (fun c_230 => ?_) (fun c_230 => ?_)
              · skip
                have l_231 : (84 : Int32).toInt = 84 := rfl
                have e_232 := i_lt.mp (show r1 < (84 : Int32) from c_230)
                unfold cb_X6_step_134
                have q_233 := i_rng (F 57)
                refine WP.bind (cs_X6_act hfu r1 (F 57) F1 G1 hI1) ?_
                rintro r234 F234 G234 ⟨hI234, hB234, hT234, hO234, hK234, hp234⟩
                dsimp only
                have q_235 := hI234.r 10 rfl
                have e_236 : (F234 10).toInt = (F1 10).toInt := hO234
                unfold cb_X6_step_140
                refine WP.ret ?_
                exact ⟨hI234, (KB.tr (KB.tr (KB.rf : KB F G F G) hB1) hB234), (KT.tr (KT.tr (rfl : KT F F) hT1) hT234), (KO.tr (KO.tr (rfl : KO F F) hO1) hO234), (KK.tr (KK.tr (rfl : KK F F) hK1) hK234), trivial⟩
              · skip
                have l_237 : (84 : Int32).toInt = 84 := rfl
                have e_238 := mt i_lt.mpr (show ¬ (r1 < (84 : Int32)) from c_230)
                unfold cb_X6_step_116
                refine WP.ite (fun c_239 => ?_) (fun c_239 => ?_)
                · skip
                  have l_240 : (88 : Int32).toInt = 88 := rfl
                  have e_241 := i_lt.mp (show (88 : Int32) < r1 from c_239)
                  unfold cb_X6_step_134
                  have q_242 := i_rng (F 57)
                  refine WP.bind (cs_X6_act hfu r1 (F 57) F1 G1 hI1) ?_
                  rintro r243 F243 G243 ⟨hI243, hB243, hT243, hO243, hK243, hp243⟩
                  dsimp only
                  have q_244 := hI243.r 10 rfl
                  have e_245 : (F243 10).toInt = (F1 10).toInt := hO243
                  unfold cb_X6_step_140
                  refine WP.ret ?_
                  exact ⟨hI243, (KB.tr (KB.tr (KB.rf : KB F G F G) hB1) hB243), (KT.tr (KT.tr (rfl : KT F F) hT1) hT243), (KO.tr (KO.tr (rfl : KO F F) hO1) hO243), (KK.tr (KK.tr (rfl : KK F F) hK1) hK243), trivial⟩
                · skip
                  have l_246 : (88 : Int32).toInt = 88 := rfl
                  have e_247 := mt i_lt.mpr (show ¬ ((88 : Int32) < r1) from c_239)
                  unfold cb_X6_step_122
                  refine WP.bind (cs_X6_next hfu F1 G1 hI1) ?_
                  rintro r248 F248 G248 ⟨hI248, hB248, hT248, hO248, hK248, hp248⟩
                  dsimp only
                  have q_249 := hI248.r 10 rfl
                  have e_250 : (F248 10).toInt = (F1 10).toInt := hO248
                  unfold cb_X6_step_128
                  have q_251 := i_rng r248
                  refine WP.bind (cs_X6_jump hfu r1 r248 F248 G248 hI248) ?_
                  rintro r252 F252 G252 ⟨hI252, hB252, hT252, hO252, hK252, hp252⟩
                  dsimp only
                  have q_253 := hI252.r 10 rfl
                  have e_254 : (F252 10).toInt = (F248 10).toInt := hO252
                  unfold cb_X6_step_131
                  unfold cb_X6_step_140
                  refine WP.ret ?_
                  exact ⟨hI252, (KB.tr (KB.tr (KB.tr (KB.rf : KB F G F G) hB1) hB248) hB252), (KT.tr (KT.tr (KT.tr (rfl : KT F F) hT1) hT248) hT252), (KO.tr (KO.tr (KO.tr (rfl : KO F F) hO1) hO248) hO252), (KK.tr (KK.tr (KK.tr (rfl : KK F F) hK1) hK248) hK252), trivial⟩
            · skip
              have l_255 : (74 : Int32).toInt = 74 := rfl
              have e_256 := mt i_lt.mpr (show ¬ (r1 < (74 : Int32)) from c_227)
              unfold cb_X6_step_96
              refine WP.ite (fun c_257 => ?_) (fun c_257 => ?_)
              · skip
                have l_258 : (83 : Int32).toInt = 83 := rfl
                have e_259 := i_lt.mp (show (83 : Int32) < r1 from c_257)
                unfold cb_X6_step_110
                refine WP.ite (fun c_260 => ?_) (fun c_260 => ?_)
                · skip
                  have l_261 : (84 : Int32).toInt = 84 := rfl
                  have e_262 := i_lt.mp (show r1 < (84 : Int32) from c_260)
                  unfold cb_X6_step_134
                  have q_263 := i_rng (F 57)
                  refine WP.bind (cs_X6_act hfu r1 (F 57) F1 G1 hI1) ?_
                  rintro r264 F264 G264 ⟨hI264, hB264, hT264, hO264, hK264, hp264⟩
                  dsimp only
                  have q_265 := hI264.r 10 rfl
                  have e_266 : (F264 10).toInt = (F1 10).toInt := hO264
                  unfold cb_X6_step_140
                  refine WP.ret ?_
                  exact ⟨hI264, (KB.tr (KB.tr (KB.rf : KB F G F G) hB1) hB264), (KT.tr (KT.tr (rfl : KT F F) hT1) hT264), (KO.tr (KO.tr (rfl : KO F F) hO1) hO264), (KK.tr (KK.tr (rfl : KK F F) hK1) hK264), trivial⟩
                · skip
                  have l_267 : (84 : Int32).toInt = 84 := rfl
                  have e_268 := mt i_lt.mpr (show ¬ (r1 < (84 : Int32)) from c_260)
                  unfold cb_X6_step_116
                  refine WP.ite (fun c_269 => ?_) (fun c_269 => ?_)
                  · skip
                    have l_270 : (88 : Int32).toInt = 88 := rfl
                    have e_271 := i_lt.mp (show (88 : Int32) < r1 from c_269)
                    unfold cb_X6_step_134
                    have q_272 := i_rng (F 57)
                    refine WP.bind (cs_X6_act hfu r1 (F 57) F1 G1 hI1) ?_
                    rintro r273 F273 G273 ⟨hI273, hB273, hT273, hO273, hK273, hp273⟩
                    dsimp only
                    have q_274 := hI273.r 10 rfl
                    have e_275 : (F273 10).toInt = (F1 10).toInt := hO273
                    unfold cb_X6_step_140
                    refine WP.ret ?_
                    exact ⟨hI273, (KB.tr (KB.tr (KB.rf : KB F G F G) hB1) hB273), (KT.tr (KT.tr (rfl : KT F F) hT1) hT273), (KO.tr (KO.tr (rfl : KO F F) hO1) hO273), (KK.tr (KK.tr (rfl : KK F F) hK1) hK273), trivial⟩
                  · skip
                    have l_276 : (88 : Int32).toInt = 88 := rfl
                    have e_277 := mt i_lt.mpr (show ¬ ((88 : Int32) < r1) from c_269)
                    unfold cb_X6_step_122
                    refine WP.bind (cs_X6_next hfu F1 G1 hI1) ?_
                    rintro r278 F278 G278 ⟨hI278, hB278, hT278, hO278, hK278, hp278⟩
                    dsimp only
                    have q_279 := hI278.r 10 rfl
                    have e_280 : (F278 10).toInt = (F1 10).toInt := hO278
                    unfold cb_X6_step_128
                    have q_281 := i_rng r278
                    refine WP.bind (cs_X6_jump hfu r1 r278 F278 G278 hI278) ?_
                    rintro r282 F282 G282 ⟨hI282, hB282, hT282, hO282, hK282, hp282⟩
                    dsimp only
                    have q_283 := hI282.r 10 rfl
                    have e_284 : (F282 10).toInt = (F278 10).toInt := hO282
                    unfold cb_X6_step_131
                    unfold cb_X6_step_140
                    refine WP.ret ?_
                    exact ⟨hI282, (KB.tr (KB.tr (KB.tr (KB.rf : KB F G F G) hB1) hB278) hB282), (KT.tr (KT.tr (KT.tr (rfl : KT F F) hT1) hT278) hT282), (KO.tr (KO.tr (KO.tr (rfl : KO F F) hO1) hO278) hO282), (KK.tr (KK.tr (KK.tr (rfl : KK F F) hK1) hK278) hK282), trivial⟩
              · skip
                have l_285 : (83 : Int32).toInt = 83 := rfl
                have e_286 := mt i_lt.mpr (show ¬ ((83 : Int32) < r1) from c_257)
                unfold cb_X6_step_102
                refine WP.bind (cs_X6_reach hfu r1 F1 G1 hI1) ?_
                rintro r287 F287 G287 ⟨hI287, hB287, hT287, hO287, hK287, hp287⟩
                dsimp only
                have q_288 := hI287.r 10 rfl
                have e_289 : (F287 10).toInt = (F1 10).toInt := hO287
                unfold cb_X6_step_107
                unfold cb_X6_step_140
                refine WP.ret ?_
                exact ⟨hI287, (KB.tr (KB.tr (KB.rf : KB F G F G) hB1) hB287), (KT.tr (KT.tr (rfl : KT F F) hT1) hT287), (KO.tr (KO.tr (rfl : KO F F) hO1) hO287), (KK.tr (KK.tr (rfl : KK F F) hK1) hK287), trivial⟩
          · skip
            have l_290 : (73 : Int32).toInt = 73 := rfl
            have e_291 := mt i_lt.mpr (show ¬ ((73 : Int32) < r1) from c_224)
            unfold cb_X6_step_82
            refine WP.bind (cs_X6_move hfu r1 F1 G1 hI1) ?_
            rintro r292 F292 G292 ⟨hI292, hB292, hT292, hO292, hK292, hp292⟩
            dsimp only
            have q_293 := hI292.r 10 rfl
            have e_294 : (F292 10).toInt = (F1 10).toInt := hO292
            unfold cb_X6_step_87
            unfold cb_X6_step_140
            refine WP.ret ?_
            exact ⟨hI292, (KB.tr (KB.tr (KB.rf : KB F G F G) hB1) hB292), (KT.tr (KT.tr (rfl : KT F F) hT1) hT292), (KO.tr (KO.tr (rfl : KO F F) hO1) hO292), (KK.tr (KK.tr (rfl : KK F F) hK1) hK292), trivial⟩
      · skip
        have l_295 : (65 : Int32).toInt = 65 := rfl
        have e_296 := mt i_lt.mpr (show ¬ ((65 : Int32) < r1) from c_153)
        unfold cb_X6_step_55
        refine WP.bind (cs_X6_pop hfu F1 G1 hI1) ?_
        rintro r297 F297 G297 ⟨hI297, hB297, hT297, hO297, hK297, hp297⟩
        dsimp only
        have q_298 := hI297.r 10 rfl
        have e_299 : (F297 10).toInt = (F1 10).toInt := hO297
        unfold cb_X6_step_61
        have q_300 := i_rng r297
        refine WP.bind (cs_X6_changed hfu r1 r297 F297 G297 hI297) ?_
        rintro r301 _ _ ⟨rfl, rfl, hp301⟩
        dsimp only
        unfold cb_X6_step_64
        have q_302 := i_rng r301
        refine WP.bind (cs_X6_push hfu r301 F297 G297 hI297) ?_
        rintro r303 F303 G303 ⟨hI303, hB303, hT303, hO303, hK303, hp303⟩
        dsimp only
        have q_304 := hI303.r 10 rfl
        have e_305 : (F303 10).toInt = (F297 10).toInt := hO303
        unfold cb_X6_step_67
        unfold cb_X6_step_140
        refine WP.ret ?_
        exact ⟨hI303, (KB.tr (KB.tr (KB.tr (KB.rf : KB F G F G) hB1) hB297) hB303), (KT.tr (KT.tr (KT.tr (rfl : KT F F) hT1) hT297) hT303), (KO.tr (KO.tr (KO.tr (rfl : KO F F) hO1) hO297) hO303), (KK.tr (KK.tr (KK.tr (rfl : KK F F) hK1) hK297) hK303), trivial⟩
  · skip
    have q_306 := i_rng r1
    have l_307 : (45 : Int32).toInt = 45 := rfl
    have e_308 := mt i_lt.mpr (show ¬ (r1 < (45 : Int32)) from c_5)
    unfold cb_X6_step_16
    refine WP.ite (fun c_309 => ?_) (fun c_309 => ?_)
    · skip
      have l_310 : (61 : Int32).toInt = 61 := rfl
      have e_311 := i_lt.mp (show (61 : Int32) < r1 from c_309)
      unfold cb_X6_step_43
      refine WP.ite (fun c_312 => ?_) (fun c_312 => ?_)
      · skip
        have l_313 : (62 : Int32).toInt = 62 := rfl
        have e_314 := i_lt.mp (show r1 < (62 : Int32) from c_312)
        unfold cb_X6_step_70
        refine WP.ite (fun c_315 => ?_) (fun c_315 => ?_)
        · skip
          have l_316 : (66 : Int32).toInt = 66 := rfl
          have e_317 := i_lt.mp (show r1 < (66 : Int32) from c_315)
          unfold cb_X6_step_90
          refine WP.ite (fun c_318 => ?_) (fun c_318 => ?_)
          · skip
            have l_319 : (74 : Int32).toInt = 74 := rfl
            have e_320 := i_lt.mp (show r1 < (74 : Int32) from c_318)
            unfold cb_X6_step_110
            refine WP.ite (fun c_321 => ?_) (fun c_321 => ?_)
            · skip
              have l_322 : (84 : Int32).toInt = 84 := rfl
              have e_323 := i_lt.mp (show r1 < (84 : Int32) from c_321)
              unfold cb_X6_step_134
              have q_324 := i_rng (F 57)
              refine WP.bind (cs_X6_act hfu r1 (F 57) F1 G1 hI1) ?_
              rintro r325 F325 G325 ⟨hI325, hB325, hT325, hO325, hK325, hp325⟩
              dsimp only
              have q_326 := hI325.r 10 rfl
              have e_327 : (F325 10).toInt = (F1 10).toInt := hO325
              unfold cb_X6_step_140
              refine WP.ret ?_
              exact ⟨hI325, (KB.tr (KB.tr (KB.rf : KB F G F G) hB1) hB325), (KT.tr (KT.tr (rfl : KT F F) hT1) hT325), (KO.tr (KO.tr (rfl : KO F F) hO1) hO325), (KK.tr (KK.tr (rfl : KK F F) hK1) hK325), trivial⟩
            · skip
              have l_328 : (84 : Int32).toInt = 84 := rfl
              have e_329 := mt i_lt.mpr (show ¬ (r1 < (84 : Int32)) from c_321)
              unfold cb_X6_step_116
              refine WP.ite (fun c_330 => ?_) (fun c_330 => ?_)
              · skip
                have l_331 : (88 : Int32).toInt = 88 := rfl
                have e_332 := i_lt.mp (show (88 : Int32) < r1 from c_330)
                unfold cb_X6_step_134
                have q_333 := i_rng (F 57)
                refine WP.bind (cs_X6_act hfu r1 (F 57) F1 G1 hI1) ?_
                rintro r334 F334 G334 ⟨hI334, hB334, hT334, hO334, hK334, hp334⟩
                dsimp only
                have q_335 := hI334.r 10 rfl
                have e_336 : (F334 10).toInt = (F1 10).toInt := hO334
                unfold cb_X6_step_140
                refine WP.ret ?_
                exact ⟨hI334, (KB.tr (KB.tr (KB.rf : KB F G F G) hB1) hB334), (KT.tr (KT.tr (rfl : KT F F) hT1) hT334), (KO.tr (KO.tr (rfl : KO F F) hO1) hO334), (KK.tr (KK.tr (rfl : KK F F) hK1) hK334), trivial⟩
              · skip
                have l_337 : (88 : Int32).toInt = 88 := rfl
                have e_338 := mt i_lt.mpr (show ¬ ((88 : Int32) < r1) from c_330)
                unfold cb_X6_step_122
                refine WP.bind (cs_X6_next hfu F1 G1 hI1) ?_
                rintro r339 F339 G339 ⟨hI339, hB339, hT339, hO339, hK339, hp339⟩
                dsimp only
                have q_340 := hI339.r 10 rfl
                have e_341 : (F339 10).toInt = (F1 10).toInt := hO339
                unfold cb_X6_step_128
                have q_342 := i_rng r339
                refine WP.bind (cs_X6_jump hfu r1 r339 F339 G339 hI339) ?_
                rintro r343 F343 G343 ⟨hI343, hB343, hT343, hO343, hK343, hp343⟩
                dsimp only
                have q_344 := hI343.r 10 rfl
                have e_345 : (F343 10).toInt = (F339 10).toInt := hO343
                unfold cb_X6_step_131
                unfold cb_X6_step_140
                refine WP.ret ?_
                exact ⟨hI343, (KB.tr (KB.tr (KB.tr (KB.rf : KB F G F G) hB1) hB339) hB343), (KT.tr (KT.tr (KT.tr (rfl : KT F F) hT1) hT339) hT343), (KO.tr (KO.tr (KO.tr (rfl : KO F F) hO1) hO339) hO343), (KK.tr (KK.tr (KK.tr (rfl : KK F F) hK1) hK339) hK343), trivial⟩
          · skip
            have l_346 : (74 : Int32).toInt = 74 := rfl
            have e_347 := mt i_lt.mpr (show ¬ (r1 < (74 : Int32)) from c_318)
            unfold cb_X6_step_96
            refine WP.ite (fun c_348 => ?_) (fun c_348 => ?_)
            · skip
              have l_349 : (83 : Int32).toInt = 83 := rfl
              have e_350 := i_lt.mp (show (83 : Int32) < r1 from c_348)
              unfold cb_X6_step_110
              refine WP.ite (fun c_351 => ?_) (fun c_351 => ?_)
              · skip
                have l_352 : (84 : Int32).toInt = 84 := rfl
                have e_353 := i_lt.mp (show r1 < (84 : Int32) from c_351)
                unfold cb_X6_step_134
                have q_354 := i_rng (F 57)
                refine WP.bind (cs_X6_act hfu r1 (F 57) F1 G1 hI1) ?_
                rintro r355 F355 G355 ⟨hI355, hB355, hT355, hO355, hK355, hp355⟩
                dsimp only
                have q_356 := hI355.r 10 rfl
                have e_357 : (F355 10).toInt = (F1 10).toInt := hO355
                unfold cb_X6_step_140
                refine WP.ret ?_
                exact ⟨hI355, (KB.tr (KB.tr (KB.rf : KB F G F G) hB1) hB355), (KT.tr (KT.tr (rfl : KT F F) hT1) hT355), (KO.tr (KO.tr (rfl : KO F F) hO1) hO355), (KK.tr (KK.tr (rfl : KK F F) hK1) hK355), trivial⟩
              · skip
                have l_358 : (84 : Int32).toInt = 84 := rfl
                have e_359 := mt i_lt.mpr (show ¬ (r1 < (84 : Int32)) from c_351)
                unfold cb_X6_step_116
                refine WP.ite (fun c_360 => ?_) (fun c_360 => ?_)
                · skip
                  have l_361 : (88 : Int32).toInt = 88 := rfl
                  have e_362 := i_lt.mp (show (88 : Int32) < r1 from c_360)
                  unfold cb_X6_step_134
                  have q_363 := i_rng (F 57)
                  refine WP.bind (cs_X6_act hfu r1 (F 57) F1 G1 hI1) ?_
                  rintro r364 F364 G364 ⟨hI364, hB364, hT364, hO364, hK364, hp364⟩
                  dsimp only
                  have q_365 := hI364.r 10 rfl
                  have e_366 : (F364 10).toInt = (F1 10).toInt := hO364
                  unfold cb_X6_step_140
                  refine WP.ret ?_
                  exact ⟨hI364, (KB.tr (KB.tr (KB.rf : KB F G F G) hB1) hB364), (KT.tr (KT.tr (rfl : KT F F) hT1) hT364), (KO.tr (KO.tr (rfl : KO F F) hO1) hO364), (KK.tr (KK.tr (rfl : KK F F) hK1) hK364), trivial⟩
                · skip
                  have l_367 : (88 : Int32).toInt = 88 := rfl
                  have e_368 := mt i_lt.mpr (show ¬ ((88 : Int32) < r1) from c_360)
                  unfold cb_X6_step_122
                  refine WP.bind (cs_X6_next hfu F1 G1 hI1) ?_
                  rintro r369 F369 G369 ⟨hI369, hB369, hT369, hO369, hK369, hp369⟩
                  dsimp only
                  have q_370 := hI369.r 10 rfl
                  have e_371 : (F369 10).toInt = (F1 10).toInt := hO369
                  unfold cb_X6_step_128
                  have q_372 := i_rng r369
                  refine WP.bind (cs_X6_jump hfu r1 r369 F369 G369 hI369) ?_
                  rintro r373 F373 G373 ⟨hI373, hB373, hT373, hO373, hK373, hp373⟩
                  dsimp only
                  have q_374 := hI373.r 10 rfl
                  have e_375 : (F373 10).toInt = (F369 10).toInt := hO373
                  unfold cb_X6_step_131
                  unfold cb_X6_step_140
                  refine WP.ret ?_
                  exact ⟨hI373, (KB.tr (KB.tr (KB.tr (KB.rf : KB F G F G) hB1) hB369) hB373), (KT.tr (KT.tr (KT.tr (rfl : KT F F) hT1) hT369) hT373), (KO.tr (KO.tr (KO.tr (rfl : KO F F) hO1) hO369) hO373), (KK.tr (KK.tr (KK.tr (rfl : KK F F) hK1) hK369) hK373), trivial⟩
            · skip
              have l_376 : (83 : Int32).toInt = 83 := rfl
              have e_377 := mt i_lt.mpr (show ¬ ((83 : Int32) < r1) from c_348)
              unfold cb_X6_step_102
              refine WP.bind (cs_X6_reach hfu r1 F1 G1 hI1) ?_
              rintro r378 F378 G378 ⟨hI378, hB378, hT378, hO378, hK378, hp378⟩
              dsimp only
              have q_379 := hI378.r 10 rfl
              have e_380 : (F378 10).toInt = (F1 10).toInt := hO378
              unfold cb_X6_step_107
              unfold cb_X6_step_140
              refine WP.ret ?_
              exact ⟨hI378, (KB.tr (KB.tr (KB.rf : KB F G F G) hB1) hB378), (KT.tr (KT.tr (rfl : KT F F) hT1) hT378), (KO.tr (KO.tr (rfl : KO F F) hO1) hO378), (KK.tr (KK.tr (rfl : KK F F) hK1) hK378), trivial⟩
        · skip
          have l_381 : (66 : Int32).toInt = 66 := rfl
          have e_382 := mt i_lt.mpr (show ¬ (r1 < (66 : Int32)) from c_315)
          unfold cb_X6_step_76
          refine WP.ite (fun c_383 => ?_) (fun c_383 => ?_)
          · skip
            have l_384 : (73 : Int32).toInt = 73 := rfl
            have e_385 := i_lt.mp (show (73 : Int32) < r1 from c_383)
            unfold cb_X6_step_90
            refine WP.ite (fun c_386 => ?_) (fun c_386 => ?_)
            · skip
              have l_387 : (74 : Int32).toInt = 74 := rfl
              have e_388 := i_lt.mp (show r1 < (74 : Int32) from c_386)
              unfold cb_X6_step_110
              refine WP.ite (fun c_389 => ?_) (fun c_389 => ?_)
              · skip
                have l_390 : (84 : Int32).toInt = 84 := rfl
                have e_391 := i_lt.mp (show r1 < (84 : Int32) from c_389)
                unfold cb_X6_step_134
                have q_392 := i_rng (F 57)
                refine WP.bind (cs_X6_act hfu r1 (F 57) F1 G1 hI1) ?_
                rintro r393 F393 G393 ⟨hI393, hB393, hT393, hO393, hK393, hp393⟩
                dsimp only
                have q_394 := hI393.r 10 rfl
                have e_395 : (F393 10).toInt = (F1 10).toInt := hO393
                unfold cb_X6_step_140
                refine WP.ret ?_
                exact ⟨hI393, (KB.tr (KB.tr (KB.rf : KB F G F G) hB1) hB393), (KT.tr (KT.tr (rfl : KT F F) hT1) hT393), (KO.tr (KO.tr (rfl : KO F F) hO1) hO393), (KK.tr (KK.tr (rfl : KK F F) hK1) hK393), trivial⟩
              · skip
                have l_396 : (84 : Int32).toInt = 84 := rfl
                have e_397 := mt i_lt.mpr (show ¬ (r1 < (84 : Int32)) from c_389)
                unfold cb_X6_step_116
                refine WP.ite (fun c_398 => ?_) (fun c_398 => ?_)
                · skip
                  have l_399 : (88 : Int32).toInt = 88 := rfl
                  have e_400 := i_lt.mp (show (88 : Int32) < r1 from c_398)
                  unfold cb_X6_step_134
                  have q_401 := i_rng (F 57)
                  refine WP.bind (cs_X6_act hfu r1 (F 57) F1 G1 hI1) ?_
                  rintro r402 F402 G402 ⟨hI402, hB402, hT402, hO402, hK402, hp402⟩
                  dsimp only
                  have q_403 := hI402.r 10 rfl
                  have e_404 : (F402 10).toInt = (F1 10).toInt := hO402
                  unfold cb_X6_step_140
                  refine WP.ret ?_
                  exact ⟨hI402, (KB.tr (KB.tr (KB.rf : KB F G F G) hB1) hB402), (KT.tr (KT.tr (rfl : KT F F) hT1) hT402), (KO.tr (KO.tr (rfl : KO F F) hO1) hO402), (KK.tr (KK.tr (rfl : KK F F) hK1) hK402), trivial⟩
                · skip
                  have l_405 : (88 : Int32).toInt = 88 := rfl
                  have e_406 := mt i_lt.mpr (show ¬ ((88 : Int32) < r1) from c_398)
                  unfold cb_X6_step_122
                  refine WP.bind (cs_X6_next hfu F1 G1 hI1) ?_
                  rintro r407 F407 G407 ⟨hI407, hB407, hT407, hO407, hK407, hp407⟩
                  dsimp only
                  have q_408 := hI407.r 10 rfl
                  have e_409 : (F407 10).toInt = (F1 10).toInt := hO407
                  unfold cb_X6_step_128
                  have q_410 := i_rng r407
                  refine WP.bind (cs_X6_jump hfu r1 r407 F407 G407 hI407) ?_
                  rintro r411 F411 G411 ⟨hI411, hB411, hT411, hO411, hK411, hp411⟩
                  dsimp only
                  have q_412 := hI411.r 10 rfl
                  have e_413 : (F411 10).toInt = (F407 10).toInt := hO411
                  unfold cb_X6_step_131
                  unfold cb_X6_step_140
                  refine WP.ret ?_
                  exact ⟨hI411, (KB.tr (KB.tr (KB.tr (KB.rf : KB F G F G) hB1) hB407) hB411), (KT.tr (KT.tr (KT.tr (rfl : KT F F) hT1) hT407) hT411), (KO.tr (KO.tr (KO.tr (rfl : KO F F) hO1) hO407) hO411), (KK.tr (KK.tr (KK.tr (rfl : KK F F) hK1) hK407) hK411), trivial⟩
            · skip
              have l_414 : (74 : Int32).toInt = 74 := rfl
              have e_415 := mt i_lt.mpr (show ¬ (r1 < (74 : Int32)) from c_386)
              unfold cb_X6_step_96
              refine WP.ite (fun c_416 => ?_) (fun c_416 => ?_)
              · skip
                have l_417 : (83 : Int32).toInt = 83 := rfl
                have e_418 := i_lt.mp (show (83 : Int32) < r1 from c_416)
                unfold cb_X6_step_110
                refine WP.ite (fun c_419 => ?_) (fun c_419 => ?_)
                · skip
                  have l_420 : (84 : Int32).toInt = 84 := rfl
                  have e_421 := i_lt.mp (show r1 < (84 : Int32) from c_419)
                  unfold cb_X6_step_134
                  have q_422 := i_rng (F 57)
                  refine WP.bind (cs_X6_act hfu r1 (F 57) F1 G1 hI1) ?_
                  rintro r423 F423 G423 ⟨hI423, hB423, hT423, hO423, hK423, hp423⟩
                  dsimp only
                  have q_424 := hI423.r 10 rfl
                  have e_425 : (F423 10).toInt = (F1 10).toInt := hO423
                  unfold cb_X6_step_140
                  refine WP.ret ?_
                  exact ⟨hI423, (KB.tr (KB.tr (KB.rf : KB F G F G) hB1) hB423), (KT.tr (KT.tr (rfl : KT F F) hT1) hT423), (KO.tr (KO.tr (rfl : KO F F) hO1) hO423), (KK.tr (KK.tr (rfl : KK F F) hK1) hK423), trivial⟩
                · skip
                  have l_426 : (84 : Int32).toInt = 84 := rfl
                  have e_427 := mt i_lt.mpr (show ¬ (r1 < (84 : Int32)) from c_419)
                  unfold cb_X6_step_116
                  refine WP.ite (fun c_428 => ?_) (fun c_428 => ?_)
                  · skip
                    have l_429 : (88 : Int32).toInt = 88 := rfl
                    have e_430 := i_lt.mp (show (88 : Int32) < r1 from c_428)
                    unfold cb_X6_step_134
                    have q_431 := i_rng (F 57)
                    refine WP.bind (cs_X6_act hfu r1 (F 57) F1 G1 hI1) ?_
                    rintro r432 F432 G432 ⟨hI432, hB432, hT432, hO432, hK432, hp432⟩
                    dsimp only
                    have q_433 := hI432.r 10 rfl
                    have e_434 : (F432 10).toInt = (F1 10).toInt := hO432
                    unfold cb_X6_step_140
                    refine WP.ret ?_
                    exact ⟨hI432, (KB.tr (KB.tr (KB.rf : KB F G F G) hB1) hB432), (KT.tr (KT.tr (rfl : KT F F) hT1) hT432), (KO.tr (KO.tr (rfl : KO F F) hO1) hO432), (KK.tr (KK.tr (rfl : KK F F) hK1) hK432), trivial⟩
                  · skip
                    have l_435 : (88 : Int32).toInt = 88 := rfl
                    have e_436 := mt i_lt.mpr (show ¬ ((88 : Int32) < r1) from c_428)
                    unfold cb_X6_step_122
                    refine WP.bind (cs_X6_next hfu F1 G1 hI1) ?_
                    rintro r437 F437 G437 ⟨hI437, hB437, hT437, hO437, hK437, hp437⟩
                    dsimp only
                    have q_438 := hI437.r 10 rfl
                    have e_439 : (F437 10).toInt = (F1 10).toInt := hO437
                    unfold cb_X6_step_128
                    have q_440 := i_rng r437
                    refine WP.bind (cs_X6_jump hfu r1 r437 F437 G437 hI437) ?_
                    rintro r441 F441 G441 ⟨hI441, hB441, hT441, hO441, hK441, hp441⟩
                    dsimp only
                    have q_442 := hI441.r 10 rfl
                    have e_443 : (F441 10).toInt = (F437 10).toInt := hO441
                    unfold cb_X6_step_131
                    unfold cb_X6_step_140
                    refine WP.ret ?_
                    exact ⟨hI441, (KB.tr (KB.tr (KB.tr (KB.rf : KB F G F G) hB1) hB437) hB441), (KT.tr (KT.tr (KT.tr (rfl : KT F F) hT1) hT437) hT441), (KO.tr (KO.tr (KO.tr (rfl : KO F F) hO1) hO437) hO441), (KK.tr (KK.tr (KK.tr (rfl : KK F F) hK1) hK437) hK441), trivial⟩
              · skip
                have l_444 : (83 : Int32).toInt = 83 := rfl
                have e_445 := mt i_lt.mpr (show ¬ ((83 : Int32) < r1) from c_416)
                unfold cb_X6_step_102
                refine WP.bind (cs_X6_reach hfu r1 F1 G1 hI1) ?_
                rintro r446 F446 G446 ⟨hI446, hB446, hT446, hO446, hK446, hp446⟩
                dsimp only
                have q_447 := hI446.r 10 rfl
                have e_448 : (F446 10).toInt = (F1 10).toInt := hO446
                unfold cb_X6_step_107
                unfold cb_X6_step_140
                refine WP.ret ?_
                exact ⟨hI446, (KB.tr (KB.tr (KB.rf : KB F G F G) hB1) hB446), (KT.tr (KT.tr (rfl : KT F F) hT1) hT446), (KO.tr (KO.tr (rfl : KO F F) hO1) hO446), (KK.tr (KK.tr (rfl : KK F F) hK1) hK446), trivial⟩
          · skip
            have l_449 : (73 : Int32).toInt = 73 := rfl
            have e_450 := mt i_lt.mpr (show ¬ ((73 : Int32) < r1) from c_383)
            unfold cb_X6_step_82
            refine WP.bind (cs_X6_move hfu r1 F1 G1 hI1) ?_
            rintro r451 F451 G451 ⟨hI451, hB451, hT451, hO451, hK451, hp451⟩
            dsimp only
            have q_452 := hI451.r 10 rfl
            have e_453 : (F451 10).toInt = (F1 10).toInt := hO451
            unfold cb_X6_step_87
            unfold cb_X6_step_140
            refine WP.ret ?_
            exact ⟨hI451, (KB.tr (KB.tr (KB.rf : KB F G F G) hB1) hB451), (KT.tr (KT.tr (rfl : KT F F) hT1) hT451), (KO.tr (KO.tr (rfl : KO F F) hO1) hO451), (KK.tr (KK.tr (rfl : KK F F) hK1) hK451), trivial⟩
      · skip
        have l_454 : (62 : Int32).toInt = 62 := rfl
        have e_455 := mt i_lt.mpr (show ¬ (r1 < (62 : Int32)) from c_312)
        unfold cb_X6_step_49
        refine WP.ite (fun c_456 => ?_) (fun c_456 => ?_)
        · skip
          have l_457 : (65 : Int32).toInt = 65 := rfl
          have e_458 := i_lt.mp (show (65 : Int32) < r1 from c_456)
          unfold cb_X6_step_70
          refine WP.ite (fun c_459 => ?_) (fun c_459 => ?_)
          · skip
            have l_460 : (66 : Int32).toInt = 66 := rfl
            have e_461 := i_lt.mp (show r1 < (66 : Int32) from c_459)
            unfold cb_X6_step_90
            refine WP.ite (fun c_462 => ?_) (fun c_462 => ?_)
            · skip
              have l_463 : (74 : Int32).toInt = 74 := rfl
              have e_464 := i_lt.mp (show r1 < (74 : Int32) from c_462)
              unfold cb_X6_step_110
              refine WP.ite (fun c_465 => ?_) (fun c_465 => ?_)
              · skip
                have l_466 : (84 : Int32).toInt = 84 := rfl
                have e_467 := i_lt.mp (show r1 < (84 : Int32) from c_465)
                unfold cb_X6_step_134
                have q_468 := i_rng (F 57)
                refine WP.bind (cs_X6_act hfu r1 (F 57) F1 G1 hI1) ?_
                rintro r469 F469 G469 ⟨hI469, hB469, hT469, hO469, hK469, hp469⟩
                dsimp only
                have q_470 := hI469.r 10 rfl
                have e_471 : (F469 10).toInt = (F1 10).toInt := hO469
                unfold cb_X6_step_140
                refine WP.ret ?_
                exact ⟨hI469, (KB.tr (KB.tr (KB.rf : KB F G F G) hB1) hB469), (KT.tr (KT.tr (rfl : KT F F) hT1) hT469), (KO.tr (KO.tr (rfl : KO F F) hO1) hO469), (KK.tr (KK.tr (rfl : KK F F) hK1) hK469), trivial⟩
              · skip
                have l_472 : (84 : Int32).toInt = 84 := rfl
                have e_473 := mt i_lt.mpr (show ¬ (r1 < (84 : Int32)) from c_465)
                unfold cb_X6_step_116
                refine WP.ite (fun c_474 => ?_) (fun c_474 => ?_)
                · skip
                  have l_475 : (88 : Int32).toInt = 88 := rfl
                  have e_476 := i_lt.mp (show (88 : Int32) < r1 from c_474)
                  unfold cb_X6_step_134
                  have q_477 := i_rng (F 57)
                  refine WP.bind (cs_X6_act hfu r1 (F 57) F1 G1 hI1) ?_
                  rintro r478 F478 G478 ⟨hI478, hB478, hT478, hO478, hK478, hp478⟩
                  dsimp only
                  have q_479 := hI478.r 10 rfl
                  have e_480 : (F478 10).toInt = (F1 10).toInt := hO478
                  unfold cb_X6_step_140
                  refine WP.ret ?_
                  exact ⟨hI478, (KB.tr (KB.tr (KB.rf : KB F G F G) hB1) hB478), (KT.tr (KT.tr (rfl : KT F F) hT1) hT478), (KO.tr (KO.tr (rfl : KO F F) hO1) hO478), (KK.tr (KK.tr (rfl : KK F F) hK1) hK478), trivial⟩
                · skip
                  have l_481 : (88 : Int32).toInt = 88 := rfl
                  have e_482 := mt i_lt.mpr (show ¬ ((88 : Int32) < r1) from c_474)
                  unfold cb_X6_step_122
                  refine WP.bind (cs_X6_next hfu F1 G1 hI1) ?_
                  rintro r483 F483 G483 ⟨hI483, hB483, hT483, hO483, hK483, hp483⟩
                  dsimp only
                  have q_484 := hI483.r 10 rfl
                  have e_485 : (F483 10).toInt = (F1 10).toInt := hO483
                  unfold cb_X6_step_128
                  have q_486 := i_rng r483
                  refine WP.bind (cs_X6_jump hfu r1 r483 F483 G483 hI483) ?_
                  rintro r487 F487 G487 ⟨hI487, hB487, hT487, hO487, hK487, hp487⟩
                  dsimp only
                  have q_488 := hI487.r 10 rfl
                  have e_489 : (F487 10).toInt = (F483 10).toInt := hO487
                  unfold cb_X6_step_131
                  unfold cb_X6_step_140
                  refine WP.ret ?_
                  exact ⟨hI487, (KB.tr (KB.tr (KB.tr (KB.rf : KB F G F G) hB1) hB483) hB487), (KT.tr (KT.tr (KT.tr (rfl : KT F F) hT1) hT483) hT487), (KO.tr (KO.tr (KO.tr (rfl : KO F F) hO1) hO483) hO487), (KK.tr (KK.tr (KK.tr (rfl : KK F F) hK1) hK483) hK487), trivial⟩
            · skip
              have l_490 : (74 : Int32).toInt = 74 := rfl
              have e_491 := mt i_lt.mpr (show ¬ (r1 < (74 : Int32)) from c_462)
              unfold cb_X6_step_96
              refine WP.ite (fun c_492 => ?_) (fun c_492 => ?_)
              · skip
                have l_493 : (83 : Int32).toInt = 83 := rfl
                have e_494 := i_lt.mp (show (83 : Int32) < r1 from c_492)
                unfold cb_X6_step_110
                refine WP.ite (fun c_495 => ?_) (fun c_495 => ?_)
                · skip
                  have l_496 : (84 : Int32).toInt = 84 := rfl
                  have e_497 := i_lt.mp (show r1 < (84 : Int32) from c_495)
                  unfold cb_X6_step_134
                  have q_498 := i_rng (F 57)
                  refine WP.bind (cs_X6_act hfu r1 (F 57) F1 G1 hI1) ?_
                  rintro r499 F499 G499 ⟨hI499, hB499, hT499, hO499, hK499, hp499⟩
                  dsimp only
                  have q_500 := hI499.r 10 rfl
                  have e_501 : (F499 10).toInt = (F1 10).toInt := hO499
                  unfold cb_X6_step_140
                  refine WP.ret ?_
                  exact ⟨hI499, (KB.tr (KB.tr (KB.rf : KB F G F G) hB1) hB499), (KT.tr (KT.tr (rfl : KT F F) hT1) hT499), (KO.tr (KO.tr (rfl : KO F F) hO1) hO499), (KK.tr (KK.tr (rfl : KK F F) hK1) hK499), trivial⟩
                · skip
                  have l_502 : (84 : Int32).toInt = 84 := rfl
                  have e_503 := mt i_lt.mpr (show ¬ (r1 < (84 : Int32)) from c_495)
                  unfold cb_X6_step_116
                  refine WP.ite (fun c_504 => ?_) (fun c_504 => ?_)
                  · skip
                    have l_505 : (88 : Int32).toInt = 88 := rfl
                    have e_506 := i_lt.mp (show (88 : Int32) < r1 from c_504)
                    unfold cb_X6_step_134
                    have q_507 := i_rng (F 57)
                    refine WP.bind (cs_X6_act hfu r1 (F 57) F1 G1 hI1) ?_
                    rintro r508 F508 G508 ⟨hI508, hB508, hT508, hO508, hK508, hp508⟩
                    dsimp only
                    have q_509 := hI508.r 10 rfl
                    have e_510 : (F508 10).toInt = (F1 10).toInt := hO508
                    unfold cb_X6_step_140
                    refine WP.ret ?_
                    exact ⟨hI508, (KB.tr (KB.tr (KB.rf : KB F G F G) hB1) hB508), (KT.tr (KT.tr (rfl : KT F F) hT1) hT508), (KO.tr (KO.tr (rfl : KO F F) hO1) hO508), (KK.tr (KK.tr (rfl : KK F F) hK1) hK508), trivial⟩
                  · skip
                    have l_511 : (88 : Int32).toInt = 88 := rfl
                    have e_512 := mt i_lt.mpr (show ¬ ((88 : Int32) < r1) from c_504)
                    unfold cb_X6_step_122
                    refine WP.bind (cs_X6_next hfu F1 G1 hI1) ?_
                    rintro r513 F513 G513 ⟨hI513, hB513, hT513, hO513, hK513, hp513⟩
                    dsimp only
                    have q_514 := hI513.r 10 rfl
                    have e_515 : (F513 10).toInt = (F1 10).toInt := hO513
                    unfold cb_X6_step_128
                    have q_516 := i_rng r513
                    refine WP.bind (cs_X6_jump hfu r1 r513 F513 G513 hI513) ?_
                    rintro r517 F517 G517 ⟨hI517, hB517, hT517, hO517, hK517, hp517⟩
                    dsimp only
                    have q_518 := hI517.r 10 rfl
                    have e_519 : (F517 10).toInt = (F513 10).toInt := hO517
                    unfold cb_X6_step_131
                    unfold cb_X6_step_140
                    refine WP.ret ?_
                    exact ⟨hI517, (KB.tr (KB.tr (KB.tr (KB.rf : KB F G F G) hB1) hB513) hB517), (KT.tr (KT.tr (KT.tr (rfl : KT F F) hT1) hT513) hT517), (KO.tr (KO.tr (KO.tr (rfl : KO F F) hO1) hO513) hO517), (KK.tr (KK.tr (KK.tr (rfl : KK F F) hK1) hK513) hK517), trivial⟩
              · skip
                have l_520 : (83 : Int32).toInt = 83 := rfl
                have e_521 := mt i_lt.mpr (show ¬ ((83 : Int32) < r1) from c_492)
                unfold cb_X6_step_102
                refine WP.bind (cs_X6_reach hfu r1 F1 G1 hI1) ?_
                rintro r522 F522 G522 ⟨hI522, hB522, hT522, hO522, hK522, hp522⟩
                dsimp only
                have q_523 := hI522.r 10 rfl
                have e_524 : (F522 10).toInt = (F1 10).toInt := hO522
                unfold cb_X6_step_107
                unfold cb_X6_step_140
                refine WP.ret ?_
                exact ⟨hI522, (KB.tr (KB.tr (KB.rf : KB F G F G) hB1) hB522), (KT.tr (KT.tr (rfl : KT F F) hT1) hT522), (KO.tr (KO.tr (rfl : KO F F) hO1) hO522), (KK.tr (KK.tr (rfl : KK F F) hK1) hK522), trivial⟩
          · skip
            have l_525 : (66 : Int32).toInt = 66 := rfl
            have e_526 := mt i_lt.mpr (show ¬ (r1 < (66 : Int32)) from c_459)
            unfold cb_X6_step_76
            refine WP.ite (fun c_527 => ?_) (fun c_527 => ?_)
            · skip
              have l_528 : (73 : Int32).toInt = 73 := rfl
              have e_529 := i_lt.mp (show (73 : Int32) < r1 from c_527)
              unfold cb_X6_step_90
              refine WP.ite (fun c_530 => ?_) (fun c_530 => ?_)
              · skip
                have l_531 : (74 : Int32).toInt = 74 := rfl
                have e_532 := i_lt.mp (show r1 < (74 : Int32) from c_530)
                unfold cb_X6_step_110
                refine WP.ite (fun c_533 => ?_) (fun c_533 => ?_)
                · skip
                  have l_534 : (84 : Int32).toInt = 84 := rfl
                  have e_535 := i_lt.mp (show r1 < (84 : Int32) from c_533)
                  unfold cb_X6_step_134
                  have q_536 := i_rng (F 57)
                  refine WP.bind (cs_X6_act hfu r1 (F 57) F1 G1 hI1) ?_
                  rintro r537 F537 G537 ⟨hI537, hB537, hT537, hO537, hK537, hp537⟩
                  dsimp only
                  have q_538 := hI537.r 10 rfl
                  have e_539 : (F537 10).toInt = (F1 10).toInt := hO537
                  unfold cb_X6_step_140
                  refine WP.ret ?_
                  exact ⟨hI537, (KB.tr (KB.tr (KB.rf : KB F G F G) hB1) hB537), (KT.tr (KT.tr (rfl : KT F F) hT1) hT537), (KO.tr (KO.tr (rfl : KO F F) hO1) hO537), (KK.tr (KK.tr (rfl : KK F F) hK1) hK537), trivial⟩
                · skip
                  have l_540 : (84 : Int32).toInt = 84 := rfl
                  have e_541 := mt i_lt.mpr (show ¬ (r1 < (84 : Int32)) from c_533)
                  unfold cb_X6_step_116
                  refine WP.ite (fun c_542 => ?_) (fun c_542 => ?_)
                  · skip
                    have l_543 : (88 : Int32).toInt = 88 := rfl
                    have e_544 := i_lt.mp (show (88 : Int32) < r1 from c_542)
                    unfold cb_X6_step_134
                    have q_545 := i_rng (F 57)
                    refine WP.bind (cs_X6_act hfu r1 (F 57) F1 G1 hI1) ?_
                    rintro r546 F546 G546 ⟨hI546, hB546, hT546, hO546, hK546, hp546⟩
                    dsimp only
                    have q_547 := hI546.r 10 rfl
                    have e_548 : (F546 10).toInt = (F1 10).toInt := hO546
                    unfold cb_X6_step_140
                    refine WP.ret ?_
                    exact ⟨hI546, (KB.tr (KB.tr (KB.rf : KB F G F G) hB1) hB546), (KT.tr (KT.tr (rfl : KT F F) hT1) hT546), (KO.tr (KO.tr (rfl : KO F F) hO1) hO546), (KK.tr (KK.tr (rfl : KK F F) hK1) hK546), trivial⟩
                  · skip
                    have l_549 : (88 : Int32).toInt = 88 := rfl
                    have e_550 := mt i_lt.mpr (show ¬ ((88 : Int32) < r1) from c_542)
                    unfold cb_X6_step_122
                    refine WP.bind (cs_X6_next hfu F1 G1 hI1) ?_
                    rintro r551 F551 G551 ⟨hI551, hB551, hT551, hO551, hK551, hp551⟩
                    dsimp only
                    have q_552 := hI551.r 10 rfl
                    have e_553 : (F551 10).toInt = (F1 10).toInt := hO551
                    unfold cb_X6_step_128
                    have q_554 := i_rng r551
                    refine WP.bind (cs_X6_jump hfu r1 r551 F551 G551 hI551) ?_
                    rintro r555 F555 G555 ⟨hI555, hB555, hT555, hO555, hK555, hp555⟩
                    dsimp only
                    have q_556 := hI555.r 10 rfl
                    have e_557 : (F555 10).toInt = (F551 10).toInt := hO555
                    unfold cb_X6_step_131
                    unfold cb_X6_step_140
                    refine WP.ret ?_
                    exact ⟨hI555, (KB.tr (KB.tr (KB.tr (KB.rf : KB F G F G) hB1) hB551) hB555), (KT.tr (KT.tr (KT.tr (rfl : KT F F) hT1) hT551) hT555), (KO.tr (KO.tr (KO.tr (rfl : KO F F) hO1) hO551) hO555), (KK.tr (KK.tr (KK.tr (rfl : KK F F) hK1) hK551) hK555), trivial⟩
              · skip
                have l_558 : (74 : Int32).toInt = 74 := rfl
                have e_559 := mt i_lt.mpr (show ¬ (r1 < (74 : Int32)) from c_530)
                unfold cb_X6_step_96
                refine WP.ite (fun c_560 => ?_) (fun c_560 => ?_)
                · skip
                  have l_561 : (83 : Int32).toInt = 83 := rfl
                  have e_562 := i_lt.mp (show (83 : Int32) < r1 from c_560)
                  unfold cb_X6_step_110
                  refine WP.ite (fun c_563 => ?_) (fun c_563 => ?_)
                  · skip
                    have l_564 : (84 : Int32).toInt = 84 := rfl
                    have e_565 := i_lt.mp (show r1 < (84 : Int32) from c_563)
                    unfold cb_X6_step_134
                    have q_566 := i_rng (F 57)
                    refine WP.bind (cs_X6_act hfu r1 (F 57) F1 G1 hI1) ?_
                    rintro r567 F567 G567 ⟨hI567, hB567, hT567, hO567, hK567, hp567⟩
                    dsimp only
                    have q_568 := hI567.r 10 rfl
                    have e_569 : (F567 10).toInt = (F1 10).toInt := hO567
                    unfold cb_X6_step_140
                    refine WP.ret ?_
                    exact ⟨hI567, (KB.tr (KB.tr (KB.rf : KB F G F G) hB1) hB567), (KT.tr (KT.tr (rfl : KT F F) hT1) hT567), (KO.tr (KO.tr (rfl : KO F F) hO1) hO567), (KK.tr (KK.tr (rfl : KK F F) hK1) hK567), trivial⟩
                  · skip
                    have l_570 : (84 : Int32).toInt = 84 := rfl
                    have e_571 := mt i_lt.mpr (show ¬ (r1 < (84 : Int32)) from c_563)
                    unfold cb_X6_step_116
                    refine WP.ite (fun c_572 => ?_) (fun c_572 => ?_)
                    · skip
                      have l_573 : (88 : Int32).toInt = 88 := rfl
                      have e_574 := i_lt.mp (show (88 : Int32) < r1 from c_572)
                      unfold cb_X6_step_134
                      have q_575 := i_rng (F 57)
                      refine WP.bind (cs_X6_act hfu r1 (F 57) F1 G1 hI1) ?_
                      rintro r576 F576 G576 ⟨hI576, hB576, hT576, hO576, hK576, hp576⟩
                      dsimp only
                      have q_577 := hI576.r 10 rfl
                      have e_578 : (F576 10).toInt = (F1 10).toInt := hO576
                      unfold cb_X6_step_140
                      refine WP.ret ?_
                      exact ⟨hI576, (KB.tr (KB.tr (KB.rf : KB F G F G) hB1) hB576), (KT.tr (KT.tr (rfl : KT F F) hT1) hT576), (KO.tr (KO.tr (rfl : KO F F) hO1) hO576), (KK.tr (KK.tr (rfl : KK F F) hK1) hK576), trivial⟩
                    · skip
                      have l_579 : (88 : Int32).toInt = 88 := rfl
                      have e_580 := mt i_lt.mpr (show ¬ ((88 : Int32) < r1) from c_572)
                      unfold cb_X6_step_122
                      refine WP.bind (cs_X6_next hfu F1 G1 hI1) ?_
                      rintro r581 F581 G581 ⟨hI581, hB581, hT581, hO581, hK581, hp581⟩
                      dsimp only
                      have q_582 := hI581.r 10 rfl
                      have e_583 : (F581 10).toInt = (F1 10).toInt := hO581
                      unfold cb_X6_step_128
                      have q_584 := i_rng r581
                      refine WP.bind (cs_X6_jump hfu r1 r581 F581 G581 hI581) ?_
                      rintro r585 F585 G585 ⟨hI585, hB585, hT585, hO585, hK585, hp585⟩
                      dsimp only
                      have q_586 := hI585.r 10 rfl
                      have e_587 : (F585 10).toInt = (F581 10).toInt := hO585
                      unfold cb_X6_step_131
                      unfold cb_X6_step_140
                      refine WP.ret ?_
                      exact ⟨hI585, (KB.tr (KB.tr (KB.tr (KB.rf : KB F G F G) hB1) hB581) hB585), (KT.tr (KT.tr (KT.tr (rfl : KT F F) hT1) hT581) hT585), (KO.tr (KO.tr (KO.tr (rfl : KO F F) hO1) hO581) hO585), (KK.tr (KK.tr (KK.tr (rfl : KK F F) hK1) hK581) hK585), trivial⟩
                · skip
                  have l_588 : (83 : Int32).toInt = 83 := rfl
                  have e_589 := mt i_lt.mpr (show ¬ ((83 : Int32) < r1) from c_560)
                  unfold cb_X6_step_102
                  refine WP.bind (cs_X6_reach hfu r1 F1 G1 hI1) ?_
                  rintro r590 F590 G590 ⟨hI590, hB590, hT590, hO590, hK590, hp590⟩
                  dsimp only
                  have q_591 := hI590.r 10 rfl
                  have e_592 : (F590 10).toInt = (F1 10).toInt := hO590
                  unfold cb_X6_step_107
                  unfold cb_X6_step_140
                  refine WP.ret ?_
                  exact ⟨hI590, (KB.tr (KB.tr (KB.rf : KB F G F G) hB1) hB590), (KT.tr (KT.tr (rfl : KT F F) hT1) hT590), (KO.tr (KO.tr (rfl : KO F F) hO1) hO590), (KK.tr (KK.tr (rfl : KK F F) hK1) hK590), trivial⟩
            · skip
              have l_593 : (73 : Int32).toInt = 73 := rfl
              have e_594 := mt i_lt.mpr (show ¬ ((73 : Int32) < r1) from c_527)
              unfold cb_X6_step_82
              refine WP.bind (cs_X6_move hfu r1 F1 G1 hI1) ?_
              rintro r595 F595 G595 ⟨hI595, hB595, hT595, hO595, hK595, hp595⟩
              dsimp only
              have q_596 := hI595.r 10 rfl
              have e_597 : (F595 10).toInt = (F1 10).toInt := hO595
              unfold cb_X6_step_87
              unfold cb_X6_step_140
              refine WP.ret ?_
              exact ⟨hI595, (KB.tr (KB.tr (KB.rf : KB F G F G) hB1) hB595), (KT.tr (KT.tr (rfl : KT F F) hT1) hT595), (KO.tr (KO.tr (rfl : KO F F) hO1) hO595), (KK.tr (KK.tr (rfl : KK F F) hK1) hK595), trivial⟩
        · skip
          have l_598 : (65 : Int32).toInt = 65 := rfl
          have e_599 := mt i_lt.mpr (show ¬ ((65 : Int32) < r1) from c_456)
          unfold cb_X6_step_55
          refine WP.bind (cs_X6_pop hfu F1 G1 hI1) ?_
          rintro r600 F600 G600 ⟨hI600, hB600, hT600, hO600, hK600, hp600⟩
          dsimp only
          have q_601 := hI600.r 10 rfl
          have e_602 : (F600 10).toInt = (F1 10).toInt := hO600
          unfold cb_X6_step_61
          have q_603 := i_rng r600
          refine WP.bind (cs_X6_changed hfu r1 r600 F600 G600 hI600) ?_
          rintro r604 _ _ ⟨rfl, rfl, hp604⟩
          dsimp only
          unfold cb_X6_step_64
          have q_605 := i_rng r604
          refine WP.bind (cs_X6_push hfu r604 F600 G600 hI600) ?_
          rintro r606 F606 G606 ⟨hI606, hB606, hT606, hO606, hK606, hp606⟩
          dsimp only
          have q_607 := hI606.r 10 rfl
          have e_608 : (F606 10).toInt = (F600 10).toInt := hO606
          unfold cb_X6_step_67
          unfold cb_X6_step_140
          refine WP.ret ?_
          exact ⟨hI606, (KB.tr (KB.tr (KB.tr (KB.rf : KB F G F G) hB1) hB600) hB606), (KT.tr (KT.tr (KT.tr (rfl : KT F F) hT1) hT600) hT606), (KO.tr (KO.tr (KO.tr (rfl : KO F F) hO1) hO600) hO606), (KK.tr (KK.tr (KK.tr (rfl : KK F F) hK1) hK600) hK606), trivial⟩
    · skip
      have l_609 : (61 : Int32).toInt = 61 := rfl
      have e_610 := mt i_lt.mpr (show ¬ ((61 : Int32) < r1) from c_309)
      unfold cb_X6_step_22
      refine WP.bind (cs_X6_pop hfu F1 G1 hI1) ?_
      rintro r611 F611 G611 ⟨hI611, hB611, hT611, hO611, hK611, hp611⟩
      dsimp only
      have q_612 := hI611.r 10 rfl
      have e_613 : (F611 10).toInt = (F1 10).toInt := hO611
      unfold cb_X6_step_26
      refine WP.bind (cs_X6_pop hfu F611 G611 hI611) ?_
      rintro r614 F614 G614 ⟨hI614, hB614, hT614, hO614, hK614, hp614⟩
      dsimp only
      have q_615 := hI614.r 10 rfl
      have e_616 : (F614 10).toInt = (F611 10).toInt := hO614
      unfold cb_X6_step_33
      have q_617 := i_rng r614
      have q_618 := i_rng r611
      refine WP.bind (cs_X11_joined hfu r1 r614 r611 F614 G614 hI614) ?_
      rintro r619 _ _ ⟨rfl, rfl, hp619⟩
      dsimp only
      unfold cb_X6_step_37
      have q_620 := i_rng r619
      refine WP.bind (cs_X6_push hfu r619 F614 G614 hI614) ?_
      rintro r621 F621 G621 ⟨hI621, hB621, hT621, hO621, hK621, hp621⟩
      dsimp only
      have q_622 := hI621.r 10 rfl
      have e_623 : (F621 10).toInt = (F614 10).toInt := hO621
      unfold cb_X6_step_40
      unfold cb_X6_step_140
      refine WP.ret ?_
      exact ⟨hI621, (KB.tr (KB.tr (KB.tr (KB.tr (KB.rf : KB F G F G) hB1) hB611) hB614) hB621), (KT.tr (KT.tr (KT.tr (KT.tr (rfl : KT F F) hT1) hT611) hT614) hT621), (KO.tr (KO.tr (KO.tr (KO.tr (rfl : KO F F) hO1) hO611) hO614) hO621), (KK.tr (KK.tr (KK.tr (KK.tr (rfl : KK F F) hK1) hK611) hK614) hK621), trivial⟩
