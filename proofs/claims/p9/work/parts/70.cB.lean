theorem ct_X4_loopBody {fu d : Nat} (hfu : 8589934592 ≤ fu) (rc : RC) (ih : cIH2 rc d) (F : PF) (G : PG) (hI : CI F G) (h10 : 0 ≤ (F 10).toInt) (hd : (4 * (40 - (F 10).toInt) + 6 ≤ (d + 1 : Int) ∨ ((F 11).toInt = -2 ∧ 3 ≤ (d + 1 : Int)))) : WP (ch_X4_loopBody fu rc F G) (fun r' F' G' => CI F' G' ∧ KB F G F' G' ∧ KT F F' ∧ KS F F' ∧ (((F' 10).toInt = (F 10).toInt ∨ ((F' 10).toInt = (F 10).toInt - 1 ∧ (F' 11).toInt = -2 ∧ (F 11).toInt ≠ -2)))) := by
  unfold ch_X4_loopBody
  have q_10 := hI.r 10 rfl
  unfold cb_X4_loopBody_0
  have l_1 : (-1 : Int32).toInt = -1 := rfl
  have j_2 : CI (fup F 30 (-1 : Int32)) G := CI.fr rfl hI
  unfold cb_X4_loopBody_5
  have j_3 : CI (fup (fup F 30 (-1 : Int32)) 31 (-1 : Int32)) G := CI.fr rfl j_2
  unfold cb_X4_loopBody_10
  have q_4 := i_rng (F 29)
  first | have e_5 : ((F 29) + (1 : Int32)).toInt = (F 29).toInt + (1) := i_addn (F 29) rfl (by omega) (by omega) | have e_6 := i_rng ((F 29) + (1 : Int32))
  have j_7 : CI (fup (fup (fup F 30 (-1 : Int32)) 31 (-1 : Int32)) 29 ((F 29) + (1 : Int32))) G := CI.fr rfl j_3
  unfold cb_X4_loopBody_20
  have l_8 : (89 : Int32).toInt = 89 := rfl
  refine WP.bind (cs_X1_add hfu (89 : Int32) (fup (fup (fup F 30 (-1 : Int32)) 31 (-1 : Int32)) 29 ((F 29) + (1 : Int32))) G j_7) ?_
  rintro r9 F9 G9 ⟨hI9, hB9, hT9, hO9, hK9, hp9⟩
  dsimp only
  have q_10 := i_rng (F 11)
  have q_11 := i_rng (F9 11)
  have e_12 : (F9 11).toInt = (F 11).toInt := congrArg Int32.toInt hK9
  have q_13 := hI.r 10 rfl
  have q_14 := hI9.r 10 rfl
  have e_15 : (F9 10).toInt = (F 10).toInt := hO9
  have q_16 := hI.r 21 rfl
  have q_17 := hI9.r 21 rfl
  have e_18 : (F9 21).toInt = (F 21).toInt := congrArg Int32.toInt hp9
  unfold cb_X4_loopBody_29
  refine WP.bind (ih.2.2.2.2.1 F9 G9 hI9 (show 0 ≤ (F9 10).toInt by omega) (by omega)) ?_
  rintro r19 F19 G19 ⟨hI19, hB19, hT19, hS19, hp19⟩
  dsimp only
  have q_20 := i_rng (F19 11)
  have e_21 : (F9 11).toInt = -2 → (F19 11).toInt = -2 := hS19
  have q_22 := hI19.r 10 rfl
  have e_23 : (F19 10).toInt = (F9 10).toInt ∨ ((F19 10).toInt = (F9 10).toInt - 1 ∧ (F19 11).toInt = -2 ∧ (F9 11).toInt ≠ -2) := hp19
  unfold cb_X4_loopBody_33
  have q_24 := i_rng (F19 29)
  first | have e_25 : ((F19 29) - (1 : Int32)).toInt = (F19 29).toInt - (1) := i_subn (F19 29) rfl (by omega) (by omega) | have e_26 := i_rng ((F19 29) - (1 : Int32))
  have j_27 : CI (fup F19 29 ((F19 29) - (1 : Int32))) G19 := CI.fr rfl hI19
  unfold cb_X4_loopBody_43
  refine WP.ret ?_
  exact ⟨j_27, (KB.f (by decide) (KB.tr (KB.tr (KB.f (by decide) (KB.f (by decide) (KB.f (by decide) (KB.rf : KB F G F G)))) hB9) hB19)), (KT.f (by decide) (KT.tr (KT.tr (KT.f (by decide) (KT.f (by decide) (KT.f (by decide) (rfl : KT F F)))) hT9) hT19)), (show (F 11).toInt = -2 → (F19 11).toInt = -2 by omega), (show (F19 10).toInt = (F 10).toInt ∨ ((F19 10).toInt = (F 10).toInt - 1 ∧ (F19 11).toInt = -2 ∧ (F 11).toInt ≠ -2) by omega)⟩
theorem ct_X4_statement {fu d : Nat} (hfu : 8589934592 ≤ fu) (rc : RC) (ih : cIH2 rc d) (F : PF) (G : PG) (hI : CI F G) (h10 : 0 ≤ (F 10).toInt) (hd : (4 * (40 - (F 10).toInt) + 4 ≤ (d + 1 : Int) ∨ ((F 11).toInt = -2 ∧ 1 ≤ (d + 1 : Int)))) : WP (ch_X4_statement fu rc F G) (fun r' F' G' => CI F' G' ∧ KB F G F' G' ∧ KT F F' ∧ KS F F' ∧ (((F' 10).toInt = (F 10).toInt ∨ ((F' 10).toInt = (F 10).toInt - 1 ∧ (F' 11).toInt = -2 ∧ (F 11).toInt ≠ -2)))) := by
  unfold ch_X4_statement
  have q_10 := hI.r 10 rfl
  unfold cb_X4_statement_0
  have q_1 := i_rng (F 11)
  refine WP.ite (fun c_2 => ?_) (fun c_2 => ?_)
  · have e_3 : (F 11).toInt < 4 ∨ 26 < (F 11).toInt := c_2
    unfold cb_X4_statement_209
    refine WP.bind (cs_X4_simple hfu F G hI) ?_
    rintro r4 F4 G4 ⟨hI4, hB4, hT4, hO4, hS4, hp4⟩
    dsimp only
    have q_5 := i_rng (F4 11)
    have e_6 : (F 11).toInt = -2 → (F4 11).toInt = -2 := hS4
    have q_7 := hI.r 10 rfl
    have q_8 := hI4.r 10 rfl
    have e_9 : (F4 10).toInt = (F 10).toInt := hO4
    unfold cb_X4_statement_213
    have l_10 : (26 : Int32).toInt = 26 := rfl
    refine WP.bind (cs_X2_expect hfu (26 : Int32) F4 G4 hI4 (show (26 : Int32).toInt ≠ -2 by omega)) ?_
    rintro r11 F11 G11 ⟨hI11, hB11, hT11, hO11, hS11, hp11⟩
    dsimp only
    have q_12 := i_rng (F11 11)
    have e_13 : (F4 11).toInt = -2 → (F11 11).toInt = -2 := hS11
    have q_14 := hI11.r 10 rfl
    have e_15 : (F11 10).toInt = (F4 10).toInt := hO11
    unfold cb_X4_statement_222
    refine WP.ret ?_
    exact ⟨hI11, (KB.tr (KB.tr (KB.rf : KB F G F G) hB4) hB11), (KT.tr (KT.tr (rfl : KT F F) hT4) hT11), (show (F 11).toInt = -2 → (F11 11).toInt = -2 by omega), (show (F11 10).toInt = (F 10).toInt ∨ ((F11 10).toInt = (F 10).toInt - 1 ∧ (F11 11).toInt = -2 ∧ (F 11).toInt ≠ -2) by omega)⟩
  have e_16 : ¬ ((F 11).toInt < 4 ∨ 26 < (F 11).toInt) := c_2
  refine WP.ite (fun c_17 => ?_) (fun c_17 => ?_)
  · skip
    have l_18 : (4 : Int32).toInt = 4 := rfl
    have e_19 := i_eq.mp (show (F 11) = (4 : Int32) from c_17)
    unfold cb_X4_statement_143
    have l_20 : (0 : Int32).toInt = 0 := rfl
    refine WP.bind (cs_X4_localTold hfu (0 : Int32) F G hI (by decide)) ?_
    rintro r21 F21 G21 ⟨hI21, hB21, hT21, hO21, hp21⟩
    dsimp only
    have q_22 := hI.r 10 rfl
    have q_23 := hI21.r 10 rfl
    have e_24 : (F21 10).toInt = (F 10).toInt := hO21
    unfold cb_X4_statement_148
    have l_25 : (26 : Int32).toInt = 26 := rfl
    refine WP.bind (cs_X2_expect hfu (26 : Int32) F21 G21 hI21 (show (26 : Int32).toInt ≠ -2 by omega)) ?_
    rintro r26 F26 G26 ⟨hI26, hB26, hT26, hO26, hS26, hp26⟩
    dsimp only
    have q_27 := i_rng (F21 11)
    have q_28 := i_rng (F26 11)
    have e_29 : (F21 11).toInt = -2 → (F26 11).toInt = -2 := hS26
    have q_30 := hI26.r 10 rfl
    have e_31 : (F26 10).toInt = (F21 10).toInt := hO26
    unfold cb_X4_statement_157
    unfold cb_X4_statement_222
    refine WP.ret ?_
    exact ⟨hI26, (KB.tr (KB.tr (KB.rf : KB F G F G) hB21) hB26), (KT.tr (KT.tr (rfl : KT F F) hT21) hT26), (show (F 11).toInt = -2 → (F26 11).toInt = -2 by omega), (show (F26 10).toInt = (F 10).toInt ∨ ((F26 10).toInt = (F 10).toInt - 1 ∧ (F26 11).toInt = -2 ∧ (F 11).toInt ≠ -2) by omega)⟩
  have l_32 : (4 : Int32).toInt = 4 := rfl
  have e_33 := mt i_eq.mpr (show ¬ ((F 11) = (4 : Int32)) from c_17)
  refine WP.ite (fun c_34 => ?_) (fun c_34 => ?_)
  · skip
    have l_35 : (5 : Int32).toInt = 5 := rfl
    have e_36 := i_eq.mp (show (F 11) = (5 : Int32) from c_34)
    unfold cb_X4_statement_143
    have l_37 : (0 : Int32).toInt = 0 := rfl
    refine WP.bind (cs_X4_localTold hfu (0 : Int32) F G hI (by decide)) ?_
    rintro r38 F38 G38 ⟨hI38, hB38, hT38, hO38, hp38⟩
    dsimp only
    have q_39 := hI.r 10 rfl
    have q_40 := hI38.r 10 rfl
    have e_41 : (F38 10).toInt = (F 10).toInt := hO38
    unfold cb_X4_statement_148
    have l_42 : (26 : Int32).toInt = 26 := rfl
    refine WP.bind (cs_X2_expect hfu (26 : Int32) F38 G38 hI38 (show (26 : Int32).toInt ≠ -2 by omega)) ?_
    rintro r43 F43 G43 ⟨hI43, hB43, hT43, hO43, hS43, hp43⟩
    dsimp only
    have q_44 := i_rng (F38 11)
    have q_45 := i_rng (F43 11)
    have e_46 : (F38 11).toInt = -2 → (F43 11).toInt = -2 := hS43
    have q_47 := hI43.r 10 rfl
    have e_48 : (F43 10).toInt = (F38 10).toInt := hO43
    unfold cb_X4_statement_157
    unfold cb_X4_statement_222
    refine WP.ret ?_
    exact ⟨hI43, (KB.tr (KB.tr (KB.rf : KB F G F G) hB38) hB43), (KT.tr (KT.tr (rfl : KT F F) hT38) hT43), (show (F 11).toInt = -2 → (F43 11).toInt = -2 by omega), (show (F43 10).toInt = (F 10).toInt ∨ ((F43 10).toInt = (F 10).toInt - 1 ∧ (F43 11).toInt = -2 ∧ (F 11).toInt ≠ -2) by omega)⟩
  have l_49 : (5 : Int32).toInt = 5 := rfl
  have e_50 := mt i_eq.mpr (show ¬ ((F 11) = (5 : Int32)) from c_34)
  refine WP.ite (fun c_51 => ?_) (fun c_51 => ?_)
  · skip
    have l_52 : (6 : Int32).toInt = 6 := rfl
    have e_53 := i_eq.mp (show (F 11) = (6 : Int32) from c_51)
    unfold cb_X4_statement_209
    refine WP.bind (cs_X4_simple hfu F G hI) ?_
    rintro r54 F54 G54 ⟨hI54, hB54, hT54, hO54, hS54, hp54⟩
    dsimp only
    have q_55 := i_rng (F54 11)
    have e_56 : (F 11).toInt = -2 → (F54 11).toInt = -2 := hS54
    have q_57 := hI.r 10 rfl
    have q_58 := hI54.r 10 rfl
    have e_59 : (F54 10).toInt = (F 10).toInt := hO54
    unfold cb_X4_statement_213
    have l_60 : (26 : Int32).toInt = 26 := rfl
    refine WP.bind (cs_X2_expect hfu (26 : Int32) F54 G54 hI54 (show (26 : Int32).toInt ≠ -2 by omega)) ?_
    rintro r61 F61 G61 ⟨hI61, hB61, hT61, hO61, hS61, hp61⟩
    dsimp only
    have q_62 := i_rng (F61 11)
    have e_63 : (F54 11).toInt = -2 → (F61 11).toInt = -2 := hS61
    have q_64 := hI61.r 10 rfl
    have e_65 : (F61 10).toInt = (F54 10).toInt := hO61
    unfold cb_X4_statement_222
    refine WP.ret ?_
    exact ⟨hI61, (KB.tr (KB.tr (KB.rf : KB F G F G) hB54) hB61), (KT.tr (KT.tr (rfl : KT F F) hT54) hT61), (show (F 11).toInt = -2 → (F61 11).toInt = -2 by omega), (show (F61 10).toInt = (F 10).toInt ∨ ((F61 10).toInt = (F 10).toInt - 1 ∧ (F61 11).toInt = -2 ∧ (F 11).toInt ≠ -2) by omega)⟩
  have l_66 : (6 : Int32).toInt = 6 := rfl
  have e_67 := mt i_eq.mpr (show ¬ ((F 11) = (6 : Int32)) from c_51)
  refine WP.ite (fun c_68 => ?_) (fun c_68 => ?_)
  · skip
    have l_69 : (7 : Int32).toInt = 7 := rfl
    have e_70 := i_eq.mp (show (F 11) = (7 : Int32) from c_68)
    unfold cb_X4_statement_209
    refine WP.bind (cs_X4_simple hfu F G hI) ?_
    rintro r71 F71 G71 ⟨hI71, hB71, hT71, hO71, hS71, hp71⟩
    dsimp only
    have q_72 := i_rng (F71 11)
    have e_73 : (F 11).toInt = -2 → (F71 11).toInt = -2 := hS71
    have q_74 := hI.r 10 rfl
    have q_75 := hI71.r 10 rfl
    have e_76 : (F71 10).toInt = (F 10).toInt := hO71
    unfold cb_X4_statement_213
    have l_77 : (26 : Int32).toInt = 26 := rfl
    refine WP.bind (cs_X2_expect hfu (26 : Int32) F71 G71 hI71 (show (26 : Int32).toInt ≠ -2 by omega)) ?_
    rintro r78 F78 G78 ⟨hI78, hB78, hT78, hO78, hS78, hp78⟩
    dsimp only
    have q_79 := i_rng (F78 11)
    have e_80 : (F71 11).toInt = -2 → (F78 11).toInt = -2 := hS78
    have q_81 := hI78.r 10 rfl
    have e_82 : (F78 10).toInt = (F71 10).toInt := hO78
    unfold cb_X4_statement_222
    refine WP.ret ?_
    exact ⟨hI78, (KB.tr (KB.tr (KB.rf : KB F G F G) hB71) hB78), (KT.tr (KT.tr (rfl : KT F F) hT71) hT78), (show (F 11).toInt = -2 → (F78 11).toInt = -2 by omega), (show (F78 10).toInt = (F 10).toInt ∨ ((F78 10).toInt = (F 10).toInt - 1 ∧ (F78 11).toInt = -2 ∧ (F 11).toInt ≠ -2) by omega)⟩
  have l_83 : (7 : Int32).toInt = 7 := rfl
  have e_84 := mt i_eq.mpr (show ¬ ((F 11) = (7 : Int32)) from c_68)
  refine WP.ite (fun c_85 => ?_) (fun c_85 => ?_)
  · skip
    have l_86 : (8 : Int32).toInt = 8 := rfl
    have e_87 := i_eq.mp (show (F 11) = (8 : Int32) from c_85)
    unfold cb_X4_statement_160
    have q_88 := hI.r 10 rfl
    refine WP.bind (ih.2.2.2.1 F G hI (show 0 ≤ (F 10).toInt by omega) (by omega)) ?_
    rintro r89 F89 G89 ⟨hI89, hB89, hT89, hS89, hp89⟩
    dsimp only
    have q_90 := i_rng (F89 11)
    have e_91 : (F 11).toInt = -2 → (F89 11).toInt = -2 := hS89
    have q_92 := hI89.r 10 rfl
    have e_93 : (F89 10).toInt = (F 10).toInt ∨ ((F89 10).toInt = (F 10).toInt - 1 ∧ (F89 11).toInt = -2 ∧ (F 11).toInt ≠ -2) := hp89
    unfold cb_X4_statement_164
    unfold cb_X4_statement_222
    refine WP.ret ?_
    exact ⟨hI89, (KB.tr (KB.rf : KB F G F G) hB89), (KT.tr (rfl : KT F F) hT89), (show (F 11).toInt = -2 → (F89 11).toInt = -2 by omega), (show (F89 10).toInt = (F 10).toInt ∨ ((F89 10).toInt = (F 10).toInt - 1 ∧ (F89 11).toInt = -2 ∧ (F 11).toInt ≠ -2) by omega)⟩
  have l_94 : (8 : Int32).toInt = 8 := rfl
  have e_95 := mt i_eq.mpr (show ¬ ((F 11) = (8 : Int32)) from c_85)
  refine WP.ite (fun c_96 => ?_) (fun c_96 => ?_)
  · skip
    have l_97 : (9 : Int32).toInt = 9 := rfl
    have e_98 := i_eq.mp (show (F 11) = (9 : Int32) from c_96)
    unfold cb_X4_statement_209
    refine WP.bind (cs_X4_simple hfu F G hI) ?_
    rintro r99 F99 G99 ⟨hI99, hB99, hT99, hO99, hS99, hp99⟩
    dsimp only
    have q_100 := i_rng (F99 11)
    have e_101 : (F 11).toInt = -2 → (F99 11).toInt = -2 := hS99
    have q_102 := hI.r 10 rfl
    have q_103 := hI99.r 10 rfl
    have e_104 : (F99 10).toInt = (F 10).toInt := hO99
    unfold cb_X4_statement_213
    have l_105 : (26 : Int32).toInt = 26 := rfl
    refine WP.bind (cs_X2_expect hfu (26 : Int32) F99 G99 hI99 (show (26 : Int32).toInt ≠ -2 by omega)) ?_
    rintro r106 F106 G106 ⟨hI106, hB106, hT106, hO106, hS106, hp106⟩
    dsimp only
    have q_107 := i_rng (F106 11)
    have e_108 : (F99 11).toInt = -2 → (F106 11).toInt = -2 := hS106
    have q_109 := hI106.r 10 rfl
    have e_110 : (F106 10).toInt = (F99 10).toInt := hO106
    unfold cb_X4_statement_222
    refine WP.ret ?_
    exact ⟨hI106, (KB.tr (KB.tr (KB.rf : KB F G F G) hB99) hB106), (KT.tr (KT.tr (rfl : KT F F) hT99) hT106), (show (F 11).toInt = -2 → (F106 11).toInt = -2 by omega), (show (F106 10).toInt = (F 10).toInt ∨ ((F106 10).toInt = (F 10).toInt - 1 ∧ (F106 11).toInt = -2 ∧ (F 11).toInt ≠ -2) by omega)⟩
  have l_111 : (9 : Int32).toInt = 9 := rfl
  have e_112 := mt i_eq.mpr (show ¬ ((F 11) = (9 : Int32)) from c_96)
  refine WP.ite (fun c_113 => ?_) (fun c_113 => ?_)
  · skip
    have l_114 : (10 : Int32).toInt = 10 := rfl
    have e_115 := i_eq.mp (show (F 11) = (10 : Int32) from c_113)
    unfold cb_X4_statement_167
    have q_116 := hI.r 10 rfl
    refine WP.bind (ih.2.2.2.2.2.2.2 F G hI (show 0 ≤ (F 10).toInt by omega) (by omega)) ?_
    rintro r117 F117 G117 ⟨hI117, hB117, hT117, hS117, hp117⟩
    dsimp only
    have q_118 := i_rng (F117 11)
    have e_119 : (F 11).toInt = -2 → (F117 11).toInt = -2 := hS117
    have q_120 := hI117.r 10 rfl
    have e_121 : (F117 10).toInt = (F 10).toInt ∨ ((F117 10).toInt = (F 10).toInt - 1 ∧ (F117 11).toInt = -2 ∧ (F 11).toInt ≠ -2) := hp117
    unfold cb_X4_statement_171
    unfold cb_X4_statement_222
    refine WP.ret ?_
    exact ⟨hI117, (KB.tr (KB.rf : KB F G F G) hB117), (KT.tr (rfl : KT F F) hT117), (show (F 11).toInt = -2 → (F117 11).toInt = -2 by omega), (show (F117 10).toInt = (F 10).toInt ∨ ((F117 10).toInt = (F 10).toInt - 1 ∧ (F117 11).toInt = -2 ∧ (F 11).toInt ≠ -2) by omega)⟩
  have l_122 : (10 : Int32).toInt = 10 := rfl
  have e_123 := mt i_eq.mpr (show ¬ ((F 11) = (10 : Int32)) from c_113)
  refine WP.ite (fun c_124 => ?_) (fun c_124 => ?_)
  · skip
    have l_125 : (11 : Int32).toInt = 11 := rfl
    have e_126 := i_eq.mp (show (F 11) = (11 : Int32) from c_124)
    unfold cb_X4_statement_174
    have q_127 := hI.r 10 rfl
    refine WP.bind (ih.2.1 F G hI (show 0 ≤ (F 10).toInt by omega) (by omega)) ?_
    rintro r128 F128 G128 ⟨hI128, hB128, hT128, hS128, hp128⟩
    dsimp only
    have q_129 := i_rng (F128 11)
    have e_130 : (F 11).toInt = -2 → (F128 11).toInt = -2 := hS128
    have q_131 := hI128.r 10 rfl
    have e_132 : (F128 10).toInt = (F 10).toInt ∨ ((F128 10).toInt = (F 10).toInt - 1 ∧ (F128 11).toInt = -2 ∧ (F 11).toInt ≠ -2) := hp128
    unfold cb_X4_statement_178
    unfold cb_X4_statement_222
    refine WP.ret ?_
    exact ⟨hI128, (KB.tr (KB.rf : KB F G F G) hB128), (KT.tr (rfl : KT F F) hT128), (show (F 11).toInt = -2 → (F128 11).toInt = -2 by omega), (show (F128 10).toInt = (F 10).toInt ∨ ((F128 10).toInt = (F 10).toInt - 1 ∧ (F128 11).toInt = -2 ∧ (F 11).toInt ≠ -2) by omega)⟩
  have l_133 : (11 : Int32).toInt = 11 := rfl
  have e_134 := mt i_eq.mpr (show ¬ ((F 11) = (11 : Int32)) from c_124)
  refine WP.ite (fun c_135 => ?_) (fun c_135 => ?_)
  · skip
    have l_136 : (12 : Int32).toInt = 12 := rfl
    have e_137 := i_eq.mp (show (F 11) = (12 : Int32) from c_135)
    unfold cb_X4_statement_181
    have q_138 := hI.r 10 rfl
    refine WP.bind (ih.2.2.1 F G hI (show 0 ≤ (F 10).toInt by omega) (by omega)) ?_
    rintro r139 F139 G139 ⟨hI139, hB139, hT139, hS139, hp139⟩
    dsimp only
    have q_140 := i_rng (F139 11)
    have e_141 : (F 11).toInt = -2 → (F139 11).toInt = -2 := hS139
    have q_142 := hI139.r 10 rfl
    have e_143 : (F139 10).toInt = (F 10).toInt ∨ ((F139 10).toInt = (F 10).toInt - 1 ∧ (F139 11).toInt = -2 ∧ (F 11).toInt ≠ -2) := hp139
    unfold cb_X4_statement_185
    unfold cb_X4_statement_222
    refine WP.ret ?_
    exact ⟨hI139, (KB.tr (KB.rf : KB F G F G) hB139), (KT.tr (rfl : KT F F) hT139), (show (F 11).toInt = -2 → (F139 11).toInt = -2 by omega), (show (F139 10).toInt = (F 10).toInt ∨ ((F139 10).toInt = (F 10).toInt - 1 ∧ (F139 11).toInt = -2 ∧ (F 11).toInt ≠ -2) by omega)⟩
  have l_144 : (12 : Int32).toInt = 12 := rfl
  have e_145 := mt i_eq.mpr (show ¬ ((F 11) = (12 : Int32)) from c_135)
  refine WP.ite (fun c_146 => ?_) (fun c_146 => ?_)
  · skip
    have l_147 : (13 : Int32).toInt = 13 := rfl
    have e_148 := i_eq.mp (show (F 11) = (13 : Int32) from c_146)
    unfold cb_X4_statement_188
    refine WP.bind (cs_X4_leap hfu F G hI) ?_
    rintro r149 F149 G149 ⟨hI149, hB149, hT149, hO149, hp149⟩
    dsimp only
    have q_150 := hI.r 10 rfl
    have q_151 := hI149.r 10 rfl
    have e_152 : (F149 10).toInt = (F 10).toInt := hO149
    unfold cb_X4_statement_192
    unfold cb_X4_statement_222
    refine WP.ret ?_
    have q_153 := i_rng (F149 11)
    exact ⟨hI149, (KB.tr (KB.rf : KB F G F G) hB149), (KT.tr (rfl : KT F F) hT149), (show (F 11).toInt = -2 → (F149 11).toInt = -2 by omega), (show (F149 10).toInt = (F 10).toInt ∨ ((F149 10).toInt = (F 10).toInt - 1 ∧ (F149 11).toInt = -2 ∧ (F 11).toInt ≠ -2) by omega)⟩
  have l_154 : (13 : Int32).toInt = 13 := rfl
  have e_155 := mt i_eq.mpr (show ¬ ((F 11) = (13 : Int32)) from c_146)
  refine WP.ite (fun c_156 => ?_) (fun c_156 => ?_)
  · skip
    have l_157 : (14 : Int32).toInt = 14 := rfl
    have e_158 := i_eq.mp (show (F 11) = (14 : Int32) from c_156)
    unfold cb_X4_statement_188
    refine WP.bind (cs_X4_leap hfu F G hI) ?_
    rintro r159 F159 G159 ⟨hI159, hB159, hT159, hO159, hp159⟩
    dsimp only
    have q_160 := hI.r 10 rfl
    have q_161 := hI159.r 10 rfl
    have e_162 : (F159 10).toInt = (F 10).toInt := hO159
    unfold cb_X4_statement_192
    unfold cb_X4_statement_222
    refine WP.ret ?_
    have q_163 := i_rng (F159 11)
    exact ⟨hI159, (KB.tr (KB.rf : KB F G F G) hB159), (KT.tr (rfl : KT F F) hT159), (show (F 11).toInt = -2 → (F159 11).toInt = -2 by omega), (show (F159 10).toInt = (F 10).toInt ∨ ((F159 10).toInt = (F 10).toInt - 1 ∧ (F159 11).toInt = -2 ∧ (F 11).toInt ≠ -2) by omega)⟩
  have l_164 : (14 : Int32).toInt = 14 := rfl
  have e_165 := mt i_eq.mpr (show ¬ ((F 11) = (14 : Int32)) from c_156)
  refine WP.ite (fun c_166 => ?_) (fun c_166 => ?_)
  · skip
    have l_167 : (15 : Int32).toInt = 15 := rfl
    have e_168 := i_eq.mp (show (F 11) = (15 : Int32) from c_166)
    unfold cb_X4_statement_195
    refine WP.bind (cs_X4_returnStatement hfu F G hI) ?_
    rintro r169 F169 G169 ⟨hI169, hB169, hT169, hO169, hp169⟩
    dsimp only
    have q_170 := hI.r 10 rfl
    have q_171 := hI169.r 10 rfl
    have e_172 : (F169 10).toInt = (F 10).toInt := hO169
    unfold cb_X4_statement_199
    unfold cb_X4_statement_222
    refine WP.ret ?_
    have q_173 := i_rng (F169 11)
    exact ⟨hI169, (KB.tr (KB.rf : KB F G F G) hB169), (KT.tr (rfl : KT F F) hT169), (show (F 11).toInt = -2 → (F169 11).toInt = -2 by omega), (show (F169 10).toInt = (F 10).toInt ∨ ((F169 10).toInt = (F 10).toInt - 1 ∧ (F169 11).toInt = -2 ∧ (F 11).toInt ≠ -2) by omega)⟩
  have l_174 : (15 : Int32).toInt = 15 := rfl
  have e_175 := mt i_eq.mpr (show ¬ ((F 11) = (15 : Int32)) from c_166)
  refine WP.ite (fun c_176 => ?_) (fun c_176 => ?_)
  · skip
    have l_177 : (16 : Int32).toInt = 16 := rfl
    have e_178 := i_eq.mp (show (F 11) = (16 : Int32) from c_176)
    unfold cb_X4_statement_202
    refine WP.bind (cs_X4_handOut hfu F G hI) ?_
    rintro r179 F179 G179 ⟨hI179, hB179, hT179, hO179, hp179⟩
    dsimp only
    have q_180 := hI.r 10 rfl
    have q_181 := hI179.r 10 rfl
    have e_182 : (F179 10).toInt = (F 10).toInt := hO179
    unfold cb_X4_statement_206
    unfold cb_X4_statement_222
    refine WP.ret ?_
    have q_183 := i_rng (F179 11)
    exact ⟨hI179, (KB.tr (KB.rf : KB F G F G) hB179), (KT.tr (rfl : KT F F) hT179), (show (F 11).toInt = -2 → (F179 11).toInt = -2 by omega), (show (F179 10).toInt = (F 10).toInt ∨ ((F179 10).toInt = (F 10).toInt - 1 ∧ (F179 11).toInt = -2 ∧ (F 11).toInt ≠ -2) by omega)⟩
  have l_184 : (16 : Int32).toInt = 16 := rfl
  have e_185 := mt i_eq.mpr (show ¬ ((F 11) = (16 : Int32)) from c_176)
  refine WP.ite (fun c_186 => ?_) (fun c_186 => ?_)
  · skip
    have l_187 : (17 : Int32).toInt = 17 := rfl
    have e_188 := i_eq.mp (show (F 11) = (17 : Int32) from c_186)
    unfold cb_X4_statement_209
    refine WP.bind (cs_X4_simple hfu F G hI) ?_
    rintro r189 F189 G189 ⟨hI189, hB189, hT189, hO189, hS189, hp189⟩
    dsimp only
    have q_190 := i_rng (F189 11)
    have e_191 : (F 11).toInt = -2 → (F189 11).toInt = -2 := hS189
    have q_192 := hI.r 10 rfl
    have q_193 := hI189.r 10 rfl
    have e_194 : (F189 10).toInt = (F 10).toInt := hO189
    unfold cb_X4_statement_213
    have l_195 : (26 : Int32).toInt = 26 := rfl
    refine WP.bind (cs_X2_expect hfu (26 : Int32) F189 G189 hI189 (show (26 : Int32).toInt ≠ -2 by omega)) ?_
    rintro r196 F196 G196 ⟨hI196, hB196, hT196, hO196, hS196, hp196⟩
    dsimp only
    have q_197 := i_rng (F196 11)
    have e_198 : (F189 11).toInt = -2 → (F196 11).toInt = -2 := hS196
    have q_199 := hI196.r 10 rfl
    have e_200 : (F196 10).toInt = (F189 10).toInt := hO196
    unfold cb_X4_statement_222
    refine WP.ret ?_
    exact ⟨hI196, (KB.tr (KB.tr (KB.rf : KB F G F G) hB189) hB196), (KT.tr (KT.tr (rfl : KT F F) hT189) hT196), (show (F 11).toInt = -2 → (F196 11).toInt = -2 by omega), (show (F196 10).toInt = (F 10).toInt ∨ ((F196 10).toInt = (F 10).toInt - 1 ∧ (F196 11).toInt = -2 ∧ (F 11).toInt ≠ -2) by omega)⟩
  have l_201 : (17 : Int32).toInt = 17 := rfl
  have e_202 := mt i_eq.mpr (show ¬ ((F 11) = (17 : Int32)) from c_186)
  refine WP.ite (fun c_203 => ?_) (fun c_203 => ?_)
  · skip
    have l_204 : (18 : Int32).toInt = 18 := rfl
    have e_205 := i_eq.mp (show (F 11) = (18 : Int32) from c_203)
    unfold cb_X4_statement_202
    refine WP.bind (cs_X4_handOut hfu F G hI) ?_
    rintro r206 F206 G206 ⟨hI206, hB206, hT206, hO206, hp206⟩
    dsimp only
    have q_207 := hI.r 10 rfl
    have q_208 := hI206.r 10 rfl
    have e_209 : (F206 10).toInt = (F 10).toInt := hO206
    unfold cb_X4_statement_206
    unfold cb_X4_statement_222
    refine WP.ret ?_
    have q_210 := i_rng (F206 11)
    exact ⟨hI206, (KB.tr (KB.rf : KB F G F G) hB206), (KT.tr (rfl : KT F F) hT206), (show (F 11).toInt = -2 → (F206 11).toInt = -2 by omega), (show (F206 10).toInt = (F 10).toInt ∨ ((F206 10).toInt = (F 10).toInt - 1 ∧ (F206 11).toInt = -2 ∧ (F 11).toInt ≠ -2) by omega)⟩
  have l_211 : (18 : Int32).toInt = 18 := rfl
  have e_212 := mt i_eq.mpr (show ¬ ((F 11) = (18 : Int32)) from c_203)
  refine WP.ite (fun c_213 => ?_) (fun c_213 => ?_)
  · skip
    have l_214 : (19 : Int32).toInt = 19 := rfl
    have e_215 := i_eq.mp (show (F 11) = (19 : Int32) from c_213)
    unfold cb_X4_statement_209
    refine WP.bind (cs_X4_simple hfu F G hI) ?_
    rintro r216 F216 G216 ⟨hI216, hB216, hT216, hO216, hS216, hp216⟩
    dsimp only
    have q_217 := i_rng (F216 11)
    have e_218 : (F 11).toInt = -2 → (F216 11).toInt = -2 := hS216
    have q_219 := hI.r 10 rfl
    have q_220 := hI216.r 10 rfl
    have e_221 : (F216 10).toInt = (F 10).toInt := hO216
    unfold cb_X4_statement_213
    have l_222 : (26 : Int32).toInt = 26 := rfl
    refine WP.bind (cs_X2_expect hfu (26 : Int32) F216 G216 hI216 (show (26 : Int32).toInt ≠ -2 by omega)) ?_
    rintro r223 F223 G223 ⟨hI223, hB223, hT223, hO223, hS223, hp223⟩
    dsimp only
    have q_224 := i_rng (F223 11)
    have e_225 : (F216 11).toInt = -2 → (F223 11).toInt = -2 := hS223
    have q_226 := hI223.r 10 rfl
    have e_227 : (F223 10).toInt = (F216 10).toInt := hO223
    unfold cb_X4_statement_222
    refine WP.ret ?_
    exact ⟨hI223, (KB.tr (KB.tr (KB.rf : KB F G F G) hB216) hB223), (KT.tr (KT.tr (rfl : KT F F) hT216) hT223), (show (F 11).toInt = -2 → (F223 11).toInt = -2 by omega), (show (F223 10).toInt = (F 10).toInt ∨ ((F223 10).toInt = (F 10).toInt - 1 ∧ (F223 11).toInt = -2 ∧ (F 11).toInt ≠ -2) by omega)⟩
  have l_228 : (19 : Int32).toInt = 19 := rfl
  have e_229 := mt i_eq.mpr (show ¬ ((F 11) = (19 : Int32)) from c_213)
  refine WP.ite (fun c_230 => ?_) (fun c_230 => ?_)
  · skip
    have l_231 : (20 : Int32).toInt = 20 := rfl
    have e_232 := i_eq.mp (show (F 11) = (20 : Int32) from c_230)
    unfold cb_X4_statement_209
    refine WP.bind (cs_X4_simple hfu F G hI) ?_
    rintro r233 F233 G233 ⟨hI233, hB233, hT233, hO233, hS233, hp233⟩
    dsimp only
    have q_234 := i_rng (F233 11)
    have e_235 : (F 11).toInt = -2 → (F233 11).toInt = -2 := hS233
    have q_236 := hI.r 10 rfl
    have q_237 := hI233.r 10 rfl
    have e_238 : (F233 10).toInt = (F 10).toInt := hO233
    unfold cb_X4_statement_213
    have l_239 : (26 : Int32).toInt = 26 := rfl
    refine WP.bind (cs_X2_expect hfu (26 : Int32) F233 G233 hI233 (show (26 : Int32).toInt ≠ -2 by omega)) ?_
    rintro r240 F240 G240 ⟨hI240, hB240, hT240, hO240, hS240, hp240⟩
    dsimp only
    have q_241 := i_rng (F240 11)
    have e_242 : (F233 11).toInt = -2 → (F240 11).toInt = -2 := hS240
    have q_243 := hI240.r 10 rfl
    have e_244 : (F240 10).toInt = (F233 10).toInt := hO240
    unfold cb_X4_statement_222
    refine WP.ret ?_
    exact ⟨hI240, (KB.tr (KB.tr (KB.rf : KB F G F G) hB233) hB240), (KT.tr (KT.tr (rfl : KT F F) hT233) hT240), (show (F 11).toInt = -2 → (F240 11).toInt = -2 by omega), (show (F240 10).toInt = (F 10).toInt ∨ ((F240 10).toInt = (F 10).toInt - 1 ∧ (F240 11).toInt = -2 ∧ (F 11).toInt ≠ -2) by omega)⟩
  have l_245 : (20 : Int32).toInt = 20 := rfl
  have e_246 := mt i_eq.mpr (show ¬ ((F 11) = (20 : Int32)) from c_230)
  refine WP.ite (fun c_247 => ?_) (fun c_247 => ?_)
  · skip
    have l_248 : (21 : Int32).toInt = 21 := rfl
    have e_249 := i_eq.mp (show (F 11) = (21 : Int32) from c_247)
    unfold cb_X4_statement_209
    refine WP.bind (cs_X4_simple hfu F G hI) ?_
    rintro r250 F250 G250 ⟨hI250, hB250, hT250, hO250, hS250, hp250⟩
    dsimp only
    have q_251 := i_rng (F250 11)
    have e_252 : (F 11).toInt = -2 → (F250 11).toInt = -2 := hS250
    have q_253 := hI.r 10 rfl
    have q_254 := hI250.r 10 rfl
    have e_255 : (F250 10).toInt = (F 10).toInt := hO250
    unfold cb_X4_statement_213
    have l_256 : (26 : Int32).toInt = 26 := rfl
    refine WP.bind (cs_X2_expect hfu (26 : Int32) F250 G250 hI250 (show (26 : Int32).toInt ≠ -2 by omega)) ?_
    rintro r257 F257 G257 ⟨hI257, hB257, hT257, hO257, hS257, hp257⟩
    dsimp only
    have q_258 := i_rng (F257 11)
    have e_259 : (F250 11).toInt = -2 → (F257 11).toInt = -2 := hS257
    have q_260 := hI257.r 10 rfl
    have e_261 : (F257 10).toInt = (F250 10).toInt := hO257
    unfold cb_X4_statement_222
    refine WP.ret ?_
    exact ⟨hI257, (KB.tr (KB.tr (KB.rf : KB F G F G) hB250) hB257), (KT.tr (KT.tr (rfl : KT F F) hT250) hT257), (show (F 11).toInt = -2 → (F257 11).toInt = -2 by omega), (show (F257 10).toInt = (F 10).toInt ∨ ((F257 10).toInt = (F 10).toInt - 1 ∧ (F257 11).toInt = -2 ∧ (F 11).toInt ≠ -2) by omega)⟩
  have l_262 : (21 : Int32).toInt = 21 := rfl
  have e_263 := mt i_eq.mpr (show ¬ ((F 11) = (21 : Int32)) from c_247)
  refine WP.ite (fun c_264 => ?_) (fun c_264 => ?_)
  · skip
    have l_265 : (22 : Int32).toInt = 22 := rfl
    have e_266 := i_eq.mp (show (F 11) = (22 : Int32) from c_264)
    unfold cb_X4_statement_209
    refine WP.bind (cs_X4_simple hfu F G hI) ?_
    rintro r267 F267 G267 ⟨hI267, hB267, hT267, hO267, hS267, hp267⟩
    dsimp only
    have q_268 := i_rng (F267 11)
    have e_269 : (F 11).toInt = -2 → (F267 11).toInt = -2 := hS267
    have q_270 := hI.r 10 rfl
    have q_271 := hI267.r 10 rfl
    have e_272 : (F267 10).toInt = (F 10).toInt := hO267
    unfold cb_X4_statement_213
    have l_273 : (26 : Int32).toInt = 26 := rfl
    refine WP.bind (cs_X2_expect hfu (26 : Int32) F267 G267 hI267 (show (26 : Int32).toInt ≠ -2 by omega)) ?_
    rintro r274 F274 G274 ⟨hI274, hB274, hT274, hO274, hS274, hp274⟩
    dsimp only
    have q_275 := i_rng (F274 11)
    have e_276 : (F267 11).toInt = -2 → (F274 11).toInt = -2 := hS274
    have q_277 := hI274.r 10 rfl
    have e_278 : (F274 10).toInt = (F267 10).toInt := hO274
    unfold cb_X4_statement_222
    refine WP.ret ?_
    exact ⟨hI274, (KB.tr (KB.tr (KB.rf : KB F G F G) hB267) hB274), (KT.tr (KT.tr (rfl : KT F F) hT267) hT274), (show (F 11).toInt = -2 → (F274 11).toInt = -2 by omega), (show (F274 10).toInt = (F 10).toInt ∨ ((F274 10).toInt = (F 10).toInt - 1 ∧ (F274 11).toInt = -2 ∧ (F 11).toInt ≠ -2) by omega)⟩
  have l_279 : (22 : Int32).toInt = 22 := rfl
  have e_280 := mt i_eq.mpr (show ¬ ((F 11) = (22 : Int32)) from c_264)
  refine WP.ite (fun c_281 => ?_) (fun c_281 => ?_)
  · skip
    have l_282 : (23 : Int32).toInt = 23 := rfl
    have e_283 := i_eq.mp (show (F 11) = (23 : Int32) from c_281)
    unfold cb_X4_statement_112
    refine WP.bind (cs_X5_enter hfu F G hI) ?_
    rintro r284 F284 G284 ⟨hI284, hB284, hT284, hO284, hK284, hp284⟩
    dsimp only
    have q_285 := i_rng (F284 11)
    have e_286 : (F284 11).toInt = (F 11).toInt := congrArg Int32.toInt hK284
    have q_287 := hI.r 10 rfl
    have q_288 := hI284.r 10 rfl
    have e_289 : (F284 10).toInt = (F 10).toInt := hO284
    unfold cb_X4_statement_119
    refine WP.bind (ih.1 F284 G284 hI284 (show 0 ≤ (F284 10).toInt by omega) (by omega)) ?_
    rintro r290 F290 G290 ⟨hI290, hB290, hT290, hS290, hp290⟩
    dsimp only
    have q_291 := i_rng (F290 11)
    have e_292 : (F284 11).toInt = -2 → (F290 11).toInt = -2 := hS290
    have q_293 := hI290.r 10 rfl
    have e_294 : (F290 10).toInt = (F284 10).toInt ∨ ((F290 10).toInt = (F284 10).toInt - 1 ∧ (F290 11).toInt = -2 ∧ (F284 11).toInt ≠ -2) := hp290
    unfold cb_X4_statement_123
    refine WP.bind (cs_X5_leave hfu F290 G290 hI290) ?_
    rintro r295 F295 G295 ⟨hI295, hB295, hT295, hO295, hK295, hp295⟩
    dsimp only
    have q_296 := i_rng (F295 11)
    have e_297 : (F295 11).toInt = (F290 11).toInt := congrArg Int32.toInt hK295
    have q_298 := hI295.r 10 rfl
    have e_299 : (F295 10).toInt = (F290 10).toInt := hO295
    unfold cb_X4_statement_130
    unfold cb_X4_statement_222
    refine WP.ret ?_
    exact ⟨hI295, (KB.tr (KB.tr (KB.tr (KB.rf : KB F G F G) hB284) hB290) hB295), (KT.tr (KT.tr (KT.tr (rfl : KT F F) hT284) hT290) hT295), (show (F 11).toInt = -2 → (F295 11).toInt = -2 by omega), (show (F295 10).toInt = (F 10).toInt ∨ ((F295 10).toInt = (F 10).toInt - 1 ∧ (F295 11).toInt = -2 ∧ (F 11).toInt ≠ -2) by omega)⟩
  have l_300 : (23 : Int32).toInt = 23 := rfl
  have e_301 := mt i_eq.mpr (show ¬ ((F 11) = (23 : Int32)) from c_281)
  refine WP.ite (fun c_302 => ?_) (fun c_302 => ?_)
  · skip
    have l_303 : (24 : Int32).toInt = 24 := rfl
    have e_304 := i_eq.mp (show (F 11) = (24 : Int32) from c_302)
    unfold cb_X4_statement_209
    refine WP.bind (cs_X4_simple hfu F G hI) ?_
    rintro r305 F305 G305 ⟨hI305, hB305, hT305, hO305, hS305, hp305⟩
    dsimp only
    have q_306 := i_rng (F305 11)
    have e_307 : (F 11).toInt = -2 → (F305 11).toInt = -2 := hS305
    have q_308 := hI.r 10 rfl
    have q_309 := hI305.r 10 rfl
    have e_310 : (F305 10).toInt = (F 10).toInt := hO305
    unfold cb_X4_statement_213
    have l_311 : (26 : Int32).toInt = 26 := rfl
    refine WP.bind (cs_X2_expect hfu (26 : Int32) F305 G305 hI305 (show (26 : Int32).toInt ≠ -2 by omega)) ?_
    rintro r312 F312 G312 ⟨hI312, hB312, hT312, hO312, hS312, hp312⟩
    dsimp only
    have q_313 := i_rng (F312 11)
    have e_314 : (F305 11).toInt = -2 → (F312 11).toInt = -2 := hS312
    have q_315 := hI312.r 10 rfl
    have e_316 : (F312 10).toInt = (F305 10).toInt := hO312
    unfold cb_X4_statement_222
    refine WP.ret ?_
    exact ⟨hI312, (KB.tr (KB.tr (KB.rf : KB F G F G) hB305) hB312), (KT.tr (KT.tr (rfl : KT F F) hT305) hT312), (show (F 11).toInt = -2 → (F312 11).toInt = -2 by omega), (show (F312 10).toInt = (F 10).toInt ∨ ((F312 10).toInt = (F 10).toInt - 1 ∧ (F312 11).toInt = -2 ∧ (F 11).toInt ≠ -2) by omega)⟩
  have l_317 : (24 : Int32).toInt = 24 := rfl
  have e_318 := mt i_eq.mpr (show ¬ ((F 11) = (24 : Int32)) from c_302)
  refine WP.ite (fun c_319 => ?_) (fun c_319 => ?_)
  · skip
    have l_320 : (25 : Int32).toInt = 25 := rfl
    have e_321 := i_eq.mp (show (F 11) = (25 : Int32) from c_319)
    unfold cb_X4_statement_209
    refine WP.bind (cs_X4_simple hfu F G hI) ?_
    rintro r322 F322 G322 ⟨hI322, hB322, hT322, hO322, hS322, hp322⟩
    dsimp only
    have q_323 := i_rng (F322 11)
    have e_324 : (F 11).toInt = -2 → (F322 11).toInt = -2 := hS322
    have q_325 := hI.r 10 rfl
    have q_326 := hI322.r 10 rfl
    have e_327 : (F322 10).toInt = (F 10).toInt := hO322
    unfold cb_X4_statement_213
    have l_328 : (26 : Int32).toInt = 26 := rfl
    refine WP.bind (cs_X2_expect hfu (26 : Int32) F322 G322 hI322 (show (26 : Int32).toInt ≠ -2 by omega)) ?_
    rintro r329 F329 G329 ⟨hI329, hB329, hT329, hO329, hS329, hp329⟩
    dsimp only
    have q_330 := i_rng (F329 11)
    have e_331 : (F322 11).toInt = -2 → (F329 11).toInt = -2 := hS329
    have q_332 := hI329.r 10 rfl
    have e_333 : (F329 10).toInt = (F322 10).toInt := hO329
    unfold cb_X4_statement_222
    refine WP.ret ?_
    exact ⟨hI329, (KB.tr (KB.tr (KB.rf : KB F G F G) hB322) hB329), (KT.tr (KT.tr (rfl : KT F F) hT322) hT329), (show (F 11).toInt = -2 → (F329 11).toInt = -2 by omega), (show (F329 10).toInt = (F 10).toInt ∨ ((F329 10).toInt = (F 10).toInt - 1 ∧ (F329 11).toInt = -2 ∧ (F 11).toInt ≠ -2) by omega)⟩
  have l_334 : (25 : Int32).toInt = 25 := rfl
  have e_335 := mt i_eq.mpr (show ¬ ((F 11) = (25 : Int32)) from c_319)
  unfold cb_X4_statement_133
  refine WP.bind (cs_X2_next hfu F G hI) ?_
  rintro r336 F336 G336 ⟨hI336, hB336, hT336, hO336, hp336⟩
  dsimp only
  have q_337 := hI.r 10 rfl
  have q_338 := hI336.r 10 rfl
  have e_339 : (F336 10).toInt = (F 10).toInt := hO336
  unfold cb_X4_statement_140
  unfold cb_X4_statement_222
  refine WP.ret ?_
  have q_340 := i_rng (F336 11)
  exact ⟨hI336, (KB.tr (KB.rf : KB F G F G) hB336), (KT.tr (rfl : KT F F) hT336), (show (F 11).toInt = -2 → (F336 11).toInt = -2 by omega), (show (F336 10).toInt = (F 10).toInt ∨ ((F336 10).toInt = (F 10).toInt - 1 ∧ (F336 11).toInt = -2 ∧ (F 11).toInt ≠ -2) by omega)⟩
theorem ct_X4_whileStatement {fu d : Nat} (hfu : 8589934592 ≤ fu) (rc : RC) (ih : cIH2 rc d) (F : PF) (G : PG) (hI : CI F G) (h10 : 0 ≤ (F 10).toInt) (hd : (4 * (40 - (F 10).toInt) + 3 ≤ (d + 1 : Int) ∨ ((F 11).toInt = -2 ∧ 1 ≤ (d + 1 : Int)))) : WP (ch_X4_whileStatement fu rc F G) (fun r' F' G' => CI F' G' ∧ KB F G F' G' ∧ KT F F' ∧ KS F F' ∧ (((F' 10).toInt = (F 10).toInt ∨ ((F' 10).toInt = (F 10).toInt - 1 ∧ (F' 11).toInt = -2 ∧ (F 11).toInt ≠ -2)))) := by
  unfold ch_X4_whileStatement
  have q_10 := hI.r 10 rfl
  unfold cb_X4_whileStatement_0
  have l_1 : (10 : Int32).toInt = 10 := rfl
  refine WP.bind (cs_X2_opens hfu (10 : Int32) F G hI (show (10 : Int32).toInt ≠ -2 by omega)) ?_
  rintro r2 F2 G2 ⟨hI2, hB2, hT2, hS2, hp2⟩
  dsimp only
  have q_3 := i_rng (F 11)
  have q_4 := i_rng (F2 11)
  have e_5 : (F 11).toInt = -2 → (F2 11).toInt = -2 := hS2
  have q_6 := b_rng (hp2.1)
  have q_7 := hI.r 10 rfl
  have q_8 := hI2.r 10 rfl
  have e_9 : r2.toInt = 1 → (F2 10).toInt = (F 10).toInt + 1 ∧ (F 10).toInt < 40 ∧ (F 11).toInt ≠ -2 := hp2.2.1
  have e_10 : r2.toInt = 0 → (F2 10).toInt = (F 10).toInt ∧ (F2 11).toInt = -2 := hp2.2.2
  unfold cb_X4_whileStatement_9
  refine WP.ite (fun c_11 => ?_) (fun c_11 => ?_)
  · skip
    have l_12 : (0 : Int32).toInt = 0 := rfl
    have e_13 := i_eq.mp (show r2 = (0 : Int32) from c_11)
    unfold cb_X4_whileStatement_12
    refine WP.ret ?_
    exact ⟨hI2, (KB.tr (KB.rf : KB F G F G) hB2), (KT.tr (rfl : KT F F) hT2), (show (F 11).toInt = -2 → (F2 11).toInt = -2 by omega), (show (F2 10).toInt = (F 10).toInt ∨ ((F2 10).toInt = (F 10).toInt - 1 ∧ (F2 11).toInt = -2 ∧ (F 11).toInt ≠ -2) by omega)⟩
  · skip
    have l_14 : (0 : Int32).toInt = 0 := rfl
    have e_15 := mt i_eq.mpr (show ¬ (r2 = (0 : Int32)) from c_11)
    unfold cb_X4_whileStatement_13
    refine WP.bind (cs_X4_condition hfu F2 G2 hI2) ?_
    rintro r16 F16 G16 ⟨hI16, hB16, hT16, hO16, hS16, hp16⟩
    dsimp only
    have q_17 := i_rng (F16 11)
    have e_18 : (F2 11).toInt = -2 → (F16 11).toInt = -2 := hS16
    have q_19 := hI16.r 10 rfl
    have e_20 : (F16 10).toInt = (F2 10).toInt := hO16
    unfold cb_X4_whileStatement_35
    have l_21 : (86 : Int32).toInt = 86 := rfl
    have l_22 : (-1 : Int32).toInt = -1 := rfl
    refine WP.bind (cs_X1_addJump hfu (86 : Int32) (-1 : Int32) F16 G16 hI16) ?_
    rintro r23 F23 G23 ⟨hI23, hB23, hT23, hO23, hK23, hp23⟩
    dsimp only
    have q_24 := i_rng (F23 11)
    have e_25 : (F23 11).toInt = (F16 11).toInt := congrArg Int32.toInt hK23
    have q_26 := hI23.r 10 rfl
    have e_27 : (F23 10).toInt = (F16 10).toInt := hO23
    have q_28 := hI16.r 21 rfl
    have q_29 := hI23.r 21 rfl
    have e_30 : (F23 21).toInt = (F16 21).toInt := congrArg Int32.toInt hp23
    unfold cb_X4_whileStatement_45
    refine WP.bind (ih.2.2.2.2.2.1 F23 G23 hI23 (show 0 ≤ (F23 10).toInt by omega) (by omega)) ?_
    rintro r31 F31 G31 ⟨hI31, hB31, hT31, hS31, hp31⟩
    dsimp only
    have q_32 := i_rng (F31 11)
    have e_33 : (F23 11).toInt = -2 → (F31 11).toInt = -2 := hS31
    have q_34 := hI31.r 10 rfl
    have e_35 : (F31 10).toInt = (F23 10).toInt ∨ ((F31 10).toInt = (F23 10).toInt - 1 ∧ (F31 11).toInt = -2 ∧ (F23 11).toInt ≠ -2) := hp31
    unfold cb_X4_whileStatement_51
    have l_36 : (84 : Int32).toInt = 84 := rfl
    have q_37 := hI2.r 6 rfl
    refine WP.bind (cs_X1_addPair hfu (84 : Int32) (F2 6) F31 G31 hI31) ?_
    rintro r38 F38 G38 ⟨hI38, hB38, hT38, hO38, hK38, hp38⟩
    dsimp only
    have q_39 := i_rng (F38 11)
    have e_40 : (F38 11).toInt = (F31 11).toInt := congrArg Int32.toInt hK38
    have q_41 := hI38.r 10 rfl
    have e_42 : (F38 10).toInt = (F31 10).toInt := hO38
    unfold cb_X4_whileStatement_61
    have q_43 := i_rng (F38 31)
    refine WP.bind (cs_X1_aim hfu (F38 31) (F2 6) F38 G38 hI38) ?_
    rintro r44 F44 G44 ⟨hI44, hB44, hT44, hO44, hK44, hp44⟩
    dsimp only
    have q_45 := i_rng (F44 11)
    have e_46 : (F44 11).toInt = (F38 11).toInt := congrArg Int32.toInt hK44
    have q_47 := hI44.r 10 rfl
    have e_48 : (F44 10).toInt = (F38 10).toInt := hO44
    unfold cb_X4_whileStatement_73
    have q_49 := i_rng r23
    have q_50 := hI44.r 6 rfl
    refine WP.bind (cs_X1_aim hfu r23 (F44 6) F44 G44 hI44) ?_
    rintro r51 F51 G51 ⟨hI51, hB51, hT51, hO51, hK51, hp51⟩
    dsimp only
    have q_52 := i_rng (F51 11)
    have e_53 : (F51 11).toInt = (F44 11).toInt := congrArg Int32.toInt hK51
    have q_54 := hI51.r 10 rfl
    have e_55 : (F51 10).toInt = (F44 10).toInt := hO51
    unfold cb_X4_whileStatement_89
    have q_56 := i_rng (F51 30)
    have q_57 := hI51.r 6 rfl
    refine WP.bind (cs_X1_aim hfu (F51 30) (F51 6) F51 G51 hI51) ?_
    rintro r58 F58 G58 ⟨hI58, hB58, hT58, hO58, hK58, hp58⟩
    dsimp only
    have q_59 := i_rng (F58 11)
    have e_60 : (F58 11).toInt = (F51 11).toInt := congrArg Int32.toInt hK58
    have q_61 := hI58.r 10 rfl
    have e_62 : (F58 10).toInt = (F51 10).toInt := hO58
    unfold cb_X4_whileStatement_107
    have q_63 := i_rng (F2 30)
    have j_64 : CI (fup F58 30 (F2 30)) G58 := CI.fr rfl hI58
    unfold cb_X4_whileStatement_112
    have q_65 := i_rng (F2 31)
    have j_66 : CI (fup (fup F58 30 (F2 30)) 31 (F2 31)) G58 := CI.fr rfl j_64
    unfold cb_X4_whileStatement_117
    refine WP.bind (cs_X2_closes hfu (fup (fup F58 30 (F2 30)) 31 (F2 31)) G58 j_66 (show 0 ≤ (F58 10).toInt by omega)) ?_
    rintro r67 F67 G67 ⟨hI67, hB67, hT67, hK67, hp67⟩
    dsimp only
    have q_68 := i_rng (F67 11)
    have e_69 : (F67 11).toInt = (F58 11).toInt := congrArg Int32.toInt hK67
    have q_70 := hI67.r 10 rfl
    have e_71 : (F67 10).toInt = (F58 10).toInt - 1 := hp67
    unfold cb_X4_whileStatement_124
    refine WP.ret ?_
    exact ⟨hI67, (KB.tr (KB.f (by decide) (KB.f (by decide) (KB.tr (KB.tr (KB.tr (KB.tr (KB.tr (KB.tr (KB.tr (KB.tr (KB.rf : KB F G F G) hB2) hB16) hB23) hB31) hB38) hB44) hB51) hB58))) hB67), (KT.tr (KT.f (by decide) (KT.f (by decide) (KT.tr (KT.tr (KT.tr (KT.tr (KT.tr (KT.tr (KT.tr (KT.tr (rfl : KT F F) hT2) hT16) hT23) hT31) hT38) hT44) hT51) hT58))) hT67), (show (F 11).toInt = -2 → (F67 11).toInt = -2 by omega), (show (F67 10).toInt = (F 10).toInt ∨ ((F67 10).toInt = (F 10).toInt - 1 ∧ (F67 11).toInt = -2 ∧ (F 11).toInt ≠ -2) by omega)⟩
theorem cU2 {fu : Nat} (hfu : 8589934592 ≤ fu) : ∀ d : Nat, cIH2 (cS2 fu d) d := by
  intro d
  induction d with
  | zero =>
    refine ⟨?_, ?_, ?_, ?_, ?_, ?_, ?_, ?_⟩
    · intro F G hI h10 hd; have := hI.r 10 rfl; omega
    · intro F G hI h10 hd; have := hI.r 10 rfl; omega
    · intro F G hI h10 hd; have := hI.r 10 rfl; omega
    · intro F G hI h10 hd; have := hI.r 10 rfl; omega
    · intro F G hI h10 hd; have := hI.r 10 rfl; omega
    · intro F G hI h10 hd; have := hI.r 10 rfl; omega
    · intro F G hI h10 hd; have := hI.r 10 rfl; omega
    · intro F G hI h10 hd; have := hI.r 10 rfl; omega
  | succ d ih =>
    refine ⟨?_, ?_, ?_, ?_, ?_, ?_, ?_, ?_⟩
    · intro F G hI h10 hd
      exact ct_X4_block hfu (cS2 fu d) ih F G hI h10 (by omega)
    · intro F G hI h10 hd
      exact ct_X4_doStatement hfu (cS2 fu d) ih F G hI h10 (by omega)
    · intro F G hI h10 hd
      exact ct_X4_forStatement hfu (cS2 fu d) ih F G hI h10 (by omega)
    · intro F G hI h10 hd
      exact ct_X4_ifStatement hfu (cS2 fu d) ih F G hI h10 (by omega)
    · intro F G hI h10 hd
      exact ct_X4_inner hfu (cS2 fu d) ih F G hI h10 (by omega)
    · intro F G hI h10 hd
      exact ct_X4_loopBody hfu (cS2 fu d) ih F G hI h10 (by omega)
    · intro F G hI h10 hd
      exact ct_X4_statement hfu (cS2 fu d) ih F G hI h10 (by omega)
    · intro F G hI h10 hd
      exact ct_X4_whileStatement hfu (cS2 fu d) ih F G hI h10 (by omega)
theorem cs_X4_block {fu : Nat} (hfu : 8589934592 ≤ fu) (F : PF) (G : PG) (hI : CI F G) (h10 : 0 ≤ (F 10).toInt) : WP (cf_X4_block fu F G) (fun r' F' G' => CI F' G' ∧ KB F G F' G' ∧ KT F F' ∧ KS F F' ∧ (((F' 10).toInt = (F 10).toInt ∨ ((F' 10).toInt = (F 10).toInt - 1 ∧ (F' 11).toInt = -2 ∧ (F 11).toInt ≠ -2)))) := (cU2 hfu 300).1 F G hI h10 (by have := hI.r 10 rfl; omega)
theorem cs_X4_doStatement {fu : Nat} (hfu : 8589934592 ≤ fu) (F : PF) (G : PG) (hI : CI F G) (h10 : 0 ≤ (F 10).toInt) : WP (cf_X4_doStatement fu F G) (fun r' F' G' => CI F' G' ∧ KB F G F' G' ∧ KT F F' ∧ KS F F' ∧ (((F' 10).toInt = (F 10).toInt ∨ ((F' 10).toInt = (F 10).toInt - 1 ∧ (F' 11).toInt = -2 ∧ (F 11).toInt ≠ -2)))) := (cU2 hfu 300).2.1 F G hI h10 (by have := hI.r 10 rfl; omega)
theorem cs_X4_forStatement {fu : Nat} (hfu : 8589934592 ≤ fu) (F : PF) (G : PG) (hI : CI F G) (h10 : 0 ≤ (F 10).toInt) : WP (cf_X4_forStatement fu F G) (fun r' F' G' => CI F' G' ∧ KB F G F' G' ∧ KT F F' ∧ KS F F' ∧ (((F' 10).toInt = (F 10).toInt ∨ ((F' 10).toInt = (F 10).toInt - 1 ∧ (F' 11).toInt = -2 ∧ (F 11).toInt ≠ -2)))) := (cU2 hfu 300).2.2.1 F G hI h10 (by have := hI.r 10 rfl; omega)
theorem cs_X4_ifStatement {fu : Nat} (hfu : 8589934592 ≤ fu) (F : PF) (G : PG) (hI : CI F G) (h10 : 0 ≤ (F 10).toInt) : WP (cf_X4_ifStatement fu F G) (fun r' F' G' => CI F' G' ∧ KB F G F' G' ∧ KT F F' ∧ KS F F' ∧ (((F' 10).toInt = (F 10).toInt ∨ ((F' 10).toInt = (F 10).toInt - 1 ∧ (F' 11).toInt = -2 ∧ (F 11).toInt ≠ -2)))) := (cU2 hfu 300).2.2.2.1 F G hI h10 (by have := hI.r 10 rfl; omega)
theorem cs_X4_inner {fu : Nat} (hfu : 8589934592 ≤ fu) (F : PF) (G : PG) (hI : CI F G) (h10 : 0 ≤ (F 10).toInt) : WP (cf_X4_inner fu F G) (fun r' F' G' => CI F' G' ∧ KB F G F' G' ∧ KT F F' ∧ KS F F' ∧ (((F' 10).toInt = (F 10).toInt ∨ ((F' 10).toInt = (F 10).toInt - 1 ∧ (F' 11).toInt = -2 ∧ (F 11).toInt ≠ -2)))) := (cU2 hfu 300).2.2.2.2.1 F G hI h10 (by have := hI.r 10 rfl; omega)
theorem cs_X4_loopBody {fu : Nat} (hfu : 8589934592 ≤ fu) (F : PF) (G : PG) (hI : CI F G) (h10 : 0 ≤ (F 10).toInt) : WP (cf_X4_loopBody fu F G) (fun r' F' G' => CI F' G' ∧ KB F G F' G' ∧ KT F F' ∧ KS F F' ∧ (((F' 10).toInt = (F 10).toInt ∨ ((F' 10).toInt = (F 10).toInt - 1 ∧ (F' 11).toInt = -2 ∧ (F 11).toInt ≠ -2)))) := (cU2 hfu 300).2.2.2.2.2.1 F G hI h10 (by have := hI.r 10 rfl; omega)
theorem cs_X4_statement {fu : Nat} (hfu : 8589934592 ≤ fu) (F : PF) (G : PG) (hI : CI F G) (h10 : 0 ≤ (F 10).toInt) : WP (cf_X4_statement fu F G) (fun r' F' G' => CI F' G' ∧ KB F G F' G' ∧ KT F F' ∧ KS F F' ∧ (((F' 10).toInt = (F 10).toInt ∨ ((F' 10).toInt = (F 10).toInt - 1 ∧ (F' 11).toInt = -2 ∧ (F 11).toInt ≠ -2)))) := (cU2 hfu 300).2.2.2.2.2.2.1 F G hI h10 (by have := hI.r 10 rfl; omega)
theorem cs_X4_whileStatement {fu : Nat} (hfu : 8589934592 ≤ fu) (F : PF) (G : PG) (hI : CI F G) (h10 : 0 ≤ (F 10).toInt) : WP (cf_X4_whileStatement fu F G) (fun r' F' G' => CI F' G' ∧ KB F G F' G' ∧ KT F F' ∧ KS F F' ∧ (((F' 10).toInt = (F 10).toInt ∨ ((F' 10).toInt = (F 10).toInt - 1 ∧ (F' 11).toInt = -2 ∧ (F 11).toInt ≠ -2)))) := (cU2 hfu 300).2.2.2.2.2.2.2 F G hI h10 (by have := hI.r 10 rfl; omega)
theorem cs_X4_constTold {fu : Nat} (hfu : 8589934592 ≤ fu) (x1 : Int32) (x2 : Int32) (F : PF) (G : PG) (hI : CI F G) : WP (cf_X4_constTold fu x1 x2 F G) (fun r' F' G' => CI F' G' ∧ KB F G F' G' ∧ KT F F' ∧ KO F F' ∧ True) := by
  unfold cf_X4_constTold
  unfold cb_X4_constTold_0
  have l_1 : (29 : Int32).toInt = 29 := rfl
  refine WP.bind (cs_X2_expect hfu (29 : Int32) F G hI (show (29 : Int32).toInt ≠ -2 by omega)) ?_
  rintro r2 F2 G2 ⟨hI2, hB2, hT2, hO2, hS2, hp2⟩
  dsimp only
  have q_3 := hI.r 10 rfl
  have q_4 := hI2.r 10 rfl
  have e_5 : (F2 10).toInt = (F 10).toInt := hO2
  unfold cb_X4_constTold_9
  refine WP.bind (cs_X3_constant hfu F2 G2 hI2) ?_
  rintro r6 F6 G6 ⟨hI6, hB6, hT6, hO6, hp6⟩
  dsimp only
  have q_7 := hI6.r 10 rfl
  have e_8 : (F6 10).toInt = (F2 10).toInt := hO6
  unfold cb_X4_constTold_16
  have l_9 : (26 : Int32).toInt = 26 := rfl
  refine WP.bind (cs_X2_expect hfu (26 : Int32) F6 G6 hI6 (show (26 : Int32).toInt ≠ -2 by omega)) ?_
  rintro r10 F10 G10 ⟨hI10, hB10, hT10, hO10, hS10, hp10⟩
  dsimp only
  have q_11 := hI10.r 10 rfl
  have e_12 : (F10 10).toInt = (F6 10).toInt := hO10
  unfold cb_X4_constTold_26
  have q_13 := i_rng x1
  have q_14 := i_rng x2
  have l_15 : (0 : Int32).toInt = 0 := rfl
  have q_16 := i_rng r6
  refine WP.bind (cs_X5_tell hfu x1 x2 (0 : Int32) r6 (0 : Int32) F10 G10 hI10) ?_
  rintro r17 F17 G17 ⟨hI17, hB17, hT17, hO17, hK17, hp17⟩
  dsimp only
  have q_18 := hI17.r 10 rfl
  have e_19 : (F17 10).toInt = (F10 10).toInt := hO17
  unfold cb_X4_constTold_38
  refine WP.ret ?_
  exact ⟨hI17, (KB.tr (KB.tr (KB.tr (KB.tr (KB.rf : KB F G F G) hB2) hB6) hB10) hB17), (KT.tr (KT.tr (KT.tr (KT.tr (rfl : KT F F) hT2) hT6) hT10) hT17), (KO.tr (KO.tr (KO.tr (KO.tr (rfl : KO F F) hO2) hO6) hO10) hO17), trivial⟩
theorem cs_X8_firstWord {fu : Nat} (hfu : 8589934592 ≤ fu) (x1 : Int32) (F : PF) (G : PG) (hI : CI F G) : WP (cf_X8_firstWord fu x1 F G) (fun r' F' G' => F = F' ∧ G = G' ∧ True) := by
  unfold cf_X8_firstWord
  unfold cb_X8_firstWord_0
  refine WP.ite (fun c_1 => ?_) (fun c_1 => ?_)
  · skip
    have q_2 := i_rng x1
    have l_3 : (0 : Int32).toInt = 0 := rfl
    have e_4 := i_lt.mp (show x1 < (0 : Int32) from c_1)
    unfold cb_X8_firstWord_11
    unfold cb_X8_firstWord_21
    refine WP.ret ?_
    exact ⟨rfl, rfl, trivial⟩
  · skip
    have q_5 := i_rng x1
    have l_6 : (0 : Int32).toInt = 0 := rfl
    have e_7 := mt i_lt.mpr (show ¬ (x1 < (0 : Int32)) from c_1)
    unfold cb_X8_firstWord_4
    refine WP.ite (fun c_8 => ?_) (fun c_8 => ?_)
    · skip
      have l_9 : (2000 : Int32).toInt = 2000 := rfl
      have e_10 := i_lt.mp (show x1 < (2000 : Int32) from c_8)
      unfold cb_X8_firstWord_15
      refine WP.ix (show vp_in x1 2000 from vp_in_iff.mpr ⟨by omega, by omega⟩) ?_
      unfold cb_X8_firstWord_21
      refine WP.ret ?_
      exact ⟨rfl, rfl, trivial⟩
    · skip
      have l_11 : (2000 : Int32).toInt = 2000 := rfl
      have e_12 := mt i_lt.mpr (show ¬ (x1 < (2000 : Int32)) from c_8)
      unfold cb_X8_firstWord_11
      unfold cb_X8_firstWord_21
      refine WP.ret ?_
      exact ⟨rfl, rfl, trivial⟩
theorem cs_X8_tellByte {fu : Nat} (hfu : 8589934592 ≤ fu) (x1 : Int32) (x2 : Int32) (x3 : Int32) (F : PF) (G : PG) (hI : CI F G) : WP (cf_X8_tellByte fu x1 x2 x3 F G) (fun r' F' G' => CI F' G' ∧ KB F G F' G' ∧ KT F F' ∧ KO F F' ∧ KK F F' ∧ True) := by
  unfold cf_X8_tellByte
  unfold cb_X8_tellByte_0
  have q_1 := i_rng x1
  have q_2 := i_rng x2
  have l_3 : (2 : Int32).toInt = 2 := rfl
  have e_5 : ((x2 >>> ((2 : Int32) &&& 31))).toInt = x2.toInt / 4 := i_shr 2 (by decide)
  first | have e_6 : (x1 + (x2 >>> ((2 : Int32) &&& 31))).toInt = x1.toInt + ((x2 >>> ((2 : Int32) &&& 31)).toInt) := i_addn x1 rfl (by omega) (by omega) | have e_7 := i_rng (x1 + (x2 >>> ((2 : Int32) &&& 31)))
  refine WP.bind (cs_X8_firstWord hfu (x1 + (x2 >>> ((2 : Int32) &&& 31))) F G hI) ?_
  rintro r8 _ _ ⟨rfl, rfl, hp8⟩
  dsimp only
  unfold cb_X8_tellByte_24
  have q_9 := i_rng r8
  have l_10 : (255 : Int32).toInt = 255 := rfl
  have l_11 : (3 : Int32).toInt = 3 := rfl
  have e_13 := i_and x2 (m := 3) 2 (by decide) (by decide)
  have l_14 : (8 : Int32).toInt = 8 := rfl
  have q_16 := i_rng ((x2 &&& (3 : Int32)) * (8 : Int32))
  have q_18 := i_rng ((255 : Int32) <<< (((x2 &&& (3 : Int32)) * (8 : Int32)) &&& 31))
  have l_19 : (-1 : Int32).toInt = -1 := rfl
  have q_21 := i_rng (((255 : Int32) <<< (((x2 &&& (3 : Int32)) * (8 : Int32)) &&& 31)) ^^^ (-1 : Int32))
  have q_23 := i_rng (r8 &&& (((255 : Int32) <<< (((x2 &&& (3 : Int32)) * (8 : Int32)) &&& 31)) ^^^ (-1 : Int32)))
  have q_24 := i_rng x3
  have e_26 := i_and x3 (m := 255) 8 (by decide) (by decide)
  have q_28 := i_rng ((x3 &&& (255 : Int32)) <<< (((x2 &&& (3 : Int32)) * (8 : Int32)) &&& 31))
  have q_30 := i_rng ((r8 &&& (((255 : Int32) <<< (((x2 &&& (3 : Int32)) * (8 : Int32)) &&& 31)) ^^^ (-1 : Int32))) ||| ((x3 &&& (255 : Int32)) <<< (((x2 &&& (3 : Int32)) * (8 : Int32)) &&& 31)))
  refine WP.bind (cs_X8_tellInt hfu (x1 + (x2 >>> ((2 : Int32) &&& 31))) ((r8 &&& (((255 : Int32) <<< (((x2 &&& (3 : Int32)) * (8 : Int32)) &&& 31)) ^^^ (-1 : Int32))) ||| ((x3 &&& (255 : Int32)) <<< (((x2 &&& (3 : Int32)) * (8 : Int32)) &&& 31))) F G hI) ?_
  rintro r31 F31 G31 ⟨hI31, hB31, hT31, hO31, hK31, hp31⟩
  dsimp only
  have q_32 := hI.r 10 rfl
  have q_33 := hI31.r 10 rfl
  have e_34 : (F31 10).toInt = (F 10).toInt := hO31
  unfold cb_X8_tellByte_45
  refine WP.ret ?_
  exact ⟨hI31, (KB.tr (KB.rf : KB F G F G) hB31), (KT.tr (rfl : KT F F) hT31), (KO.tr (rfl : KO F F) hO31), (KK.tr (rfl : KK F F) hK31), trivial⟩
theorem cz_X4_elements_19 {fu : Nat} (hfu : 8589934592 ≤ fu) {F0 : PF} {G0 : PG} : ∀ (n : Nat) (x1 : Int32) (x2 : Int32) (x3 : Int32) (x4 : Int32) (x5 : Int32) (F : PF) (G : PG) (hI : CI F G) (hB : KB F0 G0 F G) (hT : KT F0 F) (i_0 : (F 10).toInt = (F0 10).toInt + 1) (i_1 : -1 ≤ (F0 10).toInt) (hn : (2147483647 - x5.toInt).toNat < n), WP (cl_X4_elements_19 fu n x1 x2 x3 x4 x5 F G) (fun r' F' G' => CI F' G' ∧ KB F0 G0 F' G' ∧ KT F0 F' ∧ KO F0 F' ∧ True) := by
  intro n
  induction n with
  | zero =>
    intro x1 x2 x3 x4 x5 F G hI hB hT i_0 i_1 hn
    exact absurd hn (Nat.not_lt_zero _)
  | succ n ihn =>
    intro x1 x2 x3 x4 x5 F G hI hB hT i_0 i_1 hn
    show WP (cb_X4_elements_19 fu (cl_X4_elements_19 fu n)  x1 x2 x3 x4 x5 F G) _
    unfold cb_X4_elements_19
    refine WP.ite (fun c_1 => ?_) (fun c_1 => ?_)
    · skip
      have l_2 : (4001 : Int32).toInt = 4001 := rfl
      have q_3 := i_rng x5
      have e_4 := i_le.mp (show (4001 : Int32) ≤ x5 from c_1)
      unfold cb_X4_elements_140
      have l_5 : (24 : Int32).toInt = 24 := rfl
      have q_6 := hI.r 10 rfl
      refine WP.bind (cs_X2_closesWith hfu (24 : Int32) F G hI (show 0 ≤ (F 10).toInt by omega) (show (24 : Int32).toInt ≠ -2 by omega)) ?_
      rintro r7 F7 G7 ⟨hI7, hB7, hT7, hS7, hp7⟩
      dsimp only
      have q_8 := hI7.r 10 rfl
      have e_9 : (F7 10).toInt = (F 10).toInt - 1 := hp7
      unfold cb_X4_elements_149
      refine WP.ret ?_
      have q_10 := i_rng (F0 10)
      exact ⟨hI7, (KB.tr hB hB7), (KT.tr hT hT7), (show (F7 10).toInt = (F0 10).toInt by omega), trivial⟩
    · skip
      have l_11 : (4001 : Int32).toInt = 4001 := rfl
      have q_12 := i_rng x5
      have e_13 := mt i_le.mpr (show ¬ ((4001 : Int32) ≤ x5) from c_1)
      unfold cb_X4_elements_27
      refine WP.ite (fun c_14 => ?_) (fun c_14 => ?_)
      · skip
        have q_15 := i_rng x4
        have l_16 : (0 : Int32).toInt = 0 := rfl
        have e_17 := i_eq.mp (show x4 = (0 : Int32) from c_14)
        unfold cb_X4_elements_140
        have l_18 : (24 : Int32).toInt = 24 := rfl
        have q_19 := hI.r 10 rfl
        refine WP.bind (cs_X2_closesWith hfu (24 : Int32) F G hI (show 0 ≤ (F 10).toInt by omega) (show (24 : Int32).toInt ≠ -2 by omega)) ?_
        rintro r20 F20 G20 ⟨hI20, hB20, hT20, hS20, hp20⟩
        dsimp only
        have q_21 := hI20.r 10 rfl
        have e_22 : (F20 10).toInt = (F 10).toInt - 1 := hp20
        unfold cb_X4_elements_149
        refine WP.ret ?_
        have q_23 := i_rng (F0 10)
        exact ⟨hI20, (KB.tr hB hB20), (KT.tr hT hT20), (show (F20 10).toInt = (F0 10).toInt by omega), trivial⟩
      · skip
        have q_24 := i_rng x4
        have l_25 : (0 : Int32).toInt = 0 := rfl
        have e_26 := mt i_eq.mpr (show ¬ (x4 = (0 : Int32)) from c_14)
        unfold cb_X4_elements_32
        refine WP.bind (cs_X3_constant hfu F G hI) ?_
        rintro r27 F27 G27 ⟨hI27, hB27, hT27, hO27, hp27⟩
        dsimp only
        have q_28 := hI.r 10 rfl
        have q_29 := hI27.r 10 rfl
        have e_30 : (F27 10).toInt = (F 10).toInt := hO27
        unfold cb_X4_elements_48
        refine WP.ite (fun c_31 => ?_) (fun c_31 => ?_)
        · skip
          have q_32 := i_rng x3
          have e_33 := i_lt.mp (show x5 < x3 from c_31)
          unfold cb_X4_elements_70
          refine WP.ite (fun c_34 => ?_) (fun c_34 => ?_)
          · skip
            have q_35 := i_rng x1
            have l_36 : (2 : Int32).toInt = 2 := rfl
            have e_37 := i_eq.mp (show x1 = (2 : Int32) from c_34)
            unfold cb_X4_elements_75
            have q_38 := i_rng x2
            first | have e_39 : (x2 + x5).toInt = x2.toInt + (x5.toInt) := i_addn x2 rfl (by omega) (by omega) | have e_40 := i_rng (x2 + x5)
            have q_41 := i_rng r27
            refine WP.bind (cs_X8_tellInt hfu (x2 + x5) r27 F27 G27 hI27) ?_
            rintro r42 F42 G42 ⟨hI42, hB42, hT42, hO42, hK42, hp42⟩
            dsimp only
            have q_43 := hI42.r 10 rfl
            have e_44 : (F42 10).toInt = (F27 10).toInt := hO42
            unfold cb_X4_elements_88
            unfold cb_X4_elements_103
            refine WP.ite (fun c_45 => ?_) (fun c_45 => ?_)
            · skip
              have q_46 := i_rng (F42 11)
              have l_47 : (25 : Int32).toInt = 25 := rfl
              have e_48 := i_eq.mp (show (F42 11) = (25 : Int32) from c_45)
              unfold cb_X4_elements_115
              unfold cb_X4_elements_120
              refine WP.ite (fun c_49 => absurd c_49 (by decide)) (fun _ => ?_)
              unfold cb_X4_elements_127
              refine WP.bind (cs_X2_next hfu F42 G42 hI42) ?_
              rintro r50 F50 G50 ⟨hI50, hB50, hT50, hO50, hp50⟩
              dsimp only
              have q_51 := hI50.r 10 rfl
              have e_52 : (F50 10).toInt = (F42 10).toInt := hO50
              unfold cb_X4_elements_134
              have l_53 : (1 : Int32).toInt = 1 := rfl
              first | have e_54 : (x5 + (1 : Int32)).toInt = x5.toInt + (1) := i_addn x5 rfl (by omega) (by omega) | have e_55 := i_rng (x5 + (1 : Int32))
              exact ihn x1 x2 x3 (1 : Int32) (x5 + (1 : Int32)) F50 G50 hI50 (KB.tr (KB.tr (KB.tr hB hB27) hB42) hB50) (KT.tr (KT.tr (KT.tr hT hT27) hT42) hT50) (show (F50 10).toInt = (F0 10).toInt + 1 by omega) (show -1 ≤ (F0 10).toInt by omega) (by omega)
            · skip
              have q_56 := i_rng (F42 11)
              have l_57 : (25 : Int32).toInt = 25 := rfl
              have e_58 := mt i_eq.mpr (show ¬ ((F42 11) = (25 : Int32)) from c_45)
              unfold cb_X4_elements_119
              unfold cb_X4_elements_120
              refine WP.ite (fun _ => ?_) (fun c_59 => absurd (by decide) c_59)
              unfold cb_X4_elements_134
              first | have e_60 : (x5 + (1 : Int32)).toInt = x5.toInt + (1) := i_addn x5 rfl (by omega) (by omega) | have e_61 := i_rng (x5 + (1 : Int32))
              exact ihn x1 x2 x3 (0 : Int32) (x5 + (1 : Int32)) F42 G42 hI42 (KB.tr (KB.tr hB hB27) hB42) (KT.tr (KT.tr hT hT27) hT42) (show (F42 10).toInt = (F0 10).toInt + 1 by omega) (show -1 ≤ (F0 10).toInt by omega) (by omega)
          · skip
            have q_62 := i_rng x1
            have l_63 : (2 : Int32).toInt = 2 := rfl
            have e_64 := mt i_eq.mpr (show ¬ (x1 = (2 : Int32)) from c_34)
            unfold cb_X4_elements_91
            have q_65 := i_rng x2
            have q_66 := i_rng r27
            refine WP.bind (cs_X8_tellByte hfu x2 x5 r27 F27 G27 hI27) ?_
            rintro r67 F67 G67 ⟨hI67, hB67, hT67, hO67, hK67, hp67⟩
            dsimp only
            have q_68 := hI67.r 10 rfl
            have e_69 : (F67 10).toInt = (F27 10).toInt := hO67
            unfold cb_X4_elements_103
            refine WP.ite (fun c_70 => ?_) (fun c_70 => ?_)
            · skip
              have q_71 := i_rng (F67 11)
              have l_72 : (25 : Int32).toInt = 25 := rfl
              have e_73 := i_eq.mp (show (F67 11) = (25 : Int32) from c_70)
              unfold cb_X4_elements_115
              unfold cb_X4_elements_120
              refine WP.ite (fun c_74 => absurd c_74 (by decide)) (fun _ => ?_)
              unfold cb_X4_elements_127
              refine WP.bind (cs_X2_next hfu F67 G67 hI67) ?_
              rintro r75 F75 G75 ⟨hI75, hB75, hT75, hO75, hp75⟩
              dsimp only
              have q_76 := hI75.r 10 rfl
              have e_77 : (F75 10).toInt = (F67 10).toInt := hO75
              unfold cb_X4_elements_134
              have l_78 : (1 : Int32).toInt = 1 := rfl
              first | have e_79 : (x5 + (1 : Int32)).toInt = x5.toInt + (1) := i_addn x5 rfl (by omega) (by omega) | have e_80 := i_rng (x5 + (1 : Int32))
              exact ihn x1 x2 x3 (1 : Int32) (x5 + (1 : Int32)) F75 G75 hI75 (KB.tr (KB.tr (KB.tr hB hB27) hB67) hB75) (KT.tr (KT.tr (KT.tr hT hT27) hT67) hT75) (show (F75 10).toInt = (F0 10).toInt + 1 by omega) (show -1 ≤ (F0 10).toInt by omega) (by omega)
            · skip
              have q_81 := i_rng (F67 11)
              have l_82 : (25 : Int32).toInt = 25 := rfl
              have e_83 := mt i_eq.mpr (show ¬ ((F67 11) = (25 : Int32)) from c_70)
              unfold cb_X4_elements_119
              unfold cb_X4_elements_120
              refine WP.ite (fun _ => ?_) (fun c_84 => absurd (by decide) c_84)
              unfold cb_X4_elements_134
              first | have e_85 : (x5 + (1 : Int32)).toInt = x5.toInt + (1) := i_addn x5 rfl (by omega) (by omega) | have e_86 := i_rng (x5 + (1 : Int32))
              exact ihn x1 x2 x3 (0 : Int32) (x5 + (1 : Int32)) F67 G67 hI67 (KB.tr (KB.tr hB hB27) hB67) (KT.tr (KT.tr hT hT27) hT67) (show (F67 10).toInt = (F0 10).toInt + 1 by omega) (show -1 ≤ (F0 10).toInt by omega) (by omega)
        · skip
          have q_87 := i_rng x3
          have e_88 := mt i_lt.mpr (show ¬ (x5 < x3) from c_31)
          unfold cb_X4_elements_56
          have l_89 : (7 : Int32).toInt = 7 := rfl
          have q_90 := i_rng (F 13)
          refine WP.bind (cs_X5_note hfu (7 : Int32) (F 13) F27 G27 hI27) ?_
          rintro r91 F91 G91 ⟨hI91, hB91, hT91, hO91, hK91, hp91⟩
          dsimp only
          have q_92 := hI91.r 10 rfl
          have e_93 : (F91 10).toInt = (F27 10).toInt := hO91
          unfold cb_X4_elements_67
          unfold cb_X4_elements_103
          refine WP.ite (fun c_94 => ?_) (fun c_94 => ?_)
          · skip
            have q_95 := i_rng (F91 11)
            have l_96 : (25 : Int32).toInt = 25 := rfl
            have e_97 := i_eq.mp (show (F91 11) = (25 : Int32) from c_94)
            unfold cb_X4_elements_115
            unfold cb_X4_elements_120
            refine WP.ite (fun c_98 => absurd c_98 (by decide)) (fun _ => ?_)
            unfold cb_X4_elements_127
            refine WP.bind (cs_X2_next hfu F91 G91 hI91) ?_
            rintro r99 F99 G99 ⟨hI99, hB99, hT99, hO99, hp99⟩
            dsimp only
            have q_100 := hI99.r 10 rfl
            have e_101 : (F99 10).toInt = (F91 10).toInt := hO99
            unfold cb_X4_elements_134
            have q_102 := i_rng x1
            have q_103 := i_rng x2
            have l_104 : (1 : Int32).toInt = 1 := rfl
            first | have e_105 : (x5 + (1 : Int32)).toInt = x5.toInt + (1) := i_addn x5 rfl (by omega) (by omega) | have e_106 := i_rng (x5 + (1 : Int32))
            exact ihn x1 x2 x3 (1 : Int32) (x5 + (1 : Int32)) F99 G99 hI99 (KB.tr (KB.tr (KB.tr hB hB27) hB91) hB99) (KT.tr (KT.tr (KT.tr hT hT27) hT91) hT99) (show (F99 10).toInt = (F0 10).toInt + 1 by omega) (show -1 ≤ (F0 10).toInt by omega) (by omega)
          · skip
            have q_107 := i_rng (F91 11)
            have l_108 : (25 : Int32).toInt = 25 := rfl
            have e_109 := mt i_eq.mpr (show ¬ ((F91 11) = (25 : Int32)) from c_94)
            unfold cb_X4_elements_119
            unfold cb_X4_elements_120
            refine WP.ite (fun _ => ?_) (fun c_110 => absurd (by decide) c_110)
            unfold cb_X4_elements_134
            have q_111 := i_rng x1
            have q_112 := i_rng x2
            first | have e_113 : (x5 + (1 : Int32)).toInt = x5.toInt + (1) := i_addn x5 rfl (by omega) (by omega) | have e_114 := i_rng (x5 + (1 : Int32))
            exact ihn x1 x2 x3 (0 : Int32) (x5 + (1 : Int32)) F91 G91 hI91 (KB.tr (KB.tr hB hB27) hB91) (KT.tr (KT.tr hT hT27) hT91) (show (F91 10).toInt = (F0 10).toInt + 1 by omega) (show -1 ≤ (F0 10).toInt by omega) (by omega)
theorem cs_X4_elements {fu : Nat} (hfu : 8589934592 ≤ fu) (x1 : Int32) (x2 : Int32) (x3 : Int32) (F : PF) (G : PG) (hI : CI F G) : WP (cf_X4_elements fu x1 x2 x3 F G) (fun r' F' G' => CI F' G' ∧ KB F G F' G' ∧ KT F F' ∧ KO F F' ∧ True) := by
  unfold cf_X4_elements
  unfold cb_X4_elements_0
  have l_1 : (23 : Int32).toInt = 23 := rfl
  refine WP.bind (cs_X2_opens hfu (23 : Int32) F G hI (show (23 : Int32).toInt ≠ -2 by omega)) ?_
  rintro r2 F2 G2 ⟨hI2, hB2, hT2, hS2, hp2⟩
  dsimp only
  have q_3 := b_rng (hp2.1)
  have q_4 := hI.r 10 rfl
  have q_5 := hI2.r 10 rfl
  have q_6 := i_rng (F 11)
  have e_7 : r2.toInt = 1 → (F2 10).toInt = (F 10).toInt + 1 ∧ (F 10).toInt < 40 ∧ (F 11).toInt ≠ -2 := hp2.2.1
  have e_8 : r2.toInt = 0 → (F2 10).toInt = (F 10).toInt ∧ (F2 11).toInt = -2 := hp2.2.2
  unfold cb_X4_elements_9
  refine WP.ite (fun c_9 => ?_) (fun c_9 => ?_)
  · skip
    have l_10 : (0 : Int32).toInt = 0 := rfl
    have e_11 := i_eq.mp (show r2 = (0 : Int32) from c_9)
    unfold cb_X4_elements_12
    refine WP.ret ?_
    exact ⟨hI2, (KB.tr (KB.rf : KB F G F G) hB2), (KT.tr (rfl : KT F F) hT2), (show (F2 10).toInt = (F 10).toInt by omega), trivial⟩
  · skip
    have l_12 : (0 : Int32).toInt = 0 := rfl
    have e_13 := mt i_eq.mpr (show ¬ (r2 = (0 : Int32)) from c_9)
    unfold cb_X4_elements_13
    have q_14 := i_rng x1
    have q_15 := i_rng x2
    have q_16 := i_rng x3
    have l_17 : (1 : Int32).toInt = 1 := rfl
    exact cz_X4_elements_19 (F0 := F) (G0 := G) hfu fu x1 x2 x3 (1 : Int32) (0 : Int32) F2 G2 hI2 (KB.tr (KB.rf : KB F G F G) hB2) (KT.tr (rfl : KT F F) hT2) (show (F2 10).toInt = (F 10).toInt + 1 by omega) (show -1 ≤ (F 10).toInt by omega) (by omega)
theorem cs_X4_globalArray {fu : Nat} (hfu : 8589934592 ≤ fu) (x1 : Int32) (x2 : Int32) (x3 : Int32) (F : PF) (G : PG) (hI : CI F G) : WP (cf_X4_globalArray fu x1 x2 x3 F G) (fun r' F' G' => CI F' G' ∧ KB F G F' G' ∧ KT F F' ∧ KO F F' ∧ True) := by
  unfold cf_X4_globalArray
  unfold cb_X4_globalArray_0
  refine WP.bind (cs_X3_arraySize hfu F G hI) ?_
  rintro r1 F1 G1 ⟨hI1, hB1, hT1, hO1, hp1⟩
  dsimp only
  have q_2 := hI.r 10 rfl
  have q_3 := hI1.r 10 rfl
  have e_4 : (F1 10).toInt = (F 10).toInt := hO1
  unfold cb_X4_globalArray_7
  have q_5 := i_rng x3
  have q_6 := i_rng r1
  refine WP.bind (cs_X4_wordsOf hfu x3 r1 F1 G1 hI1) ?_
  rintro r7 _ _ ⟨rfl, rfl, hp7⟩
  dsimp only
  unfold cb_X4_globalArray_19
  have q_8 := i_rng r7
  have q_9 := i_rng x2
  refine WP.bind (cs_X5_globalRoom hfu r7 x2 F1 G1 hI1) ?_
  rintro r10 F10 G10 ⟨hI10, hB10, hT10, hO10, hK10, hp10⟩
  dsimp only
  have q_11 := hI10.r 10 rfl
  have e_12 : (F10 10).toInt = (F1 10).toInt := hO10
  unfold cb_X4_globalArray_23
  refine WP.ite (fun c_13 => ?_) (fun c_13 => ?_)
  · skip
    have q_14 := i_rng (F10 11)
    have l_15 : (29 : Int32).toInt = 29 := rfl
    have e_16 := i_eq.mp (show (F10 11) = (29 : Int32) from c_13)
    unfold cb_X4_globalArray_37
    refine WP.bind (cs_X2_next hfu F10 G10 hI10) ?_
    rintro r17 F17 G17 ⟨hI17, hB17, hT17, hO17, hp17⟩
    dsimp only
    have q_18 := hI17.r 10 rfl
    have e_19 : (F17 10).toInt = (F10 10).toInt := hO17
    unfold cb_X4_globalArray_44
    have q_20 := i_rng r10
    refine WP.bind (cs_X4_elements hfu x3 r10 r1 F17 G17 hI17) ?_
    rintro r21 F21 G21 ⟨hI21, hB21, hT21, hO21, hp21⟩
    dsimp only
    have q_22 := hI21.r 10 rfl
    have e_23 : (F21 10).toInt = (F17 10).toInt := hO21
    unfold cb_X4_globalArray_53
    have l_24 : (26 : Int32).toInt = 26 := rfl
    refine WP.bind (cs_X2_expect hfu (26 : Int32) F21 G21 hI21 (show (26 : Int32).toInt ≠ -2 by omega)) ?_
    rintro r25 F25 G25 ⟨hI25, hB25, hT25, hO25, hS25, hp25⟩
    dsimp only
    have q_26 := hI25.r 10 rfl
    have e_27 : (F25 10).toInt = (F21 10).toInt := hO25
    unfold cb_X4_globalArray_62
    have q_28 := i_rng x1
    refine WP.bind (cs_X5_tell hfu x1 x2 x3 r10 r1 F25 G25 hI25) ?_
    rintro r29 F29 G29 ⟨hI29, hB29, hT29, hO29, hK29, hp29⟩
    dsimp only
    have q_30 := hI29.r 10 rfl
    have e_31 : (F29 10).toInt = (F25 10).toInt := hO29
    unfold cb_X4_globalArray_76
    refine WP.ret ?_
    exact ⟨hI29, (KB.tr (KB.tr (KB.tr (KB.tr (KB.tr (KB.tr (KB.rf : KB F G F G) hB1) hB10) hB17) hB21) hB25) hB29), (KT.tr (KT.tr (KT.tr (KT.tr (KT.tr (KT.tr (rfl : KT F F) hT1) hT10) hT17) hT21) hT25) hT29), (KO.tr (KO.tr (KO.tr (KO.tr (KO.tr (KO.tr (rfl : KO F F) hO1) hO10) hO17) hO21) hO25) hO29), trivial⟩
  · skip
    have q_32 := i_rng (F10 11)
    have l_33 : (29 : Int32).toInt = 29 := rfl
    have e_34 := mt i_eq.mpr (show ¬ ((F10 11) = (29 : Int32)) from c_13)
    unfold cb_X4_globalArray_53
    have l_35 : (26 : Int32).toInt = 26 := rfl
    refine WP.bind (cs_X2_expect hfu (26 : Int32) F10 G10 hI10 (show (26 : Int32).toInt ≠ -2 by omega)) ?_
    rintro r36 F36 G36 ⟨hI36, hB36, hT36, hO36, hS36, hp36⟩
    dsimp only
    have q_37 := hI36.r 10 rfl
    have e_38 : (F36 10).toInt = (F10 10).toInt := hO36
    unfold cb_X4_globalArray_62
    have q_39 := i_rng x1
    have q_40 := i_rng r10
    refine WP.bind (cs_X5_tell hfu x1 x2 x3 r10 r1 F36 G36 hI36) ?_
    rintro r41 F41 G41 ⟨hI41, hB41, hT41, hO41, hK41, hp41⟩
    dsimp only
    have q_42 := hI41.r 10 rfl
    have e_43 : (F41 10).toInt = (F36 10).toInt := hO41
    unfold cb_X4_globalArray_76
    refine WP.ret ?_
    exact ⟨hI41, (KB.tr (KB.tr (KB.tr (KB.tr (KB.rf : KB F G F G) hB1) hB10) hB36) hB41), (KT.tr (KT.tr (KT.tr (KT.tr (rfl : KT F F) hT1) hT10) hT36) hT41), (KO.tr (KO.tr (KO.tr (KO.tr (rfl : KO F F) hO1) hO10) hO36) hO41), trivial⟩
theorem cs_X4_kindWord {fu : Nat} (hfu : 8589934592 ≤ fu) (x1 : Int32) (F : PF) (G : PG) (hI : CI F G) (hz_x1 : x1 = 0 ∨ x1 = 1) : WP (cf_X4_kindWord fu x1 F G) (fun r' F' G' => CI F' G' ∧ KB F G F' G' ∧ KT F F' ∧ KO F F' ∧ True) := by
  have q_x1 := b_rng hz_x1
  unfold cf_X4_kindWord
  unfold cb_X4_kindWord_0
  refine WP.ite (fun c_1 => ?_) (fun c_1 => ?_)
  · skip
    have q_2 := i_rng (F 11)
    have l_3 : (4 : Int32).toInt = 4 := rfl
    have e_4 := i_eq.mp (show (F 11) = (4 : Int32) from c_1)
    unfold cb_X4_kindWord_28
    refine WP.bind (cs_X2_next hfu F G hI) ?_
    rintro r5 F5 G5 ⟨hI5, hB5, hT5, hO5, hp5⟩
    dsimp only
    have q_6 := hI.r 10 rfl
    have q_7 := hI5.r 10 rfl
    have e_8 : (F5 10).toInt = (F 10).toInt := hO5
    unfold cb_X4_kindWord_35
    unfold cb_X4_kindWord_46
    refine WP.ret ?_
    exact ⟨hI5, (KB.tr (KB.rf : KB F G F G) hB5), (KT.tr (rfl : KT F F) hT5), (KO.tr (rfl : KO F F) hO5), trivial⟩
  · skip
    have q_9 := i_rng (F 11)
    have l_10 : (4 : Int32).toInt = 4 := rfl
    have e_11 := mt i_eq.mpr (show ¬ ((F 11) = (4 : Int32)) from c_1)
    unfold cb_X4_kindWord_13
    refine WP.ite (fun c_12 => ?_) (fun c_12 => ?_)
    · skip
      have q_13 := i_rng x1
      have l_14 : (0 : Int32).toInt = 0 := rfl
      have e_15 := i_eq.mp (show x1 = (0 : Int32) from c_12)
      unfold cb_X4_kindWord_17
      refine WP.ite (fun c_16 => ?_) (fun c_16 => ?_)
      · skip
        have l_17 : (5 : Int32).toInt = 5 := rfl
        have e_18 := i_eq.mp (show (F 11) = (5 : Int32) from c_16)
        unfold cb_X4_kindWord_28
        refine WP.bind (cs_X2_next hfu F G hI) ?_
        rintro r19 F19 G19 ⟨hI19, hB19, hT19, hO19, hp19⟩
        dsimp only
        have q_20 := hI.r 10 rfl
        have q_21 := hI19.r 10 rfl
        have e_22 : (F19 10).toInt = (F 10).toInt := hO19
        unfold cb_X4_kindWord_35
        unfold cb_X4_kindWord_46
        refine WP.ret ?_
        exact ⟨hI19, (KB.tr (KB.rf : KB F G F G) hB19), (KT.tr (rfl : KT F F) hT19), (KO.tr (rfl : KO F F) hO19), trivial⟩
      · skip
        have l_23 : (5 : Int32).toInt = 5 := rfl
        have e_24 := mt i_eq.mpr (show ¬ ((F 11) = (5 : Int32)) from c_16)
        unfold cb_X4_kindWord_22
        refine WP.ite (fun c_25 => ?_) (fun c_25 => ?_)
        · skip
          have l_26 : (6 : Int32).toInt = 6 := rfl
          have e_27 := i_eq.mp (show (F 11) = (6 : Int32) from c_25)
          unfold cb_X4_kindWord_28
          refine WP.bind (cs_X2_next hfu F G hI) ?_
          rintro r28 F28 G28 ⟨hI28, hB28, hT28, hO28, hp28⟩
          dsimp only
          have q_29 := hI.r 10 rfl
          have q_30 := hI28.r 10 rfl
          have e_31 : (F28 10).toInt = (F 10).toInt := hO28
          unfold cb_X4_kindWord_35
          unfold cb_X4_kindWord_46
          refine WP.ret ?_
          exact ⟨hI28, (KB.tr (KB.rf : KB F G F G) hB28), (KT.tr (rfl : KT F F) hT28), (KO.tr (rfl : KO F F) hO28), trivial⟩
        · skip
          have l_32 : (6 : Int32).toInt = 6 := rfl
          have e_33 := mt i_eq.mpr (show ¬ ((F 11) = (6 : Int32)) from c_25)
          unfold cb_X4_kindWord_38
          have l_34 : (2 : Int32).toInt = 2 := rfl
          refine WP.bind (cs_X2_fail hfu (2 : Int32) F G hI) ?_
          rintro r35 F35 G35 ⟨hI35, hB35, hT35, hO35, hp35⟩
          dsimp only
          have q_36 := hI.r 10 rfl
          have q_37 := hI35.r 10 rfl
          have e_38 : (F35 10).toInt = (F 10).toInt := hO35
          have q_39 := i_rng (F35 11)
          have e_40 : (F35 11).toInt = -2 := hp35
          unfold cb_X4_kindWord_46
          refine WP.ret ?_
          exact ⟨hI35, (KB.tr (KB.rf : KB F G F G) hB35), (KT.tr (rfl : KT F F) hT35), (KO.tr (rfl : KO F F) hO35), trivial⟩
    · skip
      have q_41 := i_rng x1
      have l_42 : (0 : Int32).toInt = 0 := rfl
      have e_43 := mt i_eq.mpr (show ¬ (x1 = (0 : Int32)) from c_12)
      unfold cb_X4_kindWord_38
      have l_44 : (2 : Int32).toInt = 2 := rfl
      refine WP.bind (cs_X2_fail hfu (2 : Int32) F G hI) ?_
      rintro r45 F45 G45 ⟨hI45, hB45, hT45, hO45, hp45⟩
      dsimp only
      have q_46 := hI.r 10 rfl
      have q_47 := hI45.r 10 rfl
      have e_48 : (F45 10).toInt = (F 10).toInt := hO45
      have q_49 := i_rng (F45 11)
      have e_50 : (F45 11).toInt = -2 := hp45
      unfold cb_X4_kindWord_46
      refine WP.ret ?_
      exact ⟨hI45, (KB.tr (KB.rf : KB F G F G) hB45), (KT.tr (rfl : KT F F) hT45), (KO.tr (rfl : KO F F) hO45), trivial⟩
theorem cz_X4_walk_7 {fu : Nat} (hfu : 8589934592 ≤ fu) {F0 : PF} {G0 : PG} : ∀ (n : Nat) (x1 : Int32) (x2 : Int32) (F : PF) (G : PG) (hI : CI F G) (hB : KB F0 G0 F G) (hT : KT F0 F) (i_0 : 0 ≤ (F 10).toInt ∨ (F 11).toInt = -2) (hn : (2147483647 - x2.toInt).toNat < n), WP (cl_X4_walk_7 fu n x1 x2 F G) (fun r' F' G' => CI F' G' ∧ KB F0 G0 F' G' ∧ KT F0 F' ∧ True) := by
  intro n
  induction n with
  | zero =>
    intro x1 x2 F G hI hB hT i_0 hn
    exact absurd hn (Nat.not_lt_zero _)
  | succ n ihn =>
    intro x1 x2 F G hI hB hT i_0 hn
    show WP (cb_X4_walk_7 fu (cl_X4_walk_7 fu n)  x1 x2 F G) _
    unfold cb_X4_walk_7
    refine WP.ite (fun c_1 => ?_) (fun c_1 => ?_)
    · skip
      have l_2 : (4001 : Int32).toInt = 4001 := rfl
      have q_3 := i_rng x2
      have e_4 := i_le.mp (show (4001 : Int32) ≤ x2 from c_1)
      unfold cb_X4_walk_251
      refine WP.ite (fun c_5 => ?_) (fun c_5 => ?_)
      · skip
        have q_6 := i_rng (F 76)
        have l_7 : (-1 : Int32).toInt = -1 := rfl
        have e_8 := i_eq.mp (show (F 76) = (-1 : Int32) from c_5)
        unfold cb_X4_walk_262
        have l_9 : (9 : Int32).toInt = 9 := rfl
        have q_10 := i_rng (F 13)
        refine WP.bind (cs_X5_note hfu (9 : Int32) (F 13) F G hI) ?_
        rintro r11 F11 G11 ⟨hI11, hB11, hT11, hO11, hK11, hp11⟩
        dsimp only
        have q_12 := i_rng (F 11)
        have q_13 := i_rng (F11 11)
        have e_14 : (F11 11).toInt = (F 11).toInt := congrArg Int32.toInt hK11
        have q_15 := hI.r 10 rfl
        have q_16 := hI11.r 10 rfl
        have e_17 : (F11 10).toInt = (F 10).toInt := hO11
        unfold cb_X4_walk_278
        refine WP.ite (fun c_18 => ?_) (fun c_18 => ?_)
        · skip
          have q_19 := i_rng x1
          have l_20 : (0 : Int32).toInt = 0 := rfl
          have e_21 := i_eq.mp (show x1 = (0 : Int32) from c_18)
          unfold cb_X4_walk_292
          unfold cb_X4_walk_299
          refine WP.ret ?_
          exact ⟨hI11, (KB.tr hB hB11), (KT.tr hT hT11), trivial⟩
        · skip
          have q_22 := i_rng x1
          have l_23 : (0 : Int32).toInt = 0 := rfl
          have e_24 := mt i_eq.mpr (show ¬ (x1 = (0 : Int32)) from c_18)
          unfold cb_X4_walk_282
          refine WP.bind (cs_X5_fault hfu F11 G11 hI11) ?_
          rintro r25 _ _ ⟨rfl, rfl, hp25⟩
          dsimp only
          unfold cb_X4_walk_289
          unfold cb_X4_walk_299
          refine WP.ret ?_
          exact ⟨hI11, (KB.tr hB hB11), (KT.tr hT hT11), trivial⟩
      · skip
        have q_26 := i_rng (F 76)
        have l_27 : (-1 : Int32).toInt = -1 := rfl
        have e_28 := mt i_eq.mpr (show ¬ ((F 76) = (-1 : Int32)) from c_5)
        unfold cb_X4_walk_278
        refine WP.ite (fun c_29 => ?_) (fun c_29 => ?_)
        · skip
          have q_30 := i_rng x1
          have l_31 : (0 : Int32).toInt = 0 := rfl
          have e_32 := i_eq.mp (show x1 = (0 : Int32) from c_29)
          unfold cb_X4_walk_292
          unfold cb_X4_walk_299
          refine WP.ret ?_
          exact ⟨hI, hB, hT, trivial⟩
        · skip
          have q_33 := i_rng x1
          have l_34 : (0 : Int32).toInt = 0 := rfl
          have e_35 := mt i_eq.mpr (show ¬ (x1 = (0 : Int32)) from c_29)
          unfold cb_X4_walk_282
          refine WP.bind (cs_X5_fault hfu F G hI) ?_
          rintro r36 _ _ ⟨rfl, rfl, hp36⟩
          dsimp only
          unfold cb_X4_walk_289
          unfold cb_X4_walk_299
          refine WP.ret ?_
          exact ⟨hI, hB, hT, trivial⟩
    · skip
      have l_37 : (4001 : Int32).toInt = 4001 := rfl
      have q_38 := i_rng x2
      have e_39 := mt i_le.mpr (show ¬ ((4001 : Int32) ≤ x2) from c_1)
      unfold cb_X4_walk_14
      refine WP.ite (fun c_40 => ?_) (fun c_40 => ?_)
      · skip
        have q_41 := i_rng (F 11)
        have l_42 : (0 : Int32).toInt = 0 := rfl
        have e_43 := i_eq.mp (show (F 11) = (0 : Int32) from c_40)
        unfold cb_X4_walk_251
        refine WP.ite (fun c_44 => ?_) (fun c_44 => ?_)
        · skip
          have q_45 := i_rng (F 76)
          have l_46 : (-1 : Int32).toInt = -1 := rfl
          have e_47 := i_eq.mp (show (F 76) = (-1 : Int32) from c_44)
          unfold cb_X4_walk_262
          have l_48 : (9 : Int32).toInt = 9 := rfl
          have q_49 := i_rng (F 13)
          refine WP.bind (cs_X5_note hfu (9 : Int32) (F 13) F G hI) ?_
          rintro r50 F50 G50 ⟨hI50, hB50, hT50, hO50, hK50, hp50⟩
          dsimp only
          have q_51 := i_rng (F50 11)
          have e_52 : (F50 11).toInt = (F 11).toInt := congrArg Int32.toInt hK50
          have q_53 := hI.r 10 rfl
          have q_54 := hI50.r 10 rfl
          have e_55 : (F50 10).toInt = (F 10).toInt := hO50
          unfold cb_X4_walk_278
          refine WP.ite (fun c_56 => ?_) (fun c_56 => ?_)
          · skip
            have q_57 := i_rng x1
            have e_58 := i_eq.mp (show x1 = (0 : Int32) from c_56)
            unfold cb_X4_walk_292
            unfold cb_X4_walk_299
            refine WP.ret ?_
            exact ⟨hI50, (KB.tr hB hB50), (KT.tr hT hT50), trivial⟩
          · skip
            have q_59 := i_rng x1
            have e_60 := mt i_eq.mpr (show ¬ (x1 = (0 : Int32)) from c_56)
            unfold cb_X4_walk_282
            refine WP.bind (cs_X5_fault hfu F50 G50 hI50) ?_
            rintro r61 _ _ ⟨rfl, rfl, hp61⟩
            dsimp only
            unfold cb_X4_walk_289
            unfold cb_X4_walk_299
            refine WP.ret ?_
            exact ⟨hI50, (KB.tr hB hB50), (KT.tr hT hT50), trivial⟩
        · skip
          have q_62 := i_rng (F 76)
          have l_63 : (-1 : Int32).toInt = -1 := rfl
          have e_64 := mt i_eq.mpr (show ¬ ((F 76) = (-1 : Int32)) from c_44)
          unfold cb_X4_walk_278
          refine WP.ite (fun c_65 => ?_) (fun c_65 => ?_)
          · skip
            have q_66 := i_rng x1
            have e_67 := i_eq.mp (show x1 = (0 : Int32) from c_65)
            unfold cb_X4_walk_292
            unfold cb_X4_walk_299
            refine WP.ret ?_
            exact ⟨hI, hB, hT, trivial⟩
          · skip
            have q_68 := i_rng x1
            have e_69 := mt i_eq.mpr (show ¬ (x1 = (0 : Int32)) from c_65)
            unfold cb_X4_walk_282
            refine WP.bind (cs_X5_fault hfu F G hI) ?_
            rintro r70 _ _ ⟨rfl, rfl, hp70⟩
            dsimp only
            unfold cb_X4_walk_289
            unfold cb_X4_walk_299
            refine WP.ret ?_
            exact ⟨hI, hB, hT, trivial⟩
      · skip
        have q_71 := i_rng (F 11)
        have l_72 : (0 : Int32).toInt = 0 := rfl
        have e_73 := mt i_eq.mpr (show ¬ ((F 11) = (0 : Int32)) from c_40)
        unfold cb_X4_walk_24
        refine WP.ite (fun c_74 => ?_) (fun c_74 => ?_)
        · skip
          have l_75 : (-2 : Int32).toInt = -2 := rfl
          have e_76 := i_eq.mp (show (F 11) = (-2 : Int32) from c_74)
          unfold cb_X4_walk_251
          refine WP.ite (fun c_77 => ?_) (fun c_77 => ?_)
          · skip
            have q_78 := i_rng (F 76)
            have l_79 : (-1 : Int32).toInt = -1 := rfl
            have e_80 := i_eq.mp (show (F 76) = (-1 : Int32) from c_77)
            unfold cb_X4_walk_262
            have l_81 : (9 : Int32).toInt = 9 := rfl
            have q_82 := i_rng (F 13)
            refine WP.bind (cs_X5_note hfu (9 : Int32) (F 13) F G hI) ?_
            rintro r83 F83 G83 ⟨hI83, hB83, hT83, hO83, hK83, hp83⟩
            dsimp only
            have q_84 := i_rng (F83 11)
            have e_85 : (F83 11).toInt = (F 11).toInt := congrArg Int32.toInt hK83
            have q_86 := hI.r 10 rfl
            have q_87 := hI83.r 10 rfl
            have e_88 : (F83 10).toInt = (F 10).toInt := hO83
            unfold cb_X4_walk_278
            refine WP.ite (fun c_89 => ?_) (fun c_89 => ?_)
            · skip
              have q_90 := i_rng x1
              have e_91 := i_eq.mp (show x1 = (0 : Int32) from c_89)
              unfold cb_X4_walk_292
              unfold cb_X4_walk_299
              refine WP.ret ?_
              exact ⟨hI83, (KB.tr hB hB83), (KT.tr hT hT83), trivial⟩
            · skip
              have q_92 := i_rng x1
              have e_93 := mt i_eq.mpr (show ¬ (x1 = (0 : Int32)) from c_89)
              unfold cb_X4_walk_282
              refine WP.bind (cs_X5_fault hfu F83 G83 hI83) ?_
              rintro r94 _ _ ⟨rfl, rfl, hp94⟩
              dsimp only
              unfold cb_X4_walk_289
              unfold cb_X4_walk_299
              refine WP.ret ?_
              exact ⟨hI83, (KB.tr hB hB83), (KT.tr hT hT83), trivial⟩
          · skip
            have q_95 := i_rng (F 76)
            have l_96 : (-1 : Int32).toInt = -1 := rfl
            have e_97 := mt i_eq.mpr (show ¬ ((F 76) = (-1 : Int32)) from c_77)
            unfold cb_X4_walk_278
            refine WP.ite (fun c_98 => ?_) (fun c_98 => ?_)
            · skip
              have q_99 := i_rng x1
              have e_100 := i_eq.mp (show x1 = (0 : Int32) from c_98)
              unfold cb_X4_walk_292
              unfold cb_X4_walk_299
              refine WP.ret ?_
              exact ⟨hI, hB, hT, trivial⟩
            · skip
              have q_101 := i_rng x1
              have e_102 := mt i_eq.mpr (show ¬ (x1 = (0 : Int32)) from c_98)
              unfold cb_X4_walk_282
              refine WP.bind (cs_X5_fault hfu F G hI) ?_
              rintro r103 _ _ ⟨rfl, rfl, hp103⟩
              dsimp only
              unfold cb_X4_walk_289
              unfold cb_X4_walk_299
              refine WP.ret ?_
              exact ⟨hI, hB, hT, trivial⟩
        · skip
          have l_104 : (-2 : Int32).toInt = -2 := rfl
          have e_105 := mt i_eq.mpr (show ¬ ((F 11) = (-2 : Int32)) from c_74)
          unfold cb_X4_walk_36
          refine WP.ite (fun c_106 => ?_) (fun c_106 => ?_)
          · skip
            have l_107 : (7 : Int32).toInt = 7 := rfl
            have e_108 := i_eq.mp (show (F 11) = (7 : Int32) from c_106)
            unfold cb_X4_walk_48
            unfold cb_X4_walk_53
            refine WP.ite (fun c_109 => absurd c_109 (by decide)) (fun _ => ?_)
            unfold cb_X4_walk_58
            refine WP.bind (cs_X2_next hfu F G hI) ?_
            rintro r110 F110 G110 ⟨hI110, hB110, hT110, hO110, hp110⟩
            dsimp only
            have q_111 := hI.r 10 rfl
            have q_112 := hI110.r 10 rfl
            have e_113 : (F110 10).toInt = (F 10).toInt := hO110
            unfold cb_X4_walk_65
            have l_114 : (1 : Int32).toInt = 1 := rfl
            refine WP.bind (cs_X4_kindWord hfu (1 : Int32) F110 G110 hI110 (by decide)) ?_
            rintro r115 F115 G115 ⟨hI115, hB115, hT115, hO115, hp115⟩
            dsimp only
            have q_116 := hI115.r 10 rfl
            have e_117 : (F115 10).toInt = (F110 10).toInt := hO115
            unfold cb_X4_walk_70
            have l_118 : (2 : Int32).toInt = 2 := rfl
            refine WP.bind (cs_X2_expect hfu (2 : Int32) F115 G115 hI115 (show (2 : Int32).toInt ≠ -2 by omega)) ?_
            rintro r119 F119 G119 ⟨hI119, hB119, hT119, hO119, hS119, hp119⟩
            dsimp only
            have q_120 := i_rng (F115 11)
            have q_121 := i_rng (F119 11)
            have e_122 : (F115 11).toInt = -2 → (F119 11).toInt = -2 := hS119
            have q_123 := hI119.r 10 rfl
            have e_124 : (F119 10).toInt = (F115 10).toInt := hO119
            unfold cb_X4_walk_98
            refine WP.ite (fun c_125 => absurd c_125 (by decide)) (fun _ => ?_)
            unfold cb_X4_walk_102
            have q_126 := i_rng (F115 12)
            have q_127 := i_rng (F115 13)
            refine WP.bind (cs_X4_constTold hfu (F115 12) (F115 13) F119 G119 hI119) ?_
            rintro r128 F128 G128 ⟨hI128, hB128, hT128, hO128, hp128⟩
            dsimp only
            have q_129 := hI128.r 10 rfl
            have e_130 : (F128 10).toInt = (F119 10).toInt := hO128
            unfold cb_X4_walk_110
            unfold cb_X4_walk_245
            have q_131 := i_rng x1
            first | have e_132 : (x2 + (1 : Int32)).toInt = x2.toInt + (1) := i_addn x2 rfl (by omega) (by omega) | have e_133 := i_rng (x2 + (1 : Int32))
            have q_134 := i_rng (F128 11)
            exact ihn x1 (x2 + (1 : Int32)) F128 G128 hI128 (KB.tr (KB.tr (KB.tr (KB.tr hB hB110) hB115) hB119) hB128) (KT.tr (KT.tr (KT.tr (KT.tr hT hT110) hT115) hT119) hT128) (show 0 ≤ (F128 10).toInt ∨ (F128 11).toInt = -2 by omega) (by omega)
          · skip
            have l_135 : (7 : Int32).toInt = 7 := rfl
            have e_136 := mt i_eq.mpr (show ¬ ((F 11) = (7 : Int32)) from c_106)
            unfold cb_X4_walk_52
            unfold cb_X4_walk_53
            refine WP.ite (fun _ => ?_) (fun c_137 => absurd (by decide) c_137)
            unfold cb_X4_walk_65
            refine WP.bind (cs_X4_kindWord hfu (0 : Int32) F G hI (by decide)) ?_
            rintro r138 F138 G138 ⟨hI138, hB138, hT138, hO138, hp138⟩
            dsimp only
            have q_139 := hI.r 10 rfl
            have q_140 := hI138.r 10 rfl
            have e_141 : (F138 10).toInt = (F 10).toInt := hO138
            unfold cb_X4_walk_70
            have l_142 : (2 : Int32).toInt = 2 := rfl
            refine WP.bind (cs_X2_expect hfu (2 : Int32) F138 G138 hI138 (show (2 : Int32).toInt ≠ -2 by omega)) ?_
            rintro r143 F143 G143 ⟨hI143, hB143, hT143, hO143, hS143, hp143⟩
            dsimp only
            have q_144 := i_rng (F138 11)
            have q_145 := i_rng (F143 11)
            have e_146 : (F138 11).toInt = -2 → (F143 11).toInt = -2 := hS143
            have q_147 := hI143.r 10 rfl
            have e_148 : (F143 10).toInt = (F138 10).toInt := hO143
            unfold cb_X4_walk_98
            refine WP.ite (fun _ => ?_) (fun c_149 => absurd (by decide) c_149)
            unfold cb_X4_walk_113
            refine WP.ite (fun c_150 => ?_) (fun c_150 => ?_)
            · skip
              have l_151 : (19 : Int32).toInt = 19 := rfl
              have e_152 := i_eq.mp (show (F143 11) = (19 : Int32) from c_150)
              unfold cb_X4_walk_125
              refine WP.ite (fun c_153 => ?_) (fun c_153 => ?_)
              · skip
                have q_154 := i_rng r138
                have l_155 : (5 : Int32).toInt = 5 := rfl
                have e_156 := i_eq.mp (show r138 = (5 : Int32) from c_153)
                unfold cb_X4_walk_179
                refine WP.ite (fun c_157 => ?_) (fun c_157 => ?_)
                · skip
                  have l_158 : (21 : Int32).toInt = 21 := rfl
                  have e_159 := i_eq.mp (show (F143 11) = (21 : Int32) from c_157)
                  unfold cb_X4_walk_191
                  refine WP.ite (fun c_160 => ?_) (fun c_160 => ?_)
                  · skip
                    have l_161 : (6 : Int32).toInt = 6 := rfl
                    have e_162 := i_eq.mp (show r138 = (6 : Int32) from c_160)
                    unfold cb_X4_walk_220
                    refine WP.ite (fun c_163 => ?_) (fun c_163 => ?_)
                    · skip
                      have l_164 : (4 : Int32).toInt = 4 := rfl
                      have e_165 := i_eq.mp (show r138 = (4 : Int32) from c_163)
                      unfold cb_X4_walk_226
                      have q_166 := i_rng (F138 12)
                      have q_167 := i_rng (F138 13)
                      refine WP.bind (cs_X4_globalInt hfu (F138 12) (F138 13) F143 G143 hI143) ?_
                      rintro r168 F168 G168 ⟨hI168, hB168, hT168, hO168, hp168⟩
                      dsimp only
                      have q_169 := hI168.r 10 rfl
                      have e_170 : (F168 10).toInt = (F143 10).toInt := hO168
                      unfold cb_X4_walk_234
                      unfold cb_X4_walk_245
                      have q_171 := i_rng x1
                      first | have e_172 : (x2 + (1 : Int32)).toInt = x2.toInt + (1) := i_addn x2 rfl (by omega) (by omega) | have e_173 := i_rng (x2 + (1 : Int32))
                      have q_174 := i_rng (F168 11)
                      exact ihn x1 (x2 + (1 : Int32)) F168 G168 hI168 (KB.tr (KB.tr (KB.tr hB hB138) hB143) hB168) (KT.tr (KT.tr (KT.tr hT hT138) hT143) hT168) (show 0 ≤ (F168 10).toInt ∨ (F168 11).toInt = -2 by omega) (by omega)
                    · skip
                      have l_175 : (4 : Int32).toInt = 4 := rfl
                      have e_176 := mt i_eq.mpr (show ¬ (r138 = (4 : Int32)) from c_163)
                      unfold cb_X4_walk_237
                      refine WP.bind (cs_X2_fail hfu (2 : Int32) F143 G143 hI143) ?_
                      rintro r177 F177 G177 ⟨hI177, hB177, hT177, hO177, hp177⟩
                      dsimp only
                      have q_178 := hI177.r 10 rfl
                      have e_179 : (F177 10).toInt = (F143 10).toInt := hO177
                      have q_180 := i_rng (F177 11)
                      have e_181 : (F177 11).toInt = -2 := hp177
                      unfold cb_X4_walk_245
                      have q_182 := i_rng x1
                      first | have e_183 : (x2 + (1 : Int32)).toInt = x2.toInt + (1) := i_addn x2 rfl (by omega) (by omega) | have e_184 := i_rng (x2 + (1 : Int32))
                      exact ihn x1 (x2 + (1 : Int32)) F177 G177 hI177 (KB.tr (KB.tr (KB.tr hB hB138) hB143) hB177) (KT.tr (KT.tr (KT.tr hT hT138) hT143) hT177) (show 0 ≤ (F177 10).toInt ∨ (F177 11).toInt = -2 by omega) (by omega)
                  · skip
                    have l_185 : (6 : Int32).toInt = 6 := rfl
                    have e_186 := mt i_eq.mpr (show ¬ (r138 = (6 : Int32)) from c_160)
                    unfold cb_X4_walk_198
                    refine WP.ite (fun c_187 => ?_) (fun c_187 => ?_)
                    · skip
                      have l_188 : (4 : Int32).toInt = 4 := rfl
                      have e_189 := i_eq.mp (show r138 = (4 : Int32) from c_187)
                      unfold cb_X4_walk_209
                      unfold cb_X4_walk_214
                      have q_190 := i_rng (F138 12)
                      have q_191 := i_rng (F138 13)
                      refine WP.bind (cs_X4_globalArray hfu (F138 12) (F138 13) (2 : Int32) F143 G143 hI143) ?_
                      rintro r192 F192 G192 ⟨hI192, hB192, hT192, hO192, hp192⟩
                      dsimp only
                      have q_193 := hI192.r 10 rfl
                      have e_194 : (F192 10).toInt = (F143 10).toInt := hO192
                      unfold cb_X4_walk_217
                      unfold cb_X4_walk_245
                      have q_195 := i_rng x1
                      first | have e_196 : (x2 + (1 : Int32)).toInt = x2.toInt + (1) := i_addn x2 rfl (by omega) (by omega) | have e_197 := i_rng (x2 + (1 : Int32))
                      have q_198 := i_rng (F192 11)
                      exact ihn x1 (x2 + (1 : Int32)) F192 G192 hI192 (KB.tr (KB.tr (KB.tr hB hB138) hB143) hB192) (KT.tr (KT.tr (KT.tr hT hT138) hT143) hT192) (show 0 ≤ (F192 10).toInt ∨ (F192 11).toInt = -2 by omega) (by omega)
                    · skip
                      have l_199 : (4 : Int32).toInt = 4 := rfl
                      have e_200 := mt i_eq.mpr (show ¬ (r138 = (4 : Int32)) from c_187)
                      unfold cb_X4_walk_213
                      unfold cb_X4_walk_214
                      have q_201 := i_rng (F138 12)
                      have q_202 := i_rng (F138 13)
                      have l_203 : (3 : Int32).toInt = 3 := rfl
                      refine WP.bind (cs_X4_globalArray hfu (F138 12) (F138 13) (3 : Int32) F143 G143 hI143) ?_
                      rintro r204 F204 G204 ⟨hI204, hB204, hT204, hO204, hp204⟩
                      dsimp only
                      have q_205 := hI204.r 10 rfl
                      have e_206 : (F204 10).toInt = (F143 10).toInt := hO204
                      unfold cb_X4_walk_217
                      unfold cb_X4_walk_245
                      have q_207 := i_rng x1
                      first | have e_208 : (x2 + (1 : Int32)).toInt = x2.toInt + (1) := i_addn x2 rfl (by omega) (by omega) | have e_209 := i_rng (x2 + (1 : Int32))
                      have q_210 := i_rng (F204 11)
                      exact ihn x1 (x2 + (1 : Int32)) F204 G204 hI204 (KB.tr (KB.tr (KB.tr hB hB138) hB143) hB204) (KT.tr (KT.tr (KT.tr hT hT138) hT143) hT204) (show 0 ≤ (F204 10).toInt ∨ (F204 11).toInt = -2 by omega) (by omega)
                · skip
                  have l_211 : (21 : Int32).toInt = 21 := rfl
                  have e_212 := mt i_eq.mpr (show ¬ ((F143 11) = (21 : Int32)) from c_157)
                  unfold cb_X4_walk_220
                  refine WP.ite (fun c_213 => ?_) (fun c_213 => ?_)
                  · skip
                    have l_214 : (4 : Int32).toInt = 4 := rfl
                    have e_215 := i_eq.mp (show r138 = (4 : Int32) from c_213)
                    unfold cb_X4_walk_226
                    have q_216 := i_rng (F138 12)
                    have q_217 := i_rng (F138 13)
                    refine WP.bind (cs_X4_globalInt hfu (F138 12) (F138 13) F143 G143 hI143) ?_
                    rintro r218 F218 G218 ⟨hI218, hB218, hT218, hO218, hp218⟩
                    dsimp only
                    have q_219 := hI218.r 10 rfl
                    have e_220 : (F218 10).toInt = (F143 10).toInt := hO218
                    unfold cb_X4_walk_234
                    unfold cb_X4_walk_245
                    have q_221 := i_rng x1
                    first | have e_222 : (x2 + (1 : Int32)).toInt = x2.toInt + (1) := i_addn x2 rfl (by omega) (by omega) | have e_223 := i_rng (x2 + (1 : Int32))
                    have q_224 := i_rng (F218 11)
                    exact ihn x1 (x2 + (1 : Int32)) F218 G218 hI218 (KB.tr (KB.tr (KB.tr hB hB138) hB143) hB218) (KT.tr (KT.tr (KT.tr hT hT138) hT143) hT218) (show 0 ≤ (F218 10).toInt ∨ (F218 11).toInt = -2 by omega) (by omega)
                  · skip
                    have l_225 : (4 : Int32).toInt = 4 := rfl
                    have e_226 := mt i_eq.mpr (show ¬ (r138 = (4 : Int32)) from c_213)
                    unfold cb_X4_walk_237
                    refine WP.bind (cs_X2_fail hfu (2 : Int32) F143 G143 hI143) ?_
                    rintro r227 F227 G227 ⟨hI227, hB227, hT227, hO227, hp227⟩
                    dsimp only
                    have q_228 := hI227.r 10 rfl
                    have e_229 : (F227 10).toInt = (F143 10).toInt := hO227
                    have q_230 := i_rng (F227 11)
                    have e_231 : (F227 11).toInt = -2 := hp227
                    unfold cb_X4_walk_245
                    have q_232 := i_rng x1
                    first | have e_233 : (x2 + (1 : Int32)).toInt = x2.toInt + (1) := i_addn x2 rfl (by omega) (by omega) | have e_234 := i_rng (x2 + (1 : Int32))
                    exact ihn x1 (x2 + (1 : Int32)) F227 G227 hI227 (KB.tr (KB.tr (KB.tr hB hB138) hB143) hB227) (KT.tr (KT.tr (KT.tr hT hT138) hT143) hT227) (show 0 ≤ (F227 10).toInt ∨ (F227 11).toInt = -2 by omega) (by omega)
              · skip
                have q_235 := i_rng r138
                have l_236 : (5 : Int32).toInt = 5 := rfl
                have e_237 := mt i_eq.mpr (show ¬ (r138 = (5 : Int32)) from c_153)
                unfold cb_X4_walk_131
                refine WP.ite (fun c_238 => ?_) (fun c_238 => ?_)
                · skip
                  have l_239 : (4 : Int32).toInt = 4 := rfl
                  have e_240 := i_eq.mp (show r138 = (4 : Int32) from c_238)
                  unfold cb_X4_walk_142
                  unfold cb_X4_walk_147
                  have q_241 := i_rng (F138 12)
                  have q_242 := i_rng (F138 13)
                  have l_243 : (1 : Int32).toInt = 1 := rfl
                  refine WP.bind (cs_X4_startFunction hfu (F138 12) (F138 13) (1 : Int32) F143 G143 hI143 (by decide)) ?_
                  rintro r244 F244 G244 ⟨hI244, hB244, hT244, hO244, hK244, hp244⟩
                  dsimp only
                  have q_245 := i_rng (F244 11)
                  have e_246 : (F244 11).toInt = (F143 11).toInt := congrArg Int32.toInt hK244
                  have q_247 := hI244.r 10 rfl
                  have e_248 : (F244 10).toInt = (F143 10).toInt := hO244
                  unfold cb_X4_walk_150
                  refine WP.ite (fun c_249 => ?_) (fun c_249 => ?_)
                  · skip
                    have q_250 := i_rng (F244 27)
                    have e_251 := i_eq.mp (show (F138 12) = (F244 27) from c_249)
                    unfold cb_X4_walk_160
                    unfold cb_X4_walk_165
                    refine WP.bind (cs_X4_formals hfu (1 : Int32) F244 G244 hI244 (by decide)) ?_
                    rintro r252 F252 G252 ⟨hI252, hB252, hT252, hO252, hp252⟩
                    dsimp only
                    have q_253 := hI252.r 10 rfl
                    have e_254 : (F252 10).toInt = (F244 10).toInt := hO252
                    unfold cb_X4_walk_168
                    refine WP.bind (cs_X4_block hfu F252 G252 hI252 (show 0 ≤ (F252 10).toInt by omega)) ?_
                    rintro r255 F255 G255 ⟨hI255, hB255, hT255, hS255, hp255⟩
                    dsimp only
                    have q_256 := i_rng (F252 11)
                    have q_257 := i_rng (F255 11)
                    have e_258 : (F252 11).toInt = -2 → (F255 11).toInt = -2 := hS255
                    have q_259 := hI255.r 10 rfl
                    have e_260 : (F255 10).toInt = (F252 10).toInt ∨ ((F255 10).toInt = (F252 10).toInt - 1 ∧ (F255 11).toInt = -2 ∧ (F252 11).toInt ≠ -2) := hp255
                    unfold cb_X4_walk_172
                    refine WP.bind (cs_X4_endFunction hfu F255 G255 hI255) ?_
                    rintro r261 F261 G261 ⟨hI261, hB261, hT261, hO261, hK261, hp261⟩
                    dsimp only
                    have q_262 := i_rng (F261 11)
                    have e_263 : (F261 11).toInt = (F255 11).toInt := congrArg Int32.toInt hK261
                    have q_264 := hI261.r 10 rfl
                    have e_265 : (F261 10).toInt = (F255 10).toInt := hO261
                    unfold cb_X4_walk_176
                    unfold cb_X4_walk_245
                    have q_266 := i_rng x1
                    first | have e_267 : (x2 + (1 : Int32)).toInt = x2.toInt + (1) := i_addn x2 rfl (by omega) (by omega) | have e_268 := i_rng (x2 + (1 : Int32))
                    exact ihn x1 (x2 + (1 : Int32)) F261 G261 hI261 (KB.tr (KB.tr (KB.tr (KB.tr (KB.tr (KB.tr hB hB138) hB143) hB244) hB252) hB255) hB261) (KT.tr (KT.tr (KT.tr (KT.tr (KT.tr (KT.tr hT hT138) hT143) hT244) hT252) hT255) hT261) (show 0 ≤ (F261 10).toInt ∨ (F261 11).toInt = -2 by omega) (by omega)
                  · skip
                    have q_269 := i_rng (F244 27)
                    have e_270 := mt i_eq.mpr (show ¬ ((F138 12) = (F244 27)) from c_249)
                    unfold cb_X4_walk_164
                    unfold cb_X4_walk_165
                    refine WP.bind (cs_X4_formals hfu (0 : Int32) F244 G244 hI244 (by decide)) ?_
                    rintro r271 F271 G271 ⟨hI271, hB271, hT271, hO271, hp271⟩
                    dsimp only
                    have q_272 := hI271.r 10 rfl
                    have e_273 : (F271 10).toInt = (F244 10).toInt := hO271
                    unfold cb_X4_walk_168
                    refine WP.bind (cs_X4_block hfu F271 G271 hI271 (show 0 ≤ (F271 10).toInt by omega)) ?_
                    rintro r274 F274 G274 ⟨hI274, hB274, hT274, hS274, hp274⟩
                    dsimp only
                    have q_275 := i_rng (F271 11)
                    have q_276 := i_rng (F274 11)
                    have e_277 : (F271 11).toInt = -2 → (F274 11).toInt = -2 := hS274
                    have q_278 := hI274.r 10 rfl
                    have e_279 : (F274 10).toInt = (F271 10).toInt ∨ ((F274 10).toInt = (F271 10).toInt - 1 ∧ (F274 11).toInt = -2 ∧ (F271 11).toInt ≠ -2) := hp274
                    unfold cb_X4_walk_172
                    refine WP.bind (cs_X4_endFunction hfu F274 G274 hI274) ?_
                    rintro r280 F280 G280 ⟨hI280, hB280, hT280, hO280, hK280, hp280⟩
                    dsimp only
                    have q_281 := i_rng (F280 11)
                    have e_282 : (F280 11).toInt = (F274 11).toInt := congrArg Int32.toInt hK280
                    have q_283 := hI280.r 10 rfl
                    have e_284 : (F280 10).toInt = (F274 10).toInt := hO280
                    unfold cb_X4_walk_176
                    unfold cb_X4_walk_245
                    have q_285 := i_rng x1
                    first | have e_286 : (x2 + (1 : Int32)).toInt = x2.toInt + (1) := i_addn x2 rfl (by omega) (by omega) | have e_287 := i_rng (x2 + (1 : Int32))
                    exact ihn x1 (x2 + (1 : Int32)) F280 G280 hI280 (KB.tr (KB.tr (KB.tr (KB.tr (KB.tr (KB.tr hB hB138) hB143) hB244) hB271) hB274) hB280) (KT.tr (KT.tr (KT.tr (KT.tr (KT.tr (KT.tr hT hT138) hT143) hT244) hT271) hT274) hT280) (show 0 ≤ (F280 10).toInt ∨ (F280 11).toInt = -2 by omega) (by omega)
                · skip
                  have l_288 : (4 : Int32).toInt = 4 := rfl
                  have e_289 := mt i_eq.mpr (show ¬ (r138 = (4 : Int32)) from c_238)
                  unfold cb_X4_walk_146
                  unfold cb_X4_walk_147
                  have q_290 := i_rng (F138 12)
                  have q_291 := i_rng (F138 13)
                  refine WP.bind (cs_X4_startFunction hfu (F138 12) (F138 13) (0 : Int32) F143 G143 hI143 (by decide)) ?_
                  rintro r292 F292 G292 ⟨hI292, hB292, hT292, hO292, hK292, hp292⟩
                  dsimp only
                  have q_293 := i_rng (F292 11)
                  have e_294 : (F292 11).toInt = (F143 11).toInt := congrArg Int32.toInt hK292
                  have q_295 := hI292.r 10 rfl
                  have e_296 : (F292 10).toInt = (F143 10).toInt := hO292
                  unfold cb_X4_walk_150
                  refine WP.ite (fun c_297 => ?_) (fun c_297 => ?_)
                  · skip
                    have q_298 := i_rng (F292 27)
                    have e_299 := i_eq.mp (show (F138 12) = (F292 27) from c_297)
                    unfold cb_X4_walk_160
                    unfold cb_X4_walk_165
                    have l_300 : (1 : Int32).toInt = 1 := rfl
                    refine WP.bind (cs_X4_formals hfu (1 : Int32) F292 G292 hI292 (by decide)) ?_
                    rintro r301 F301 G301 ⟨hI301, hB301, hT301, hO301, hp301⟩
                    dsimp only
                    have q_302 := hI301.r 10 rfl
                    have e_303 : (F301 10).toInt = (F292 10).toInt := hO301
                    unfold cb_X4_walk_168
                    refine WP.bind (cs_X4_block hfu F301 G301 hI301 (show 0 ≤ (F301 10).toInt by omega)) ?_
                    rintro r304 F304 G304 ⟨hI304, hB304, hT304, hS304, hp304⟩
                    dsimp only
                    have q_305 := i_rng (F301 11)
                    have q_306 := i_rng (F304 11)
                    have e_307 : (F301 11).toInt = -2 → (F304 11).toInt = -2 := hS304
                    have q_308 := hI304.r 10 rfl
                    have e_309 : (F304 10).toInt = (F301 10).toInt ∨ ((F304 10).toInt = (F301 10).toInt - 1 ∧ (F304 11).toInt = -2 ∧ (F301 11).toInt ≠ -2) := hp304
                    unfold cb_X4_walk_172
                    refine WP.bind (cs_X4_endFunction hfu F304 G304 hI304) ?_
                    rintro r310 F310 G310 ⟨hI310, hB310, hT310, hO310, hK310, hp310⟩
                    dsimp only
                    have q_311 := i_rng (F310 11)
                    have e_312 : (F310 11).toInt = (F304 11).toInt := congrArg Int32.toInt hK310
                    have q_313 := hI310.r 10 rfl
                    have e_314 : (F310 10).toInt = (F304 10).toInt := hO310
                    unfold cb_X4_walk_176
                    unfold cb_X4_walk_245
                    have q_315 := i_rng x1
                    first | have e_316 : (x2 + (1 : Int32)).toInt = x2.toInt + (1) := i_addn x2 rfl (by omega) (by omega) | have e_317 := i_rng (x2 + (1 : Int32))
                    exact ihn x1 (x2 + (1 : Int32)) F310 G310 hI310 (KB.tr (KB.tr (KB.tr (KB.tr (KB.tr (KB.tr hB hB138) hB143) hB292) hB301) hB304) hB310) (KT.tr (KT.tr (KT.tr (KT.tr (KT.tr (KT.tr hT hT138) hT143) hT292) hT301) hT304) hT310) (show 0 ≤ (F310 10).toInt ∨ (F310 11).toInt = -2 by omega) (by omega)
                  · skip
                    have q_318 := i_rng (F292 27)
                    have e_319 := mt i_eq.mpr (show ¬ ((F138 12) = (F292 27)) from c_297)
                    unfold cb_X4_walk_164
                    unfold cb_X4_walk_165
                    refine WP.bind (cs_X4_formals hfu (0 : Int32) F292 G292 hI292 (by decide)) ?_
                    rintro r320 F320 G320 ⟨hI320, hB320, hT320, hO320, hp320⟩
                    dsimp only
                    have q_321 := hI320.r 10 rfl
                    have e_322 : (F320 10).toInt = (F292 10).toInt := hO320
                    unfold cb_X4_walk_168
                    refine WP.bind (cs_X4_block hfu F320 G320 hI320 (show 0 ≤ (F320 10).toInt by omega)) ?_
                    rintro r323 F323 G323 ⟨hI323, hB323, hT323, hS323, hp323⟩
                    dsimp only
                    have q_324 := i_rng (F320 11)
                    have q_325 := i_rng (F323 11)
                    have e_326 : (F320 11).toInt = -2 → (F323 11).toInt = -2 := hS323
                    have q_327 := hI323.r 10 rfl
                    have e_328 : (F323 10).toInt = (F320 10).toInt ∨ ((F323 10).toInt = (F320 10).toInt - 1 ∧ (F323 11).toInt = -2 ∧ (F320 11).toInt ≠ -2) := hp323
                    unfold cb_X4_walk_172
                    refine WP.bind (cs_X4_endFunction hfu F323 G323 hI323) ?_
                    rintro r329 F329 G329 ⟨hI329, hB329, hT329, hO329, hK329, hp329⟩
                    dsimp only
                    have q_330 := i_rng (F329 11)
                    have e_331 : (F329 11).toInt = (F323 11).toInt := congrArg Int32.toInt hK329
                    have q_332 := hI329.r 10 rfl
                    have e_333 : (F329 10).toInt = (F323 10).toInt := hO329
                    unfold cb_X4_walk_176
                    unfold cb_X4_walk_245
                    have q_334 := i_rng x1
                    first | have e_335 : (x2 + (1 : Int32)).toInt = x2.toInt + (1) := i_addn x2 rfl (by omega) (by omega) | have e_336 := i_rng (x2 + (1 : Int32))
                    exact ihn x1 (x2 + (1 : Int32)) F329 G329 hI329 (KB.tr (KB.tr (KB.tr (KB.tr (KB.tr (KB.tr hB hB138) hB143) hB292) hB320) hB323) hB329) (KT.tr (KT.tr (KT.tr (KT.tr (KT.tr (KT.tr hT hT138) hT143) hT292) hT320) hT323) hT329) (show 0 ≤ (F329 10).toInt ∨ (F329 11).toInt = -2 by omega) (by omega)
            · skip
              have l_337 : (19 : Int32).toInt = 19 := rfl
              have e_338 := mt i_eq.mpr (show ¬ ((F143 11) = (19 : Int32)) from c_150)
              unfold cb_X4_walk_179
              refine WP.ite (fun c_339 => ?_) (fun c_339 => ?_)
              · skip
                have l_340 : (21 : Int32).toInt = 21 := rfl
                have e_341 := i_eq.mp (show (F143 11) = (21 : Int32) from c_339)
                unfold cb_X4_walk_191
                refine WP.ite (fun c_342 => ?_) (fun c_342 => ?_)
                · skip
                  have q_343 := i_rng r138
                  have l_344 : (6 : Int32).toInt = 6 := rfl
                  have e_345 := i_eq.mp (show r138 = (6 : Int32) from c_342)
                  unfold cb_X4_walk_220
                  refine WP.ite (fun c_346 => ?_) (fun c_346 => ?_)
                  · skip
                    have l_347 : (4 : Int32).toInt = 4 := rfl
                    have e_348 := i_eq.mp (show r138 = (4 : Int32) from c_346)
                    unfold cb_X4_walk_226
                    have q_349 := i_rng (F138 12)
                    have q_350 := i_rng (F138 13)
                    refine WP.bind (cs_X4_globalInt hfu (F138 12) (F138 13) F143 G143 hI143) ?_
                    rintro r351 F351 G351 ⟨hI351, hB351, hT351, hO351, hp351⟩
                    dsimp only
                    have q_352 := hI351.r 10 rfl
                    have e_353 : (F351 10).toInt = (F143 10).toInt := hO351
                    unfold cb_X4_walk_234
                    unfold cb_X4_walk_245
                    have q_354 := i_rng x1
                    first | have e_355 : (x2 + (1 : Int32)).toInt = x2.toInt + (1) := i_addn x2 rfl (by omega) (by omega) | have e_356 := i_rng (x2 + (1 : Int32))
                    have q_357 := i_rng (F351 11)
                    exact ihn x1 (x2 + (1 : Int32)) F351 G351 hI351 (KB.tr (KB.tr (KB.tr hB hB138) hB143) hB351) (KT.tr (KT.tr (KT.tr hT hT138) hT143) hT351) (show 0 ≤ (F351 10).toInt ∨ (F351 11).toInt = -2 by omega) (by omega)
                  · skip
                    have l_358 : (4 : Int32).toInt = 4 := rfl
                    have e_359 := mt i_eq.mpr (show ¬ (r138 = (4 : Int32)) from c_346)
                    unfold cb_X4_walk_237
                    refine WP.bind (cs_X2_fail hfu (2 : Int32) F143 G143 hI143) ?_
                    rintro r360 F360 G360 ⟨hI360, hB360, hT360, hO360, hp360⟩
                    dsimp only
                    have q_361 := hI360.r 10 rfl
                    have e_362 : (F360 10).toInt = (F143 10).toInt := hO360
                    have q_363 := i_rng (F360 11)
                    have e_364 : (F360 11).toInt = -2 := hp360
                    unfold cb_X4_walk_245
                    have q_365 := i_rng x1
                    first | have e_366 : (x2 + (1 : Int32)).toInt = x2.toInt + (1) := i_addn x2 rfl (by omega) (by omega) | have e_367 := i_rng (x2 + (1 : Int32))
                    exact ihn x1 (x2 + (1 : Int32)) F360 G360 hI360 (KB.tr (KB.tr (KB.tr hB hB138) hB143) hB360) (KT.tr (KT.tr (KT.tr hT hT138) hT143) hT360) (show 0 ≤ (F360 10).toInt ∨ (F360 11).toInt = -2 by omega) (by omega)
                · skip
                  have q_368 := i_rng r138
                  have l_369 : (6 : Int32).toInt = 6 := rfl
                  have e_370 := mt i_eq.mpr (show ¬ (r138 = (6 : Int32)) from c_342)
                  unfold cb_X4_walk_198
                  refine WP.ite (fun c_371 => ?_) (fun c_371 => ?_)
                  · skip
                    have l_372 : (4 : Int32).toInt = 4 := rfl
                    have e_373 := i_eq.mp (show r138 = (4 : Int32) from c_371)
                    unfold cb_X4_walk_209
                    unfold cb_X4_walk_214
                    have q_374 := i_rng (F138 12)
                    have q_375 := i_rng (F138 13)
                    refine WP.bind (cs_X4_globalArray hfu (F138 12) (F138 13) (2 : Int32) F143 G143 hI143) ?_
                    rintro r376 F376 G376 ⟨hI376, hB376, hT376, hO376, hp376⟩
                    dsimp only
                    have q_377 := hI376.r 10 rfl
                    have e_378 : (F376 10).toInt = (F143 10).toInt := hO376
                    unfold cb_X4_walk_217
                    unfold cb_X4_walk_245
                    have q_379 := i_rng x1
                    first | have e_380 : (x2 + (1 : Int32)).toInt = x2.toInt + (1) := i_addn x2 rfl (by omega) (by omega) | have e_381 := i_rng (x2 + (1 : Int32))
                    have q_382 := i_rng (F376 11)
                    exact ihn x1 (x2 + (1 : Int32)) F376 G376 hI376 (KB.tr (KB.tr (KB.tr hB hB138) hB143) hB376) (KT.tr (KT.tr (KT.tr hT hT138) hT143) hT376) (show 0 ≤ (F376 10).toInt ∨ (F376 11).toInt = -2 by omega) (by omega)
                  · skip
                    have l_383 : (4 : Int32).toInt = 4 := rfl
                    have e_384 := mt i_eq.mpr (show ¬ (r138 = (4 : Int32)) from c_371)
                    unfold cb_X4_walk_213
                    unfold cb_X4_walk_214
                    have q_385 := i_rng (F138 12)
                    have q_386 := i_rng (F138 13)
                    have l_387 : (3 : Int32).toInt = 3 := rfl
                    refine WP.bind (cs_X4_globalArray hfu (F138 12) (F138 13) (3 : Int32) F143 G143 hI143) ?_
                    rintro r388 F388 G388 ⟨hI388, hB388, hT388, hO388, hp388⟩
                    dsimp only
                    have q_389 := hI388.r 10 rfl
                    have e_390 : (F388 10).toInt = (F143 10).toInt := hO388
                    unfold cb_X4_walk_217
                    unfold cb_X4_walk_245
                    have q_391 := i_rng x1
                    first | have e_392 : (x2 + (1 : Int32)).toInt = x2.toInt + (1) := i_addn x2 rfl (by omega) (by omega) | have e_393 := i_rng (x2 + (1 : Int32))
                    have q_394 := i_rng (F388 11)
                    exact ihn x1 (x2 + (1 : Int32)) F388 G388 hI388 (KB.tr (KB.tr (KB.tr hB hB138) hB143) hB388) (KT.tr (KT.tr (KT.tr hT hT138) hT143) hT388) (show 0 ≤ (F388 10).toInt ∨ (F388 11).toInt = -2 by omega) (by omega)
              · skip
                have l_395 : (21 : Int32).toInt = 21 := rfl
                have e_396 := mt i_eq.mpr (show ¬ ((F143 11) = (21 : Int32)) from c_339)
                unfold cb_X4_walk_220
                refine WP.ite (fun c_397 => ?_) (fun c_397 => ?_)
                · skip
                  have q_398 := i_rng r138
                  have l_399 : (4 : Int32).toInt = 4 := rfl
                  have e_400 := i_eq.mp (show r138 = (4 : Int32) from c_397)
                  unfold cb_X4_walk_226
                  have q_401 := i_rng (F138 12)
                  have q_402 := i_rng (F138 13)
                  refine WP.bind (cs_X4_globalInt hfu (F138 12) (F138 13) F143 G143 hI143) ?_
                  rintro r403 F403 G403 ⟨hI403, hB403, hT403, hO403, hp403⟩
                  dsimp only
                  have q_404 := hI403.r 10 rfl
                  have e_405 : (F403 10).toInt = (F143 10).toInt := hO403
                  unfold cb_X4_walk_234
                  unfold cb_X4_walk_245
                  have q_406 := i_rng x1
                  first | have e_407 : (x2 + (1 : Int32)).toInt = x2.toInt + (1) := i_addn x2 rfl (by omega) (by omega) | have e_408 := i_rng (x2 + (1 : Int32))
                  have q_409 := i_rng (F403 11)
                  exact ihn x1 (x2 + (1 : Int32)) F403 G403 hI403 (KB.tr (KB.tr (KB.tr hB hB138) hB143) hB403) (KT.tr (KT.tr (KT.tr hT hT138) hT143) hT403) (show 0 ≤ (F403 10).toInt ∨ (F403 11).toInt = -2 by omega) (by omega)
                · skip
                  have q_410 := i_rng r138
                  have l_411 : (4 : Int32).toInt = 4 := rfl
                  have e_412 := mt i_eq.mpr (show ¬ (r138 = (4 : Int32)) from c_397)
                  unfold cb_X4_walk_237
                  refine WP.bind (cs_X2_fail hfu (2 : Int32) F143 G143 hI143) ?_
                  rintro r413 F413 G413 ⟨hI413, hB413, hT413, hO413, hp413⟩
                  dsimp only
                  have q_414 := hI413.r 10 rfl
                  have e_415 : (F413 10).toInt = (F143 10).toInt := hO413
                  have q_416 := i_rng (F413 11)
                  have e_417 : (F413 11).toInt = -2 := hp413
                  unfold cb_X4_walk_245
                  have q_418 := i_rng x1
                  first | have e_419 : (x2 + (1 : Int32)).toInt = x2.toInt + (1) := i_addn x2 rfl (by omega) (by omega) | have e_420 := i_rng (x2 + (1 : Int32))
                  exact ihn x1 (x2 + (1 : Int32)) F413 G413 hI413 (KB.tr (KB.tr (KB.tr hB hB138) hB143) hB413) (KT.tr (KT.tr (KT.tr hT hT138) hT143) hT413) (show 0 ≤ (F413 10).toInt ∨ (F413 11).toInt = -2 by omega) (by omega)
theorem cs_X4_walk {fu : Nat} (hfu : 8589934592 ≤ fu) (x1 : Int32) (F : PF) (G : PG) (hI : CI F G) (hz_x1 : x1 = 0 ∨ x1 = 1) : WP (cf_X4_walk fu x1 F G) (fun r' F' G' => CI F' G' ∧ KB F G F' G' ∧ KT F F' ∧ True) := by
  have q_x1 := b_rng hz_x1
  unfold cf_X4_walk
  unfold cb_X4_walk_0
  have q_1 := i_rng x1
  refine WP.bind (cs_X4_start hfu x1 F G hI hz_x1) ?_
  rintro r2 F2 G2 ⟨hI2, hB2, hT2, hp2⟩
  dsimp only
  have q_3 := hI.r 10 rfl
  have q_4 := hI2.r 10 rfl
  have e_5 : (F2 10).toInt = 0 := hp2
  unfold cb_X4_walk_5
  have l_6 : (0 : Int32).toInt = 0 := rfl
  have q_7 := i_rng (F2 11)
  exact cz_X4_walk_7 (F0 := F) (G0 := G) hfu fu x1 (0 : Int32) F2 G2 hI2 (KB.tr (KB.rf : KB F G F G) hB2) (KT.tr (rfl : KT F F) hT2) (show 0 ≤ (F2 10).toInt ∨ (F2 11).toInt = -2 by omega) (by omega)
