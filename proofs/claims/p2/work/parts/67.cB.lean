theorem cz_X3_joinedOperands_23 {fu : Nat} (hfu : 8589934592 ≤ fu) (rc : RC) {d : Nat} (ih : cIH1 rc d) {F0 : PF} {G0 : PG} (hd : 5 * (40 - (F0 10).toInt) + 4 ≤ (d + 1 : Int)) {n_9 : Nat} (ag_9 : Int32 → Int32 → Int32 → PF → PG → PR) (hag_9 : ∀ (x1 : Int32) (x2 : Int32) (x3 : Int32) (F : PF) (G : PG) (hI : CI F G) (hB : KB F0 G0 F G) (hT : KT F0 F) (hO : KO F0 F) (hS : KS F0 F) (hn : (2147483647 - x3.toInt).toNat < n_9), WP (ag_9 x1 x2 x3 F G) (fun r' F' G' => CI F' G' ∧ KB F0 G0 F' G' ∧ KT F0 F' ∧ KO F0 F' ∧ KS F0 F' ∧ True)) : ∀ (n : Nat) (x1 : Int32) (x3 : Int32) (x4 : Int32) (F : PF) (G : PG) (hI : CI F G) (hB : KB F0 G0 F G) (hT : KT F0 F) (hO : KO F0 F) (hS : KS F0 F) (i_0 : x3.toInt < 4001) (i_1 : (2147483647 - x3.toInt).toNat < n_9 + 1) (hn : (2147483647 - x4.toInt).toNat < n), WP (cl_X3_joinedOperands_23 fu rc ag_9 n x1 x3 x4 F G) (fun r' F' G' => CI F' G' ∧ KB F0 G0 F' G' ∧ KT F0 F' ∧ KO F0 F' ∧ KS F0 F' ∧ True) := by
  intro n
  induction n with
  | zero =>
    intro x1 x3 x4 F G hI hB hT hO hS i_0 i_1 hn
    exact absurd hn (Nat.not_lt_zero _)
  | succ n ihn =>
    intro x1 x3 x4 F G hI hB hT hO hS i_0 i_1 hn
    show WP (cb_X3_joinedOperands_23 fu rc ag_9 (cl_X3_joinedOperands_23 fu rc ag_9 n)  x1 x3 x4 F G) _
    have q_S : (F0 11).toInt = -2 → (F 11).toInt = -2 := hS
    have q_O : (F 10).toInt = (F0 10).toInt := hO
    have q_O1 := hI.r 10 rfl
    unfold cb_X3_joinedOperands_23
    refine WP.ite (fun c_1 => ?_) (fun c_1 => ?_)
    · skip
      have l_2 : (4001 : Int32).toInt = 4001 := rfl
      have q_3 := i_rng x4
      have e_4 := i_le.mp (show (4001 : Int32) ≤ x4 from c_1)
      unfold cb_X3_joinedOperands_85
      have q_5 := hI.r 10 rfl
      refine WP.bind (ih.2.2.2.2.2 F G hI (by omega)) ?_
      rintro r6 F6 G6 ⟨hI6, hB6, hT6, hO6, hS6, hp6⟩
      dsimp only
      have q_7 := i_rng (F 11)
      have q_8 := i_rng (F6 11)
      have e_9 : (F 11).toInt = -2 → (F6 11).toInt = -2 := hS6
      have q_10 := hI6.r 10 rfl
      have e_11 : (F6 10).toInt = (F 10).toInt := hO6
      unfold cb_X3_joinedOperands_89
      refine WP.ite (fun c_12 => ?_) (fun c_12 => ?_)
      · skip
        have l_13 : (43 : Int32).toInt = 43 := rfl
        have e_14 := i_lt.mp (show (F6 11) < (43 : Int32) from c_12)
        unfold cb_X3_joinedOperands_117
        unfold cb_X3_joinedOperands_118
        refine WP.ite (fun _ => ?_) (fun c_15 => absurd (by decide) c_15)
        unfold cb_X3_joinedOperands_156
        have q_16 := i_rng x1
        have l_17 : (0 : Int32).toInt = 0 := rfl
        have q_18 := i_rng x3
        first | have e_19 : (x3 + (1 : Int32)).toInt = x3.toInt + (1) := i_addn x3 rfl (by omega) (by omega) | have e_20 := i_rng (x3 + (1 : Int32))
        exact hag_9 x1 (0 : Int32) (x3 + (1 : Int32)) F6 G6 hI6 (KB.tr hB hB6) (KT.tr hT hT6) (KO.tr hO hO6) (show (F0 11).toInt = -2 → (F6 11).toInt = -2 by omega) (by omega)
      · skip
        have l_21 : (43 : Int32).toInt = 43 := rfl
        have e_22 := mt i_lt.mpr (show ¬ ((F6 11) < (43 : Int32)) from c_12)
        unfold cb_X3_joinedOperands_101
        refine WP.ite (fun c_23 => ?_) (fun c_23 => ?_)
        · skip
          have l_24 : (61 : Int32).toInt = 61 := rfl
          have e_25 := i_lt.mp (show (61 : Int32) < (F6 11) from c_23)
          unfold cb_X3_joinedOperands_117
          unfold cb_X3_joinedOperands_118
          refine WP.ite (fun _ => ?_) (fun c_26 => absurd (by decide) c_26)
          unfold cb_X3_joinedOperands_156
          have q_27 := i_rng x1
          have l_28 : (0 : Int32).toInt = 0 := rfl
          have q_29 := i_rng x3
          first | have e_30 : (x3 + (1 : Int32)).toInt = x3.toInt + (1) := i_addn x3 rfl (by omega) (by omega) | have e_31 := i_rng (x3 + (1 : Int32))
          exact hag_9 x1 (0 : Int32) (x3 + (1 : Int32)) F6 G6 hI6 (KB.tr hB hB6) (KT.tr hT hT6) (KO.tr hO hO6) (show (F0 11).toInt = -2 → (F6 11).toInt = -2 by omega) (by omega)
        · skip
          have l_32 : (61 : Int32).toInt = 61 := rfl
          have e_33 := mt i_lt.mpr (show ¬ ((61 : Int32) < (F6 11)) from c_23)
          unfold cb_X3_joinedOperands_113
          unfold cb_X3_joinedOperands_118
          refine WP.ite (fun c_34 => absurd c_34 (by decide)) (fun _ => ?_)
          unfold cb_X3_joinedOperands_123
          refine WP.bind (cs_X3_strength hfu (F6 11) F6 G6 hI6) ?_
          rintro r35 _ _ ⟨rfl, rfl, hp35⟩
          dsimp only
          unfold cb_X3_joinedOperands_135
          have q_36 := i_rng x1
          have q_37 := i_rng r35
          refine WP.bind (cs_X3_settle hfu x1 r35 F6 G6 hI6) ?_
          rintro r38 F38 G38 ⟨hI38, hB38, hT38, hO38, hK38, hp38⟩
          dsimp only
          have q_39 := i_rng (F38 11)
          have e_40 : (F38 11).toInt = (F6 11).toInt := congrArg Int32.toInt hK38
          have q_41 := hI38.r 10 rfl
          have e_42 : (F38 10).toInt = (F6 10).toInt := hO38
          unfold cb_X3_joinedOperands_138
          refine WP.bind (cs_X3_waits hfu (F38 11) F38 G38 hI38) ?_
          rintro r43 F43 G43 ⟨hI43, hB43, hT43, hO43, hK43, hp43⟩
          dsimp only
          have q_44 := i_rng (F43 11)
          have e_45 : (F43 11).toInt = (F38 11).toInt := congrArg Int32.toInt hK43
          have q_46 := hI43.r 10 rfl
          have e_47 : (F43 10).toInt = (F38 10).toInt := hO43
          unfold cb_X3_joinedOperands_149
          refine WP.bind (cs_X2_next hfu F43 G43 hI43) ?_
          rintro r48 F48 G48 ⟨hI48, hB48, hT48, hO48, hp48⟩
          dsimp only
          have q_49 := hI48.r 10 rfl
          have e_50 : (F48 10).toInt = (F43 10).toInt := hO48
          unfold cb_X3_joinedOperands_156
          have l_51 : (1 : Int32).toInt = 1 := rfl
          have q_52 := i_rng x3
          first | have e_53 : (x3 + (1 : Int32)).toInt = x3.toInt + (1) := i_addn x3 rfl (by omega) (by omega) | have e_54 := i_rng (x3 + (1 : Int32))
          have q_55 := i_rng (F48 11)
          exact hag_9 x1 (1 : Int32) (x3 + (1 : Int32)) F48 G48 hI48 (KB.tr (KB.tr (KB.tr (KB.tr hB hB6) hB38) hB43) hB48) (KT.tr (KT.tr (KT.tr (KT.tr hT hT6) hT38) hT43) hT48) (KO.tr (KO.tr (KO.tr (KO.tr hO hO6) hO38) hO43) hO48) (show (F0 11).toInt = -2 → (F48 11).toInt = -2 by omega) (by omega)
    · skip
      have l_56 : (4001 : Int32).toInt = 4001 := rfl
      have q_57 := i_rng x4
      have e_58 := mt i_le.mpr (show ¬ ((4001 : Int32) ≤ x4) from c_1)
      unfold cb_X3_joinedOperands_31
      have q_59 := i_rng (F 11)
      refine WP.bind (cs_X3_isAhead hfu (F 11) F G hI) ?_
      rintro r60 _ _ ⟨rfl, rfl, hp60⟩
      dsimp only
      have q_61 := b_rng (hp60.1)
      unfold cb_X3_joinedOperands_41
      refine WP.ite (fun c_62 => ?_) (fun c_62 => ?_)
      · skip
        have l_63 : (0 : Int32).toInt = 0 := rfl
        have e_64 := i_eq.mp (show r60 = (0 : Int32) from c_62)
        unfold cb_X3_joinedOperands_85
        have q_65 := hI.r 10 rfl
        refine WP.bind (ih.2.2.2.2.2 F G hI (by omega)) ?_
        rintro r66 F66 G66 ⟨hI66, hB66, hT66, hO66, hS66, hp66⟩
        dsimp only
        have q_67 := i_rng (F66 11)
        have e_68 : (F 11).toInt = -2 → (F66 11).toInt = -2 := hS66
        have q_69 := hI66.r 10 rfl
        have e_70 : (F66 10).toInt = (F 10).toInt := hO66
        unfold cb_X3_joinedOperands_89
        refine WP.ite (fun c_71 => ?_) (fun c_71 => ?_)
        · skip
          have l_72 : (43 : Int32).toInt = 43 := rfl
          have e_73 := i_lt.mp (show (F66 11) < (43 : Int32) from c_71)
          unfold cb_X3_joinedOperands_117
          unfold cb_X3_joinedOperands_118
          refine WP.ite (fun _ => ?_) (fun c_74 => absurd (by decide) c_74)
          unfold cb_X3_joinedOperands_156
          have q_75 := i_rng x1
          have q_76 := i_rng x3
          first | have e_77 : (x3 + (1 : Int32)).toInt = x3.toInt + (1) := i_addn x3 rfl (by omega) (by omega) | have e_78 := i_rng (x3 + (1 : Int32))
          exact hag_9 x1 (0 : Int32) (x3 + (1 : Int32)) F66 G66 hI66 (KB.tr hB hB66) (KT.tr hT hT66) (KO.tr hO hO66) (show (F0 11).toInt = -2 → (F66 11).toInt = -2 by omega) (by omega)
        · skip
          have l_79 : (43 : Int32).toInt = 43 := rfl
          have e_80 := mt i_lt.mpr (show ¬ ((F66 11) < (43 : Int32)) from c_71)
          unfold cb_X3_joinedOperands_101
          refine WP.ite (fun c_81 => ?_) (fun c_81 => ?_)
          · skip
            have l_82 : (61 : Int32).toInt = 61 := rfl
            have e_83 := i_lt.mp (show (61 : Int32) < (F66 11) from c_81)
            unfold cb_X3_joinedOperands_117
            unfold cb_X3_joinedOperands_118
            refine WP.ite (fun _ => ?_) (fun c_84 => absurd (by decide) c_84)
            unfold cb_X3_joinedOperands_156
            have q_85 := i_rng x1
            have q_86 := i_rng x3
            first | have e_87 : (x3 + (1 : Int32)).toInt = x3.toInt + (1) := i_addn x3 rfl (by omega) (by omega) | have e_88 := i_rng (x3 + (1 : Int32))
            exact hag_9 x1 (0 : Int32) (x3 + (1 : Int32)) F66 G66 hI66 (KB.tr hB hB66) (KT.tr hT hT66) (KO.tr hO hO66) (show (F0 11).toInt = -2 → (F66 11).toInt = -2 by omega) (by omega)
          · skip
            have l_89 : (61 : Int32).toInt = 61 := rfl
            have e_90 := mt i_lt.mpr (show ¬ ((61 : Int32) < (F66 11)) from c_81)
            unfold cb_X3_joinedOperands_113
            unfold cb_X3_joinedOperands_118
            refine WP.ite (fun c_91 => absurd c_91 (by decide)) (fun _ => ?_)
            unfold cb_X3_joinedOperands_123
            refine WP.bind (cs_X3_strength hfu (F66 11) F66 G66 hI66) ?_
            rintro r92 _ _ ⟨rfl, rfl, hp92⟩
            dsimp only
            unfold cb_X3_joinedOperands_135
            have q_93 := i_rng x1
            have q_94 := i_rng r92
            refine WP.bind (cs_X3_settle hfu x1 r92 F66 G66 hI66) ?_
            rintro r95 F95 G95 ⟨hI95, hB95, hT95, hO95, hK95, hp95⟩
            dsimp only
            have q_96 := i_rng (F95 11)
            have e_97 : (F95 11).toInt = (F66 11).toInt := congrArg Int32.toInt hK95
            have q_98 := hI95.r 10 rfl
            have e_99 : (F95 10).toInt = (F66 10).toInt := hO95
            unfold cb_X3_joinedOperands_138
            refine WP.bind (cs_X3_waits hfu (F95 11) F95 G95 hI95) ?_
            rintro r100 F100 G100 ⟨hI100, hB100, hT100, hO100, hK100, hp100⟩
            dsimp only
            have q_101 := i_rng (F100 11)
            have e_102 : (F100 11).toInt = (F95 11).toInt := congrArg Int32.toInt hK100
            have q_103 := hI100.r 10 rfl
            have e_104 : (F100 10).toInt = (F95 10).toInt := hO100
            unfold cb_X3_joinedOperands_149
            refine WP.bind (cs_X2_next hfu F100 G100 hI100) ?_
            rintro r105 F105 G105 ⟨hI105, hB105, hT105, hO105, hp105⟩
            dsimp only
            have q_106 := hI105.r 10 rfl
            have e_107 : (F105 10).toInt = (F100 10).toInt := hO105
            unfold cb_X3_joinedOperands_156
            have l_108 : (1 : Int32).toInt = 1 := rfl
            have q_109 := i_rng x3
            first | have e_110 : (x3 + (1 : Int32)).toInt = x3.toInt + (1) := i_addn x3 rfl (by omega) (by omega) | have e_111 := i_rng (x3 + (1 : Int32))
            have q_112 := i_rng (F105 11)
            exact hag_9 x1 (1 : Int32) (x3 + (1 : Int32)) F105 G105 hI105 (KB.tr (KB.tr (KB.tr (KB.tr hB hB66) hB95) hB100) hB105) (KT.tr (KT.tr (KT.tr (KT.tr hT hT66) hT95) hT100) hT105) (KO.tr (KO.tr (KO.tr (KO.tr hO hO66) hO95) hO100) hO105) (show (F0 11).toInt = -2 → (F105 11).toInt = -2 by omega) (by omega)
      · skip
        have l_113 : (0 : Int32).toInt = 0 := rfl
        have e_114 := mt i_eq.mpr (show ¬ (r60 = (0 : Int32)) from c_62)
        unfold cb_X3_joinedOperands_44
        refine WP.ite (fun c_115 => ?_) (fun c_115 => ?_)
        · skip
          have l_116 : (58 : Int32).toInt = 58 := rfl
          have e_117 := i_eq.mp (show (F 11) = (58 : Int32) from c_115)
          unfold cb_X3_joinedOperands_57
          unfold cb_X3_joinedOperands_69
          have l_118 : (64 : Int32).toInt = 64 := rfl
          refine WP.bind (cs_X3_waits hfu (64 : Int32) F G hI) ?_
          rintro r119 F119 G119 ⟨hI119, hB119, hT119, hO119, hK119, hp119⟩
          dsimp only
          have q_120 := i_rng (F119 11)
          have e_121 : (F119 11).toInt = (F 11).toInt := congrArg Int32.toInt hK119
          have q_122 := hI.r 10 rfl
          have q_123 := hI119.r 10 rfl
          have e_124 : (F119 10).toInt = (F 10).toInt := hO119
          unfold cb_X3_joinedOperands_72
          refine WP.bind (cs_X2_next hfu F119 G119 hI119) ?_
          rintro r125 F125 G125 ⟨hI125, hB125, hT125, hO125, hp125⟩
          dsimp only
          have q_126 := hI125.r 10 rfl
          have e_127 : (F125 10).toInt = (F119 10).toInt := hO125
          unfold cb_X3_joinedOperands_79
          have q_128 := i_rng x1
          have q_129 := i_rng x3
          first | have e_130 : (x4 + (1 : Int32)).toInt = x4.toInt + (1) := i_addn x4 rfl (by omega) (by omega) | have e_131 := i_rng (x4 + (1 : Int32))
          have q_132 := i_rng (F125 11)
          exact ihn x1 x3 (x4 + (1 : Int32)) F125 G125 hI125 (KB.tr (KB.tr hB hB119) hB125) (KT.tr (KT.tr hT hT119) hT125) (KO.tr (KO.tr hO hO119) hO125) (show (F0 11).toInt = -2 → (F125 11).toInt = -2 by omega) (show x3.toInt < 4001 by omega) (show (2147483647 - x3.toInt).toNat < n_9 + 1 by omega) (by omega)
        · skip
          have l_133 : (58 : Int32).toInt = 58 := rfl
          have e_134 := mt i_eq.mpr (show ¬ ((F 11) = (58 : Int32)) from c_115)
          unfold cb_X3_joinedOperands_62
          unfold cb_X3_joinedOperands_69
          refine WP.bind (cs_X3_waits hfu (F 11) F G hI) ?_
          rintro r135 F135 G135 ⟨hI135, hB135, hT135, hO135, hK135, hp135⟩
          dsimp only
          have q_136 := i_rng (F135 11)
          have e_137 : (F135 11).toInt = (F 11).toInt := congrArg Int32.toInt hK135
          have q_138 := hI.r 10 rfl
          have q_139 := hI135.r 10 rfl
          have e_140 : (F135 10).toInt = (F 10).toInt := hO135
          unfold cb_X3_joinedOperands_72
          refine WP.bind (cs_X2_next hfu F135 G135 hI135) ?_
          rintro r141 F141 G141 ⟨hI141, hB141, hT141, hO141, hp141⟩
          dsimp only
          have q_142 := hI141.r 10 rfl
          have e_143 : (F141 10).toInt = (F135 10).toInt := hO141
          unfold cb_X3_joinedOperands_79
          have q_144 := i_rng x1
          have q_145 := i_rng x3
          first | have e_146 : (x4 + (1 : Int32)).toInt = x4.toInt + (1) := i_addn x4 rfl (by omega) (by omega) | have e_147 := i_rng (x4 + (1 : Int32))
          have q_148 := i_rng (F141 11)
          exact ihn x1 x3 (x4 + (1 : Int32)) F141 G141 hI141 (KB.tr (KB.tr hB hB135) hB141) (KT.tr (KT.tr hT hT135) hT141) (KO.tr (KO.tr hO hO135) hO141) (show (F0 11).toInt = -2 → (F141 11).toInt = -2 by omega) (show x3.toInt < 4001 by omega) (show (2147483647 - x3.toInt).toNat < n_9 + 1 by omega) (by omega)
theorem cz_X3_joinedOperands_9 {fu : Nat} (hfu : 8589934592 ≤ fu) (rc : RC) {d : Nat} (ih : cIH1 rc d) {F0 : PF} {G0 : PG} (hd : 5 * (40 - (F0 10).toInt) + 4 ≤ (d + 1 : Int)) : ∀ (n : Nat) (x1 : Int32) (x2 : Int32) (x3 : Int32) (F : PF) (G : PG) (hI : CI F G) (hB : KB F0 G0 F G) (hT : KT F0 F) (hO : KO F0 F) (hS : KS F0 F) (hn : (2147483647 - x3.toInt).toNat < n), WP (cl_X3_joinedOperands_9 fu rc n x1 x2 x3 F G) (fun r' F' G' => CI F' G' ∧ KB F0 G0 F' G' ∧ KT F0 F' ∧ KO F0 F' ∧ KS F0 F' ∧ True) := by
  intro n
  induction n with
  | zero =>
    intro x1 x2 x3 F G hI hB hT hO hS hn
    exact absurd hn (Nat.not_lt_zero _)
  | succ n ihn =>
    intro x1 x2 x3 F G hI hB hT hO hS hn
    show WP (cb_X3_joinedOperands_9 fu rc (cl_X3_joinedOperands_9 fu rc n)  x1 x2 x3 F G) _
    have q_S : (F0 11).toInt = -2 → (F 11).toInt = -2 := hS
    have q_O : (F 10).toInt = (F0 10).toInt := hO
    have q_O1 := hI.r 10 rfl
    unfold cb_X3_joinedOperands_9
    refine WP.ite (fun c_1 => ?_) (fun c_1 => ?_)
    · skip
      have l_2 : (4001 : Int32).toInt = 4001 := rfl
      have q_3 := i_rng x3
      have e_4 := i_le.mp (show (4001 : Int32) ≤ x3 from c_1)
      unfold cb_X3_joinedOperands_162
      have q_5 := i_rng x1
      have l_6 : (0 : Int32).toInt = 0 := rfl
      refine WP.bind (cs_X3_settle hfu x1 (0 : Int32) F G hI) ?_
      rintro r7 F7 G7 ⟨hI7, hB7, hT7, hO7, hK7, hp7⟩
      dsimp only
      have q_8 := i_rng (F 11)
      have q_9 := i_rng (F7 11)
      have e_10 : (F7 11).toInt = (F 11).toInt := congrArg Int32.toInt hK7
      have q_11 := hI.r 10 rfl
      have q_12 := hI7.r 10 rfl
      have e_13 : (F7 10).toInt = (F 10).toInt := hO7
      unfold cb_X3_joinedOperands_168
      refine WP.ret ?_
      exact ⟨hI7, (KB.tr hB hB7), (KT.tr hT hT7), (KO.tr hO hO7), (show (F0 11).toInt = -2 → (F7 11).toInt = -2 by omega), trivial⟩
    · skip
      have l_14 : (4001 : Int32).toInt = 4001 := rfl
      have q_15 := i_rng x3
      have e_16 := mt i_le.mpr (show ¬ ((4001 : Int32) ≤ x3) from c_1)
      unfold cb_X3_joinedOperands_16
      refine WP.ite (fun c_17 => ?_) (fun c_17 => ?_)
      · skip
        have q_18 := i_rng x2
        have l_19 : (0 : Int32).toInt = 0 := rfl
        have e_20 := i_eq.mp (show x2 = (0 : Int32) from c_17)
        unfold cb_X3_joinedOperands_162
        have q_21 := i_rng x1
        refine WP.bind (cs_X3_settle hfu x1 (0 : Int32) F G hI) ?_
        rintro r22 F22 G22 ⟨hI22, hB22, hT22, hO22, hK22, hp22⟩
        dsimp only
        have q_23 := i_rng (F 11)
        have q_24 := i_rng (F22 11)
        have e_25 : (F22 11).toInt = (F 11).toInt := congrArg Int32.toInt hK22
        have q_26 := hI.r 10 rfl
        have q_27 := hI22.r 10 rfl
        have e_28 : (F22 10).toInt = (F 10).toInt := hO22
        unfold cb_X3_joinedOperands_168
        refine WP.ret ?_
        exact ⟨hI22, (KB.tr hB hB22), (KT.tr hT hT22), (KO.tr hO hO22), (show (F0 11).toInt = -2 → (F22 11).toInt = -2 by omega), trivial⟩
      · skip
        have q_29 := i_rng x2
        have l_30 : (0 : Int32).toInt = 0 := rfl
        have e_31 := mt i_eq.mpr (show ¬ (x2 = (0 : Int32)) from c_17)
        unfold cb_X3_joinedOperands_20
        have q_32 := i_rng x1
        have q_33 := i_rng (F 11)
        exact cz_X3_joinedOperands_23 (F0 := F0) (G0 := G0) hfu rc ih hd (cl_X3_joinedOperands_9 fu rc n) ihn fu x1 x3 (0 : Int32) F G hI hB hT hO (show (F0 11).toInt = -2 → (F 11).toInt = -2 by omega) (show x3.toInt < 4001 by omega) (show (2147483647 - x3.toInt).toNat < n + 1 by omega) (by omega)
theorem ct_X3_joinedOperands {fu d : Nat} (hfu : 8589934592 ≤ fu) (rc : RC) (ih : cIH1 rc d) (F : PF) (G : PG) (hI : CI F G) (hd : 5 * (40 - (F 10).toInt) + 4 ≤ (d + 1 : Int)) : WP (ch_X3_joinedOperands fu rc F G) (fun r' F' G' => CI F' G' ∧ KB F G F' G' ∧ KT F F' ∧ KO F F' ∧ KS F F' ∧ True) := by
  unfold ch_X3_joinedOperands
  have q_10 := hI.r 10 rfl
  unfold cb_X3_joinedOperands_0
  have q_1 := hI.r 21 rfl
  have l_2 : (1 : Int32).toInt = 1 := rfl
  have l_3 : (0 : Int32).toInt = 0 := rfl
  have q_4 := i_rng (F 11)
  exact cz_X3_joinedOperands_9 (F0 := F) (G0 := G) hfu rc ih hd fu (F 21) (1 : Int32) (0 : Int32) F G hI (KB.rf : KB F G F G) (rfl : KT F F) (rfl : KO F F) (show (F 11).toInt = -2 → (F 11).toInt = -2 by omega) (by omega)
theorem ct_X3_named {fu d : Nat} (hfu : 8589934592 ≤ fu) (rc : RC) (ih : cIH1 rc d) (F : PF) (G : PG) (hI : CI F G) (hd : 5 * (40 - (F 10).toInt) + 2 ≤ (d + 1 : Int)) : WP (ch_X3_named fu rc F G) (fun r' F' G' => CI F' G' ∧ KB F G F' G' ∧ KT F F' ∧ KO F F' ∧ True) := by
  unfold ch_X3_named
  have q_10 := hI.r 10 rfl
  unfold cb_X3_named_0
  have q_1 := i_rng (F 12)
  have q_2 := i_rng (F 13)
  refine WP.bind (cs_X5_meant hfu (F 12) (F 13) F G hI) ?_
  rintro r3 F3 G3 ⟨hI3, hB3, hT3, hO3, hK3, hp3⟩
  dsimp only
  have q_4 := hI.r 10 rfl
  have q_5 := hI3.r 10 rfl
  have e_6 : (F3 10).toInt = (F 10).toInt := hO3
  unfold cb_X3_named_23
  refine WP.bind (cs_X2_next hfu F3 G3 hI3) ?_
  rintro r7 F7 G7 ⟨hI7, hB7, hT7, hO7, hp7⟩
  dsimp only
  have q_8 := hI7.r 10 rfl
  have e_9 : (F7 10).toInt = (F3 10).toInt := hO7
  unfold cb_X3_named_31
  have q_10 := i_rng r3
  have q_11 := i_rng (F7 11)
  refine WP.bind (cs_X5_wantValue hfu r3 (F 13) (F7 11) F7 G7 hI7) ?_
  rintro r12 F12 G12 ⟨hI12, hB12, hT12, hO12, hK12, hp12⟩
  dsimp only
  have q_13 := hI12.r 10 rfl
  have e_14 : (F12 10).toInt = (F7 10).toInt := hO12
  unfold cb_X3_named_47
  refine WP.ite (fun c_15 => ?_) (fun c_15 => ?_)
  · skip
    have q_16 := i_rng (F12 11)
    have l_17 : (19 : Int32).toInt = 19 := rfl
    have e_18 := i_eq.mp (show (F12 11) = (19 : Int32) from c_15)
    unfold cb_X3_named_59
    refine WP.bind (ih.1 r3 (F 13) F12 G12 hI12 (by omega)) ?_
    rintro r19 F19 G19 ⟨hI19, hB19, hT19, hO19, hp19⟩
    dsimp only
    have q_20 := hI19.r 10 rfl
    have e_21 : (F19 10).toInt = (F12 10).toInt := hO19
    unfold cb_X3_named_65
    unfold cb_X3_named_98
    refine WP.ret ?_
    exact ⟨hI19, (KB.tr (KB.tr (KB.tr (KB.tr (KB.rf : KB F G F G) hB3) hB7) hB12) hB19), (KT.tr (KT.tr (KT.tr (KT.tr (rfl : KT F F) hT3) hT7) hT12) hT19), (KO.tr (KO.tr (KO.tr (KO.tr (rfl : KO F F) hO3) hO7) hO12) hO19), trivial⟩
  · skip
    have q_22 := i_rng (F12 11)
    have l_23 : (19 : Int32).toInt = 19 := rfl
    have e_24 := mt i_eq.mpr (show ¬ ((F12 11) = (19 : Int32)) from c_15)
    unfold cb_X3_named_68
    refine WP.ite (fun c_25 => ?_) (fun c_25 => ?_)
    · skip
      have l_26 : (21 : Int32).toInt = 21 := rfl
      have e_27 := i_eq.mp (show (F12 11) = (21 : Int32) from c_25)
      unfold cb_X3_named_80
      refine WP.bind (ih.2.2.1 r3 F12 G12 hI12 (by omega)) ?_
      rintro r28 F28 G28 ⟨hI28, hB28, hT28, hO28, hp28⟩
      dsimp only
      have q_29 := hI28.r 10 rfl
      have e_30 : (F28 10).toInt = (F12 10).toInt := hO28
      unfold cb_X3_named_85
      refine WP.bind (cs_X3_fetch hfu r3 F28 G28 hI28) ?_
      rintro r31 F31 G31 ⟨hI31, hB31, hT31, hO31, hK31, hp31⟩
      dsimp only
      have q_32 := hI31.r 10 rfl
      have e_33 : (F31 10).toInt = (F28 10).toInt := hO31
      unfold cb_X3_named_90
      unfold cb_X3_named_98
      refine WP.ret ?_
      exact ⟨hI31, (KB.tr (KB.tr (KB.tr (KB.tr (KB.tr (KB.rf : KB F G F G) hB3) hB7) hB12) hB28) hB31), (KT.tr (KT.tr (KT.tr (KT.tr (KT.tr (rfl : KT F F) hT3) hT7) hT12) hT28) hT31), (KO.tr (KO.tr (KO.tr (KO.tr (KO.tr (rfl : KO F F) hO3) hO7) hO12) hO28) hO31), trivial⟩
    · skip
      have l_34 : (21 : Int32).toInt = 21 := rfl
      have e_35 := mt i_eq.mpr (show ¬ ((F12 11) = (21 : Int32)) from c_25)
      unfold cb_X3_named_93
      refine WP.bind (cs_X3_load hfu r3 F12 G12 hI12) ?_
      rintro r36 F36 G36 ⟨hI36, hB36, hT36, hO36, hK36, hp36⟩
      dsimp only
      have q_37 := hI36.r 10 rfl
      have e_38 : (F36 10).toInt = (F12 10).toInt := hO36
      unfold cb_X3_named_98
      refine WP.ret ?_
      exact ⟨hI36, (KB.tr (KB.tr (KB.tr (KB.tr (KB.rf : KB F G F G) hB3) hB7) hB12) hB36), (KT.tr (KT.tr (KT.tr (KT.tr (rfl : KT F F) hT3) hT7) hT12) hT36), (KO.tr (KO.tr (KO.tr (KO.tr (rfl : KO F F) hO3) hO7) hO12) hO36), trivial⟩
theorem ct_X3_operand {fu d : Nat} (hfu : 8589934592 ≤ fu) (rc : RC) (ih : cIH1 rc d) (F : PF) (G : PG) (hI : CI F G) (hd : 5 * (40 - (F 10).toInt) + 3 ≤ (d + 1 : Int)) : WP (ch_X3_operand fu rc F G) (fun r' F' G' => CI F' G' ∧ KB F G F' G' ∧ KT F F' ∧ KO F F' ∧ KS F F' ∧ True) := by
  unfold ch_X3_operand
  have q_10 := hI.r 10 rfl
  unfold cb_X3_operand_0
  refine WP.ite (fun c_1 => ?_) (fun c_1 => ?_)
  · skip
    have q_2 := i_rng (F 11)
    have l_3 : (2 : Int32).toInt = 2 := rfl
    have e_4 := i_eq.mp (show (F 11) = (2 : Int32) from c_1)
    unfold cb_X3_operand_74
    have q_5 := hI.r 10 rfl
    refine WP.bind (ih.2.2.2.2.1 F G hI (by omega)) ?_
    rintro r6 F6 G6 ⟨hI6, hB6, hT6, hO6, hp6⟩
    dsimp only
    have q_7 := hI6.r 10 rfl
    have e_8 : (F6 10).toInt = (F 10).toInt := hO6
    unfold cb_X3_operand_78
    unfold cb_X3_operand_183
    refine WP.ret ?_
    have q_9 := i_rng (F6 11)
    exact ⟨hI6, (KB.tr (KB.rf : KB F G F G) hB6), (KT.tr (rfl : KT F F) hT6), (KO.tr (rfl : KO F F) hO6), (show (F 11).toInt = -2 → (F6 11).toInt = -2 by omega), trivial⟩
  have q_10 := i_rng (F 11)
  have l_11 : (2 : Int32).toInt = 2 := rfl
  have e_12 := mt i_eq.mpr (show ¬ ((F 11) = (2 : Int32)) from c_1)
  refine WP.ite (fun c_13 => ?_) (fun c_13 => ?_)
  · skip
    have l_14 : (3 : Int32).toInt = 3 := rfl
    have e_15 := i_eq.mp (show (F 11) = (3 : Int32) from c_13)
    unfold cb_X3_operand_48
    have l_16 : (66 : Int32).toInt = 66 := rfl
    have q_17 := i_rng (F 12)
    refine WP.bind (cs_X1_addPair hfu (66 : Int32) (F 12) F G hI) ?_
    rintro r18 F18 G18 ⟨hI18, hB18, hT18, hO18, hK18, hp18⟩
    dsimp only
    have q_19 := i_rng (F18 11)
    have e_20 : (F18 11).toInt = (F 11).toInt := congrArg Int32.toInt hK18
    have q_21 := hI.r 10 rfl
    have q_22 := hI18.r 10 rfl
    have e_23 : (F18 10).toInt = (F 10).toInt := hO18
    unfold cb_X3_operand_64
    refine WP.bind (cs_X2_next hfu F18 G18 hI18) ?_
    rintro r24 F24 G24 ⟨hI24, hB24, hT24, hO24, hp24⟩
    dsimp only
    have q_25 := hI24.r 10 rfl
    have e_26 : (F24 10).toInt = (F18 10).toInt := hO24
    unfold cb_X3_operand_71
    unfold cb_X3_operand_183
    refine WP.ret ?_
    have q_27 := i_rng (F24 11)
    exact ⟨hI24, (KB.tr (KB.tr (KB.rf : KB F G F G) hB18) hB24), (KT.tr (KT.tr (rfl : KT F F) hT18) hT24), (KO.tr (KO.tr (rfl : KO F F) hO18) hO24), (show (F 11).toInt = -2 → (F24 11).toInt = -2 by omega), trivial⟩
  have l_28 : (3 : Int32).toInt = 3 := rfl
  have e_29 := mt i_eq.mpr (show ¬ ((F 11) = (3 : Int32)) from c_13)
  refine WP.ite (fun c_30 => ?_) (fun c_30 => ?_)
  · skip
    have l_31 : (17 : Int32).toInt = 17 := rfl
    have e_32 := i_eq.mp (show (F 11) = (17 : Int32) from c_30)
    unfold cb_X3_operand_81
    refine WP.ite (fun c_33 => ?_) (fun c_33 => ?_)
    · skip
      have q_34 := hI.r 46 rfl
      have l_35 : (0 : Int32).toInt = 0 := rfl
      have e_36 := i_eq.mp (show (F 46) = (0 : Int32) from c_33)
      unfold cb_X3_operand_107
      refine WP.bind (cs_X2_next hfu F G hI) ?_
      rintro r37 F37 G37 ⟨hI37, hB37, hT37, hO37, hp37⟩
      dsimp only
      have q_38 := hI.r 10 rfl
      have q_39 := hI37.r 10 rfl
      have e_40 : (F37 10).toInt = (F 10).toInt := hO37
      unfold cb_X3_operand_114
      have l_41 : (19 : Int32).toInt = 19 := rfl
      refine WP.bind (cs_X2_opens hfu (19 : Int32) F37 G37 hI37 (show (19 : Int32).toInt ≠ -2 by omega)) ?_
      rintro r42 F42 G42 ⟨hI42, hB42, hT42, hS42, hp42⟩
      dsimp only
      have q_43 := i_rng (F37 11)
      have q_44 := i_rng (F42 11)
      have e_45 : (F37 11).toInt = -2 → (F42 11).toInt = -2 := hS42
      have q_46 := b_rng (hp42.1)
      have q_47 := hI42.r 10 rfl
      have e_48 : r42.toInt = 1 → (F42 10).toInt = (F37 10).toInt + 1 ∧ (F37 10).toInt < 40 ∧ (F37 11).toInt ≠ -2 := hp42.2.1
      have e_49 : r42.toInt = 0 → (F42 10).toInt = (F37 10).toInt ∧ (F42 11).toInt = -2 := hp42.2.2
      unfold cb_X3_operand_123
      refine WP.ite (fun c_50 => ?_) (fun c_50 => ?_)
      · skip
        have e_51 := i_eq.mp (show r42 = (0 : Int32) from c_50)
        unfold cb_X3_operand_135
        refine WP.bind (cs_X1_add hfu (17 : Int32) F42 G42 hI42) ?_
        rintro r52 F52 G52 ⟨hI52, hB52, hT52, hO52, hK52, hp52⟩
        dsimp only
        have q_53 := i_rng (F52 11)
        have e_54 : (F52 11).toInt = (F42 11).toInt := congrArg Int32.toInt hK52
        have q_55 := hI52.r 10 rfl
        have e_56 : (F52 10).toInt = (F42 10).toInt := hO52
        have q_57 := hI42.r 21 rfl
        have q_58 := hI52.r 21 rfl
        have e_59 : (F52 21).toInt = (F42 21).toInt := congrArg Int32.toInt hp52
        unfold cb_X3_operand_144
        unfold cb_X3_operand_183
        refine WP.ret ?_
        exact ⟨hI52, (KB.tr (KB.tr (KB.tr (KB.rf : KB F G F G) hB37) hB42) hB52), (KT.tr (KT.tr (KT.tr (rfl : KT F F) hT37) hT42) hT52), (show (F52 10).toInt = (F 10).toInt by omega), (show (F 11).toInt = -2 → (F52 11).toInt = -2 by omega), trivial⟩
      · skip
        have e_60 := mt i_eq.mpr (show ¬ (r42 = (0 : Int32)) from c_50)
        unfold cb_X3_operand_126
        have l_61 : (20 : Int32).toInt = 20 := rfl
        refine WP.bind (cs_X2_closesWith hfu (20 : Int32) F42 G42 hI42 (show 0 ≤ (F42 10).toInt by omega) (show (20 : Int32).toInt ≠ -2 by omega)) ?_
        rintro r62 F62 G62 ⟨hI62, hB62, hT62, hS62, hp62⟩
        dsimp only
        have q_63 := i_rng (F62 11)
        have e_64 : (F42 11).toInt = -2 → (F62 11).toInt = -2 := hS62
        have q_65 := hI62.r 10 rfl
        have e_66 : (F62 10).toInt = (F42 10).toInt - 1 := hp62
        unfold cb_X3_operand_135
        refine WP.bind (cs_X1_add hfu (17 : Int32) F62 G62 hI62) ?_
        rintro r67 F67 G67 ⟨hI67, hB67, hT67, hO67, hK67, hp67⟩
        dsimp only
        have q_68 := i_rng (F67 11)
        have e_69 : (F67 11).toInt = (F62 11).toInt := congrArg Int32.toInt hK67
        have q_70 := hI67.r 10 rfl
        have e_71 : (F67 10).toInt = (F62 10).toInt := hO67
        have q_72 := hI62.r 21 rfl
        have q_73 := hI67.r 21 rfl
        have e_74 : (F67 21).toInt = (F62 21).toInt := congrArg Int32.toInt hp67
        unfold cb_X3_operand_144
        unfold cb_X3_operand_183
        refine WP.ret ?_
        exact ⟨hI67, (KB.tr (KB.tr (KB.tr (KB.tr (KB.rf : KB F G F G) hB37) hB42) hB62) hB67), (KT.tr (KT.tr (KT.tr (KT.tr (rfl : KT F F) hT37) hT42) hT62) hT67), (show (F67 10).toInt = (F 10).toInt by omega), (show (F 11).toInt = -2 → (F67 11).toInt = -2 by omega), trivial⟩
    · skip
      have q_75 := hI.r 46 rfl
      have l_76 : (0 : Int32).toInt = 0 := rfl
      have e_77 := mt i_eq.mpr (show ¬ ((F 46) = (0 : Int32)) from c_33)
      unfold cb_X3_operand_91
      have l_78 : (7 : Int32).toInt = 7 := rfl
      have q_79 := i_rng (F 13)
      refine WP.bind (cs_X5_note hfu (7 : Int32) (F 13) F G hI) ?_
      rintro r80 F80 G80 ⟨hI80, hB80, hT80, hO80, hK80, hp80⟩
      dsimp only
      have q_81 := i_rng (F80 11)
      have e_82 : (F80 11).toInt = (F 11).toInt := congrArg Int32.toInt hK80
      have q_83 := hI.r 10 rfl
      have q_84 := hI80.r 10 rfl
      have e_85 : (F80 10).toInt = (F 10).toInt := hO80
      unfold cb_X3_operand_107
      refine WP.bind (cs_X2_next hfu F80 G80 hI80) ?_
      rintro r86 F86 G86 ⟨hI86, hB86, hT86, hO86, hp86⟩
      dsimp only
      have q_87 := hI86.r 10 rfl
      have e_88 : (F86 10).toInt = (F80 10).toInt := hO86
      unfold cb_X3_operand_114
      have l_89 : (19 : Int32).toInt = 19 := rfl
      refine WP.bind (cs_X2_opens hfu (19 : Int32) F86 G86 hI86 (show (19 : Int32).toInt ≠ -2 by omega)) ?_
      rintro r90 F90 G90 ⟨hI90, hB90, hT90, hS90, hp90⟩
      dsimp only
      have q_91 := i_rng (F86 11)
      have q_92 := i_rng (F90 11)
      have e_93 : (F86 11).toInt = -2 → (F90 11).toInt = -2 := hS90
      have q_94 := b_rng (hp90.1)
      have q_95 := hI90.r 10 rfl
      have e_96 : r90.toInt = 1 → (F90 10).toInt = (F86 10).toInt + 1 ∧ (F86 10).toInt < 40 ∧ (F86 11).toInt ≠ -2 := hp90.2.1
      have e_97 : r90.toInt = 0 → (F90 10).toInt = (F86 10).toInt ∧ (F90 11).toInt = -2 := hp90.2.2
      unfold cb_X3_operand_123
      refine WP.ite (fun c_98 => ?_) (fun c_98 => ?_)
      · skip
        have e_99 := i_eq.mp (show r90 = (0 : Int32) from c_98)
        unfold cb_X3_operand_135
        refine WP.bind (cs_X1_add hfu (17 : Int32) F90 G90 hI90) ?_
        rintro r100 F100 G100 ⟨hI100, hB100, hT100, hO100, hK100, hp100⟩
        dsimp only
        have q_101 := i_rng (F100 11)
        have e_102 : (F100 11).toInt = (F90 11).toInt := congrArg Int32.toInt hK100
        have q_103 := hI100.r 10 rfl
        have e_104 : (F100 10).toInt = (F90 10).toInt := hO100
        have q_105 := hI90.r 21 rfl
        have q_106 := hI100.r 21 rfl
        have e_107 : (F100 21).toInt = (F90 21).toInt := congrArg Int32.toInt hp100
        unfold cb_X3_operand_144
        unfold cb_X3_operand_183
        refine WP.ret ?_
        exact ⟨hI100, (KB.tr (KB.tr (KB.tr (KB.tr (KB.rf : KB F G F G) hB80) hB86) hB90) hB100), (KT.tr (KT.tr (KT.tr (KT.tr (rfl : KT F F) hT80) hT86) hT90) hT100), (show (F100 10).toInt = (F 10).toInt by omega), (show (F 11).toInt = -2 → (F100 11).toInt = -2 by omega), trivial⟩
      · skip
        have e_108 := mt i_eq.mpr (show ¬ (r90 = (0 : Int32)) from c_98)
        unfold cb_X3_operand_126
        have l_109 : (20 : Int32).toInt = 20 := rfl
        refine WP.bind (cs_X2_closesWith hfu (20 : Int32) F90 G90 hI90 (show 0 ≤ (F90 10).toInt by omega) (show (20 : Int32).toInt ≠ -2 by omega)) ?_
        rintro r110 F110 G110 ⟨hI110, hB110, hT110, hS110, hp110⟩
        dsimp only
        have q_111 := i_rng (F110 11)
        have e_112 : (F90 11).toInt = -2 → (F110 11).toInt = -2 := hS110
        have q_113 := hI110.r 10 rfl
        have e_114 : (F110 10).toInt = (F90 10).toInt - 1 := hp110
        unfold cb_X3_operand_135
        refine WP.bind (cs_X1_add hfu (17 : Int32) F110 G110 hI110) ?_
        rintro r115 F115 G115 ⟨hI115, hB115, hT115, hO115, hK115, hp115⟩
        dsimp only
        have q_116 := i_rng (F115 11)
        have e_117 : (F115 11).toInt = (F110 11).toInt := congrArg Int32.toInt hK115
        have q_118 := hI115.r 10 rfl
        have e_119 : (F115 10).toInt = (F110 10).toInt := hO115
        have q_120 := hI110.r 21 rfl
        have q_121 := hI115.r 21 rfl
        have e_122 : (F115 21).toInt = (F110 21).toInt := congrArg Int32.toInt hp115
        unfold cb_X3_operand_144
        unfold cb_X3_operand_183
        refine WP.ret ?_
        exact ⟨hI115, (KB.tr (KB.tr (KB.tr (KB.tr (KB.tr (KB.rf : KB F G F G) hB80) hB86) hB90) hB110) hB115), (KT.tr (KT.tr (KT.tr (KT.tr (KT.tr (rfl : KT F F) hT80) hT86) hT90) hT110) hT115), (show (F115 10).toInt = (F 10).toInt by omega), (show (F 11).toInt = -2 → (F115 11).toInt = -2 by omega), trivial⟩
  have l_123 : (17 : Int32).toInt = 17 := rfl
  have e_124 := mt i_eq.mpr (show ¬ ((F 11) = (17 : Int32)) from c_30)
  refine WP.ite (fun c_125 => ?_) (fun c_125 => ?_)
  · skip
    have l_126 : (19 : Int32).toInt = 19 := rfl
    have e_127 := i_eq.mp (show (F 11) = (19 : Int32) from c_125)
    unfold cb_X3_operand_147
    refine WP.bind (cs_X2_opens hfu (19 : Int32) F G hI (show (19 : Int32).toInt ≠ -2 by omega)) ?_
    rintro r128 F128 G128 ⟨hI128, hB128, hT128, hS128, hp128⟩
    dsimp only
    have q_129 := i_rng (F128 11)
    have e_130 : (F 11).toInt = -2 → (F128 11).toInt = -2 := hS128
    have q_131 := b_rng (hp128.1)
    have q_132 := hI.r 10 rfl
    have q_133 := hI128.r 10 rfl
    have e_134 : r128.toInt = 1 → (F128 10).toInt = (F 10).toInt + 1 ∧ (F 10).toInt < 40 ∧ (F 11).toInt ≠ -2 := hp128.2.1
    have e_135 : r128.toInt = 0 → (F128 10).toInt = (F 10).toInt ∧ (F128 11).toInt = -2 := hp128.2.2
    unfold cb_X3_operand_156
    refine WP.ite (fun c_136 => ?_) (fun c_136 => ?_)
    · skip
      have l_137 : (0 : Int32).toInt = 0 := rfl
      have e_138 := i_eq.mp (show r128 = (0 : Int32) from c_136)
      unfold cb_X3_operand_183
      refine WP.ret ?_
      exact ⟨hI128, (KB.tr (KB.rf : KB F G F G) hB128), (KT.tr (rfl : KT F F) hT128), (show (F128 10).toInt = (F 10).toInt by omega), (show (F 11).toInt = -2 → (F128 11).toInt = -2 by omega), trivial⟩
    · skip
      have l_139 : (0 : Int32).toInt = 0 := rfl
      have e_140 := mt i_eq.mpr (show ¬ (r128 = (0 : Int32)) from c_136)
      unfold cb_X3_operand_159
      refine WP.bind (ih.2.1 F128 G128 hI128 (by omega)) ?_
      rintro r141 F141 G141 ⟨hI141, hB141, hT141, hO141, hS141, hp141⟩
      dsimp only
      have q_142 := i_rng (F141 11)
      have e_143 : (F128 11).toInt = -2 → (F141 11).toInt = -2 := hS141
      have q_144 := hI141.r 10 rfl
      have e_145 : (F141 10).toInt = (F128 10).toInt := hO141
      unfold cb_X3_operand_163
      have l_146 : (20 : Int32).toInt = 20 := rfl
      refine WP.bind (cs_X2_closesWith hfu (20 : Int32) F141 G141 hI141 (show 0 ≤ (F141 10).toInt by omega) (show (20 : Int32).toInt ≠ -2 by omega)) ?_
      rintro r147 F147 G147 ⟨hI147, hB147, hT147, hS147, hp147⟩
      dsimp only
      have q_148 := i_rng (F147 11)
      have e_149 : (F141 11).toInt = -2 → (F147 11).toInt = -2 := hS147
      have q_150 := hI147.r 10 rfl
      have e_151 : (F147 10).toInt = (F141 10).toInt - 1 := hp147
      unfold cb_X3_operand_172
      unfold cb_X3_operand_183
      refine WP.ret ?_
      exact ⟨hI147, (KB.tr (KB.tr (KB.tr (KB.rf : KB F G F G) hB128) hB141) hB147), (KT.tr (KT.tr (KT.tr (rfl : KT F F) hT128) hT141) hT147), (show (F147 10).toInt = (F 10).toInt by omega), (show (F 11).toInt = -2 → (F147 11).toInt = -2 by omega), trivial⟩
  have l_152 : (19 : Int32).toInt = 19 := rfl
  have e_153 := mt i_eq.mpr (show ¬ ((F 11) = (19 : Int32)) from c_125)
  unfold cb_X3_operand_175
  refine WP.bind (cs_X2_fail hfu (2 : Int32) F G hI) ?_
  rintro r154 F154 G154 ⟨hI154, hB154, hT154, hO154, hp154⟩
  dsimp only
  have q_155 := hI.r 10 rfl
  have q_156 := hI154.r 10 rfl
  have e_157 : (F154 10).toInt = (F 10).toInt := hO154
  have q_158 := i_rng (F154 11)
  have e_159 : (F154 11).toInt = -2 := hp154
  unfold cb_X3_operand_183
  refine WP.ret ?_
  exact ⟨hI154, (KB.tr (KB.rf : KB F G F G) hB154), (KT.tr (rfl : KT F F) hT154), (KO.tr (rfl : KO F F) hO154), (show (F 11).toInt = -2 → (F154 11).toInt = -2 by omega), trivial⟩
theorem cU1 {fu : Nat} (hfu : 8589934592 ≤ fu) : ∀ d : Nat, cIH1 (cS1 fu d) d := by
  intro d
  induction d with
  | zero =>
    refine ⟨?_, ?_, ?_, ?_, ?_, ?_⟩
    · intro x y F G hI hd; have := hI.r 10 rfl; omega
    · intro F G hI hd; have := hI.r 10 rfl; omega
    · intro x F G hI hd; have := hI.r 10 rfl; omega
    · intro F G hI hd; have := hI.r 10 rfl; omega
    · intro F G hI hd; have := hI.r 10 rfl; omega
    · intro F G hI hd; have := hI.r 10 rfl; omega
  | succ d ih =>
    refine ⟨?_, ?_, ?_, ?_, ?_, ?_⟩
    · intro x y F G hI hd
      exact ct_X3_call hfu (cS1 fu d) ih x y F G hI (by omega)
    · intro F G hI hd
      exact ct_X3_expression hfu (cS1 fu d) ih F G hI (by omega)
    · intro x F G hI hd
      exact ct_X3_index hfu (cS1 fu d) ih x F G hI (by omega)
    · intro F G hI hd
      exact ct_X3_joinedOperands hfu (cS1 fu d) ih F G hI (by omega)
    · intro F G hI hd
      exact ct_X3_named hfu (cS1 fu d) ih F G hI (by omega)
    · intro F G hI hd
      exact ct_X3_operand hfu (cS1 fu d) ih F G hI (by omega)
theorem cs_X3_call {fu : Nat} (hfu : 8589934592 ≤ fu) (x : Int32) (y : Int32) (F : PF) (G : PG) (hI : CI F G) : WP (cf_X3_call fu x y F G) (fun r' F' G' => CI F' G' ∧ KB F G F' G' ∧ KT F F' ∧ KO F F' ∧ True) := (cU1 hfu 300).1 x y F G hI (by have := hI.r 10 rfl; omega)
theorem cs_X3_expression {fu : Nat} (hfu : 8589934592 ≤ fu) (F : PF) (G : PG) (hI : CI F G) : WP (cf_X3_expression fu F G) (fun r' F' G' => CI F' G' ∧ KB F G F' G' ∧ KT F F' ∧ KO F F' ∧ KS F F' ∧ True) := (cU1 hfu 300).2.1 F G hI (by have := hI.r 10 rfl; omega)
theorem cs_X3_index {fu : Nat} (hfu : 8589934592 ≤ fu) (x : Int32) (F : PF) (G : PG) (hI : CI F G) : WP (cf_X3_index fu x F G) (fun r' F' G' => CI F' G' ∧ KB F G F' G' ∧ KT F F' ∧ KO F F' ∧ True) := (cU1 hfu 300).2.2.1 x F G hI (by have := hI.r 10 rfl; omega)
theorem cs_X3_joinedOperands {fu : Nat} (hfu : 8589934592 ≤ fu) (F : PF) (G : PG) (hI : CI F G) : WP (cf_X3_joinedOperands fu F G) (fun r' F' G' => CI F' G' ∧ KB F G F' G' ∧ KT F F' ∧ KO F F' ∧ KS F F' ∧ True) := (cU1 hfu 300).2.2.2.1 F G hI (by have := hI.r 10 rfl; omega)
theorem cs_X3_named {fu : Nat} (hfu : 8589934592 ≤ fu) (F : PF) (G : PG) (hI : CI F G) : WP (cf_X3_named fu F G) (fun r' F' G' => CI F' G' ∧ KB F G F' G' ∧ KT F F' ∧ KO F F' ∧ True) := (cU1 hfu 300).2.2.2.2.1 F G hI (by have := hI.r 10 rfl; omega)
theorem cs_X3_operand {fu : Nat} (hfu : 8589934592 ≤ fu) (F : PF) (G : PG) (hI : CI F G) : WP (cf_X3_operand fu F G) (fun r' F' G' => CI F' G' ∧ KB F G F' G' ∧ KT F F' ∧ KO F F' ∧ KS F F' ∧ True) := (cU1 hfu 300).2.2.2.2.2 F G hI (by have := hI.r 10 rfl; omega)
theorem cs_X5_endsConstant {fu : Nat} (hfu : 8589934592 ≤ fu) (F : PF) (G : PG) (hI : CI F G) : WP (cf_X5_endsConstant fu F G) (fun r' F' G' => CI F' G' ∧ KB F G F' G' ∧ KT F F' ∧ KO F F' ∧ KK F F' ∧ (r' = 0 ∨ r' = 1)) := by
  unfold cf_X5_endsConstant
  unfold cb_X5_endsConstant_0
  have l_1 : (0 : Int32).toInt = 0 := rfl
  have j_2 : CI (fup F 46 (0 : Int32)) G := CI.rg (k := 46) (x := (0 : Int32)) rfl (by decide) (by decide) hI ⟨by omega, by omega⟩
  unfold cb_X5_endsConstant_5
  refine WP.ite (fun c_3 => ?_) (fun c_3 => ?_)
  · skip
    have q_4 := hI.r 45 rfl
    have e_5 := i_eq.mp (show (F 45) = (0 : Int32) from c_3)
    unfold cb_X5_endsConstant_23
    unfold cb_X5_endsConstant_24
    refine WP.bz (show (0 : Int32) = 0 ∨ (0 : Int32) = 1 from (by decide)) ?_
    refine WP.ret ?_
    exact ⟨j_2, (KB.f (by decide) (KB.rf : KB F G F G)), (KT.f (by decide) (rfl : KT F F)), (KO.f (by decide) (rfl : KO F F)), (KK.f (by decide) (rfl : KK F F)), (by decide)⟩
  · skip
    have q_6 := hI.r 45 rfl
    have e_7 := mt i_eq.mpr (show ¬ ((F 45) = (0 : Int32)) from c_3)
    unfold cb_X5_endsConstant_12
    refine WP.ite (fun c_8 => ?_) (fun c_8 => ?_)
    · skip
      have q_9 := hI.r 47 rfl
      have e_10 := i_eq.mp (show (F 47) = (0 : Int32) from c_8)
      unfold cb_X5_endsConstant_23
      unfold cb_X5_endsConstant_24
      refine WP.bz (show (0 : Int32) = 0 ∨ (0 : Int32) = 1 from (by decide)) ?_
      refine WP.ret ?_
      exact ⟨j_2, (KB.f (by decide) (KB.rf : KB F G F G)), (KT.f (by decide) (rfl : KT F F)), (KO.f (by decide) (rfl : KO F F)), (KK.f (by decide) (rfl : KK F F)), (by decide)⟩
    · skip
      have q_11 := hI.r 47 rfl
      have e_12 := mt i_eq.mpr (show ¬ ((F 47) = (0 : Int32)) from c_8)
      unfold cb_X5_endsConstant_19
      unfold cb_X5_endsConstant_24
      have l_13 : (1 : Int32).toInt = 1 := rfl
      refine WP.bz (show (1 : Int32) = 0 ∨ (1 : Int32) = 1 from (by decide)) ?_
      refine WP.ret ?_
      exact ⟨j_2, (KB.f (by decide) (KB.rf : KB F G F G)), (KT.f (by decide) (rfl : KT F F)), (KO.f (by decide) (rfl : KO F F)), (KK.f (by decide) (rfl : KK F F)), (by decide)⟩
theorem cs_X6_pop {fu : Nat} (hfu : 8589934592 ≤ fu) (F : PF) (G : PG) (hI : CI F G) : WP (cf_X6_pop fu F G) (fun r' F' G' => CI F' G' ∧ KB F G F' G' ∧ KT F F' ∧ KO F F' ∧ KK F F' ∧ True) := by
  unfold cf_X6_pop
  unfold cb_X6_pop_0
  refine WP.ite (fun c_1 => ?_) (fun c_1 => ?_)
  · skip
    have l_2 : (0 : Int32).toInt = 0 := rfl
    have q_3 := hI.r 56 rfl
    have q_4 := hI.xx
    have e_5 := i_lt.mp (show (0 : Int32) < (F 56) from c_1)
    unfold cb_X6_pop_9
    first | have e_6 : ((F 56) - (1 : Int32)).toInt = (F 56).toInt - (1) := i_subn (F 56) rfl (by omega) (by omega) | have e_7 := i_rng ((F 56) - (1 : Int32))
    have q_9 := hI.xx
    have j_8 : CI (fup F 56 ((F 56) - (1 : Int32))) G := CI.top hI (by omega) (show ((F 56) - (1 : Int32)).toInt ≤ (xn F : Int) by omega)
    unfold cb_X6_pop_19
    have q_10 := hI.xx
    refine WP.ix (show vp_in ((F 56) - (1 : Int32)) (xn F) from vp_in_iff.mpr ⟨by omega, by omega⟩) ?_
    refine WP.ret ?_
    exact ⟨j_8, (KB.f (by decide) (KB.rf : KB F G F G)), (KT.f (by decide) (rfl : KT F F)), (KO.f (by decide) (rfl : KO F F)), (KK.f (by decide) (rfl : KK F F)), trivial⟩
  · skip
    have l_11 : (0 : Int32).toInt = 0 := rfl
    have q_12 := hI.r 56 rfl
    have q_13 := hI.xx
    have e_14 := mt i_lt.mpr (show ¬ ((0 : Int32) < (F 56)) from c_1)
    unfold cb_X6_pop_7
    refine WP.ret ?_
    exact ⟨hI, (KB.rf : KB F G F G), (rfl : KT F F), (rfl : KO F F), (rfl : KK F F), trivial⟩
theorem cs_X6_jump {fu : Nat} (hfu : 8589934592 ≤ fu) (x1 : Int32) (x2 : Int32) (F : PF) (G : PG) (hI : CI F G) : WP (cf_X6_jump fu x1 x2 F G) (fun r' F' G' => CI F' G' ∧ KB F G F' G' ∧ KT F F' ∧ KO F F' ∧ KK F F' ∧ True) := by
  unfold cf_X6_jump
  unfold cb_X6_jump_0
  refine WP.ite (fun c_1 => ?_) (fun c_1 => ?_)
  · skip
    have q_2 := i_rng x1
    have l_3 : (84 : Int32).toInt = 84 := rfl
    have e_4 := i_eq.mp (show x1 = (84 : Int32) from c_1)
    unfold cb_X6_jump_69
    refine WP.ite (fun c_5 => absurd c_5 (by decide)) (fun _ => ?_)
    unfold cb_X6_jump_73
    have q_6 := i_rng x2
    have j_7 : CI (fup F 57 x2) G := CI.fr rfl hI
    unfold cb_X6_jump_78
    refine WP.ret ?_
    exact ⟨j_7, (KB.f (by decide) (KB.rf : KB F G F G)), (KT.f (by decide) (rfl : KT F F)), (KO.f (by decide) (rfl : KO F F)), (KK.f (by decide) (rfl : KK F F)), trivial⟩
  · skip
    have q_8 := i_rng x1
    have l_9 : (84 : Int32).toInt = 84 := rfl
    have e_10 := mt i_eq.mpr (show ¬ (x1 = (84 : Int32)) from c_1)
    unfold cb_X6_jump_8
    refine WP.bind (cs_X6_pop hfu F G hI) ?_
    rintro r11 F11 G11 ⟨hI11, hB11, hT11, hO11, hK11, hp11⟩
    dsimp only
    have q_12 := hI.r 10 rfl
    have q_13 := hI11.r 10 rfl
    have e_14 : (F11 10).toInt = (F 10).toInt := hO11
    unfold cb_X6_jump_12
    refine WP.ite (fun c_15 => ?_) (fun c_15 => ?_)
    · skip
      have q_16 := i_rng r11
      have l_17 : (0 : Int32).toInt = 0 := rfl
      have e_18 := i_eq.mp (show r11 = (0 : Int32) from c_15)
      unfold cb_X6_jump_19
      unfold cb_X6_jump_20
      refine WP.ite (fun c_19 => ?_) (fun c_19 => ?_)
      · skip
        have l_20 : (85 : Int32).toInt = 85 := rfl
        have e_21 := i_eq.mp (show x1 = (85 : Int32) from c_19)
        unfold cb_X6_jump_36
        unfold cb_X6_jump_41
        refine WP.ite (fun c_22 => absurd c_22 (by decide)) (fun _ => ?_)
        unfold cb_X6_jump_48
        unfold cb_X6_jump_49
        refine WP.ite (fun _ => ?_) (fun c_23 => absurd (by decide) c_23)
        unfold cb_X6_jump_69
        refine WP.ite (fun _ => ?_) (fun c_24 => absurd (by decide) c_24)
        unfold cb_X6_jump_78
        refine WP.ret ?_
        exact ⟨hI11, (KB.tr (KB.rf : KB F G F G) hB11), (KT.tr (rfl : KT F F) hT11), (KO.tr (rfl : KO F F) hO11), (KK.tr (rfl : KK F F) hK11), trivial⟩
      · skip
        have l_25 : (85 : Int32).toInt = 85 := rfl
        have e_26 := mt i_eq.mpr (show ¬ (x1 = (85 : Int32)) from c_19)
        unfold cb_X6_jump_30
        refine WP.ite (fun c_27 => ?_) (fun c_27 => ?_)
        · skip
          have l_28 : (87 : Int32).toInt = 87 := rfl
          have e_29 := i_eq.mp (show x1 = (87 : Int32) from c_27)
          unfold cb_X6_jump_36
          unfold cb_X6_jump_41
          refine WP.ite (fun c_30 => absurd c_30 (by decide)) (fun _ => ?_)
          unfold cb_X6_jump_48
          unfold cb_X6_jump_49
          refine WP.ite (fun _ => ?_) (fun c_31 => absurd (by decide) c_31)
          unfold cb_X6_jump_69
          refine WP.ite (fun _ => ?_) (fun c_32 => absurd (by decide) c_32)
          unfold cb_X6_jump_78
          refine WP.ret ?_
          exact ⟨hI11, (KB.tr (KB.rf : KB F G F G) hB11), (KT.tr (rfl : KT F F) hT11), (KO.tr (rfl : KO F F) hO11), (KK.tr (rfl : KK F F) hK11), trivial⟩
        · skip
          have l_33 : (87 : Int32).toInt = 87 := rfl
          have e_34 := mt i_eq.mpr (show ¬ (x1 = (87 : Int32)) from c_27)
          unfold cb_X6_jump_40
          unfold cb_X6_jump_41
          refine WP.ite (fun _ => ?_) (fun c_35 => absurd (by decide) c_35)
          unfold cb_X6_jump_44
          unfold cb_X6_jump_49
          refine WP.ite (fun c_36 => absurd c_36 (by decide)) (fun _ => ?_)
          unfold cb_X6_jump_54
          refine WP.ite (fun c_37 => ?_) (fun c_37 => ?_)
          · skip
            have e_38 := i_lt.mp (show x1 < (87 : Int32) from c_37)
            unfold cb_X6_jump_69
            refine WP.ite (fun c_39 => absurd c_39 (by decide)) (fun _ => ?_)
            unfold cb_X6_jump_73
            have q_40 := i_rng x2
            have j_41 : CI (fup F11 57 x2) G11 := CI.fr rfl hI11
            unfold cb_X6_jump_78
            refine WP.ret ?_
            exact ⟨j_41, (KB.f (by decide) (KB.tr (KB.rf : KB F G F G) hB11)), (KT.f (by decide) (KT.tr (rfl : KT F F) hT11)), (KO.f (by decide) (KO.tr (rfl : KO F F) hO11)), (KK.f (by decide) (KK.tr (rfl : KK F F) hK11)), trivial⟩
          · skip
            have e_42 := mt i_lt.mpr (show ¬ (x1 < (87 : Int32)) from c_37)
            unfold cb_X6_jump_60
            refine WP.bind (cs_X11_truth hfu (0 : Int32) F11 G11 hI11 (by decide)) ?_
            rintro r43 _ _ ⟨rfl, rfl, hp43⟩
            dsimp only
            unfold cb_X6_jump_66
            have q_44 := i_rng r43
            refine WP.bind (cs_X6_push hfu r43 F11 G11 hI11) ?_
            rintro r45 F45 G45 ⟨hI45, hB45, hT45, hO45, hK45, hp45⟩
            dsimp only
            have q_46 := hI45.r 10 rfl
            have e_47 : (F45 10).toInt = (F11 10).toInt := hO45
            unfold cb_X6_jump_69
            refine WP.ite (fun c_48 => absurd c_48 (by decide)) (fun _ => ?_)
            unfold cb_X6_jump_73
            have q_49 := i_rng x2
            have j_50 : CI (fup F45 57 x2) G45 := CI.fr rfl hI45
            unfold cb_X6_jump_78
            refine WP.ret ?_
            exact ⟨j_50, (KB.f (by decide) (KB.tr (KB.tr (KB.rf : KB F G F G) hB11) hB45)), (KT.f (by decide) (KT.tr (KT.tr (rfl : KT F F) hT11) hT45)), (KO.f (by decide) (KO.tr (KO.tr (rfl : KO F F) hO11) hO45)), (KK.f (by decide) (KK.tr (KK.tr (rfl : KK F F) hK11) hK45)), trivial⟩
    · skip
      have q_51 := i_rng r11
      have l_52 : (0 : Int32).toInt = 0 := rfl
      have e_53 := mt i_eq.mpr (show ¬ (r11 = (0 : Int32)) from c_15)
      unfold cb_X6_jump_15
      unfold cb_X6_jump_20
      refine WP.ite (fun c_54 => ?_) (fun c_54 => ?_)
      · skip
        have l_55 : (85 : Int32).toInt = 85 := rfl
        have e_56 := i_eq.mp (show x1 = (85 : Int32) from c_54)
        unfold cb_X6_jump_36
        unfold cb_X6_jump_41
        refine WP.ite (fun _ => ?_) (fun c_57 => absurd (by decide) c_57)
        unfold cb_X6_jump_44
        unfold cb_X6_jump_49
        refine WP.ite (fun c_58 => absurd c_58 (by decide)) (fun _ => ?_)
        unfold cb_X6_jump_54
        refine WP.ite (fun c_59 => ?_) (fun c_59 => ?_)
        · skip
          have l_60 : (87 : Int32).toInt = 87 := rfl
          have e_61 := i_lt.mp (show x1 < (87 : Int32) from c_59)
          unfold cb_X6_jump_69
          refine WP.ite (fun c_62 => absurd c_62 (by decide)) (fun _ => ?_)
          unfold cb_X6_jump_73
          have q_63 := i_rng x2
          have j_64 : CI (fup F11 57 x2) G11 := CI.fr rfl hI11
          unfold cb_X6_jump_78
          refine WP.ret ?_
          exact ⟨j_64, (KB.f (by decide) (KB.tr (KB.rf : KB F G F G) hB11)), (KT.f (by decide) (KT.tr (rfl : KT F F) hT11)), (KO.f (by decide) (KO.tr (rfl : KO F F) hO11)), (KK.f (by decide) (KK.tr (rfl : KK F F) hK11)), trivial⟩
        · skip
          have l_65 : (87 : Int32).toInt = 87 := rfl
          have e_66 := mt i_lt.mpr (show ¬ (x1 < (87 : Int32)) from c_59)
          unfold cb_X6_jump_60
          have l_67 : (1 : Int32).toInt = 1 := rfl
          refine WP.bind (cs_X11_truth hfu (1 : Int32) F11 G11 hI11 (by decide)) ?_
          rintro r68 _ _ ⟨rfl, rfl, hp68⟩
          dsimp only
          unfold cb_X6_jump_66
          have q_69 := i_rng r68
          refine WP.bind (cs_X6_push hfu r68 F11 G11 hI11) ?_
          rintro r70 F70 G70 ⟨hI70, hB70, hT70, hO70, hK70, hp70⟩
          dsimp only
          have q_71 := hI70.r 10 rfl
          have e_72 : (F70 10).toInt = (F11 10).toInt := hO70
          unfold cb_X6_jump_69
          refine WP.ite (fun c_73 => absurd c_73 (by decide)) (fun _ => ?_)
          unfold cb_X6_jump_73
          have q_74 := i_rng x2
          have j_75 : CI (fup F70 57 x2) G70 := CI.fr rfl hI70
          unfold cb_X6_jump_78
          refine WP.ret ?_
          exact ⟨j_75, (KB.f (by decide) (KB.tr (KB.tr (KB.rf : KB F G F G) hB11) hB70)), (KT.f (by decide) (KT.tr (KT.tr (rfl : KT F F) hT11) hT70)), (KO.f (by decide) (KO.tr (KO.tr (rfl : KO F F) hO11) hO70)), (KK.f (by decide) (KK.tr (KK.tr (rfl : KK F F) hK11) hK70)), trivial⟩
      · skip
        have l_76 : (85 : Int32).toInt = 85 := rfl
        have e_77 := mt i_eq.mpr (show ¬ (x1 = (85 : Int32)) from c_54)
        unfold cb_X6_jump_30
        refine WP.ite (fun c_78 => ?_) (fun c_78 => ?_)
        · skip
          have l_79 : (87 : Int32).toInt = 87 := rfl
          have e_80 := i_eq.mp (show x1 = (87 : Int32) from c_78)
          unfold cb_X6_jump_36
          unfold cb_X6_jump_41
          refine WP.ite (fun _ => ?_) (fun c_81 => absurd (by decide) c_81)
          unfold cb_X6_jump_44
          unfold cb_X6_jump_49
          refine WP.ite (fun c_82 => absurd c_82 (by decide)) (fun _ => ?_)
          unfold cb_X6_jump_54
          refine WP.ite (fun c_83 => ?_) (fun c_83 => ?_)
          · skip
            have e_84 := i_lt.mp (show x1 < (87 : Int32) from c_83)
            unfold cb_X6_jump_69
            refine WP.ite (fun c_85 => absurd c_85 (by decide)) (fun _ => ?_)
            unfold cb_X6_jump_73
            have q_86 := i_rng x2
            have j_87 : CI (fup F11 57 x2) G11 := CI.fr rfl hI11
            unfold cb_X6_jump_78
            refine WP.ret ?_
            exact ⟨j_87, (KB.f (by decide) (KB.tr (KB.rf : KB F G F G) hB11)), (KT.f (by decide) (KT.tr (rfl : KT F F) hT11)), (KO.f (by decide) (KO.tr (rfl : KO F F) hO11)), (KK.f (by decide) (KK.tr (rfl : KK F F) hK11)), trivial⟩
          · skip
            have e_88 := mt i_lt.mpr (show ¬ (x1 < (87 : Int32)) from c_83)
            unfold cb_X6_jump_60
            have l_89 : (1 : Int32).toInt = 1 := rfl
            refine WP.bind (cs_X11_truth hfu (1 : Int32) F11 G11 hI11 (by decide)) ?_
            rintro r90 _ _ ⟨rfl, rfl, hp90⟩
            dsimp only
            unfold cb_X6_jump_66
            have q_91 := i_rng r90
            refine WP.bind (cs_X6_push hfu r90 F11 G11 hI11) ?_
            rintro r92 F92 G92 ⟨hI92, hB92, hT92, hO92, hK92, hp92⟩
            dsimp only
            have q_93 := hI92.r 10 rfl
            have e_94 : (F92 10).toInt = (F11 10).toInt := hO92
            unfold cb_X6_jump_69
            refine WP.ite (fun c_95 => absurd c_95 (by decide)) (fun _ => ?_)
            unfold cb_X6_jump_73
            have q_96 := i_rng x2
            have j_97 : CI (fup F92 57 x2) G92 := CI.fr rfl hI92
            unfold cb_X6_jump_78
            refine WP.ret ?_
            exact ⟨j_97, (KB.f (by decide) (KB.tr (KB.tr (KB.rf : KB F G F G) hB11) hB92)), (KT.f (by decide) (KT.tr (KT.tr (rfl : KT F F) hT11) hT92)), (KO.f (by decide) (KO.tr (KO.tr (rfl : KO F F) hO11) hO92)), (KK.f (by decide) (KK.tr (KK.tr (rfl : KK F F) hK11) hK92)), trivial⟩
        · skip
          have l_98 : (87 : Int32).toInt = 87 := rfl
          have e_99 := mt i_eq.mpr (show ¬ (x1 = (87 : Int32)) from c_78)
          unfold cb_X6_jump_40
          unfold cb_X6_jump_41
          refine WP.ite (fun c_100 => absurd c_100 (by decide)) (fun _ => ?_)
          unfold cb_X6_jump_48
          unfold cb_X6_jump_49
          refine WP.ite (fun _ => ?_) (fun c_101 => absurd (by decide) c_101)
          unfold cb_X6_jump_69
          refine WP.ite (fun _ => ?_) (fun c_102 => absurd (by decide) c_102)
          unfold cb_X6_jump_78
          refine WP.ret ?_
          exact ⟨hI11, (KB.tr (KB.rf : KB F G F G) hB11), (KT.tr (rfl : KT F F) hT11), (KO.tr (rfl : KO F F) hO11), (KK.tr (rfl : KK F F) hK11), trivial⟩
theorem cs_X6_changed {fu : Nat} (hfu : 8589934592 ≤ fu) (x0 : Int32) (x1 : Int32) (F : PF) (G : PG) (hI : CI F G) : WP (cf_X6_changed fu x0 x1 F G) (fun r' F' G' => F = F' ∧ G = G' ∧ True) := by
  unfold cf_X6_changed
  unfold cb_X6_changed_0
  have q_1 := i_rng x0
  refine WP.ite (fun c_2 => ?_) (fun c_2 => ?_)
  · have e_3 : x0.toInt < 62 ∨ 64 < x0.toInt := c_2
    unfold cb_X6_changed_48
    refine WP.ite (fun c_4 => ?_) (fun c_4 => ?_)
    · skip
      have q_5 := i_rng x1
      have l_6 : (0 : Int32).toInt = 0 := rfl
      have e_7 := i_eq.mp (show x1 = (0 : Int32) from c_4)
      unfold cb_X6_changed_56
      unfold cb_X6_changed_57
      refine WP.bind (cs_X11_truth hfu (0 : Int32) F G hI (by decide)) ?_
      rintro r8 _ _ ⟨rfl, rfl, hp8⟩
      dsimp only
      unfold cb_X6_changed_60
      refine WP.ret ?_
      exact ⟨rfl, rfl, trivial⟩
    · skip
      have q_9 := i_rng x1
      have l_10 : (0 : Int32).toInt = 0 := rfl
      have e_11 := mt i_eq.mpr (show ¬ (x1 = (0 : Int32)) from c_4)
      unfold cb_X6_changed_52
      unfold cb_X6_changed_57
      have l_12 : (1 : Int32).toInt = 1 := rfl
      refine WP.bind (cs_X11_truth hfu (1 : Int32) F G hI (by decide)) ?_
      rintro r13 _ _ ⟨rfl, rfl, hp13⟩
      dsimp only
      unfold cb_X6_changed_60
      refine WP.ret ?_
      exact ⟨rfl, rfl, trivial⟩
  have e_14 : ¬ (x0.toInt < 62 ∨ 64 < x0.toInt) := c_2
  refine WP.ite (fun c_15 => ?_) (fun c_15 => ?_)
  · skip
    have l_16 : (62 : Int32).toInt = 62 := rfl
    have e_17 := i_eq.mp (show x0 = (62 : Int32) from c_15)
    unfold cb_X6_changed_28
    refine WP.ret ?_
    exact ⟨rfl, rfl, trivial⟩
  have l_18 : (62 : Int32).toInt = 62 := rfl
  have e_19 := mt i_eq.mpr (show ¬ (x0 = (62 : Int32)) from c_15)
  refine WP.ite (fun c_20 => ?_) (fun c_20 => ?_)
  · skip
    have l_21 : (63 : Int32).toInt = 63 := rfl
    have e_22 := i_eq.mp (show x0 = (63 : Int32) from c_20)
    unfold cb_X6_changed_32
    refine WP.ite (fun c_23 => ?_) (fun c_23 => ?_)
    · skip
      have q_24 := i_rng x1
      have l_25 : (0 : Int32).toInt = 0 := rfl
      have e_26 := i_eq.mp (show x1 = (0 : Int32) from c_23)
      unfold cb_X6_changed_36
      unfold cb_X6_changed_41
      have l_27 : (1 : Int32).toInt = 1 := rfl
      refine WP.bind (cs_X11_truth hfu (1 : Int32) F G hI (by decide)) ?_
      rintro r28 _ _ ⟨rfl, rfl, hp28⟩
      dsimp only
      unfold cb_X6_changed_44
      refine WP.ret ?_
      exact ⟨rfl, rfl, trivial⟩
    · skip
      have q_29 := i_rng x1
      have l_30 : (0 : Int32).toInt = 0 := rfl
      have e_31 := mt i_eq.mpr (show ¬ (x1 = (0 : Int32)) from c_23)
      unfold cb_X6_changed_40
      unfold cb_X6_changed_41
      refine WP.bind (cs_X11_truth hfu (0 : Int32) F G hI (by decide)) ?_
      rintro r32 _ _ ⟨rfl, rfl, hp32⟩
      dsimp only
      unfold cb_X6_changed_44
      refine WP.ret ?_
      exact ⟨rfl, rfl, trivial⟩
  have l_33 : (63 : Int32).toInt = 63 := rfl
  have e_34 := mt i_eq.mpr (show ¬ (x0 = (63 : Int32)) from c_20)
  unfold cb_X6_changed_45
  refine WP.ret ?_
  exact ⟨rfl, rfl, trivial⟩
theorem cs_X6_next {fu : Nat} (hfu : 8589934592 ≤ fu) (F : PF) (G : PG) (hI : CI F G) : WP (cf_X6_next fu F G) (fun r' F' G' => CI F' G' ∧ KB F G F' G' ∧ KT F F' ∧ KO F F' ∧ KK F F' ∧ True) := by
  unfold cf_X6_next
  unfold cb_X6_next_0
  refine WP.ite (fun c_1 => ?_) (fun c_1 => ?_)
  · skip
    have q_2 := i_rng (F 57)
    have l_3 : (0 : Int32).toInt = 0 := rfl
    have e_4 := i_lt.mp (show (F 57) < (0 : Int32) from c_1)
    unfold cb_X6_next_21
    unfold cb_X6_next_38
    first | have e_5 : ((F 57) + (1 : Int32)).toInt = (F 57).toInt + (1) := i_addn (F 57) rfl (by omega) (by omega) | have e_6 := i_rng ((F 57) + (1 : Int32))
    have j_7 : CI (fup F 57 ((F 57) + (1 : Int32))) G := CI.fr rfl hI
    unfold cb_X6_next_49
    refine WP.ret ?_
    exact ⟨j_7, (KB.f (by decide) (KB.rf : KB F G F G)), (KT.f (by decide) (rfl : KT F F)), (KO.f (by decide) (rfl : KO F F)), (KK.f (by decide) (rfl : KK F F)), trivial⟩
  · skip
    have q_8 := i_rng (F 57)
    have l_9 : (0 : Int32).toInt = 0 := rfl
    have e_10 := mt i_lt.mpr (show ¬ ((F 57) < (0 : Int32)) from c_1)
    unfold cb_X6_next_7
    refine WP.ite (fun c_11 => ?_) (fun c_11 => ?_)
    · skip
      have q_12 := hI.r 6 rfl
      have e_13 := i_lt.mp (show (F 57) < (F 6) from c_11)
      unfold cb_X6_next_26
      refine WP.ix (show vp_in (F 57) 8400 from vp_in_iff.mpr ⟨by omega, by omega⟩) ?_
      unfold cb_X6_next_38
      first | have e_14 : ((F 57) + (1 : Int32)).toInt = (F 57).toInt + (1) := i_addn (F 57) rfl (by omega) (by omega) | have e_15 := i_rng ((F 57) + (1 : Int32))
      have j_16 : CI (fup F 57 ((F 57) + (1 : Int32))) G := CI.fr rfl hI
      unfold cb_X6_next_49
      refine WP.ret ?_
      exact ⟨j_16, (KB.f (by decide) (KB.rf : KB F G F G)), (KT.f (by decide) (rfl : KT F F)), (KO.f (by decide) (rfl : KO F F)), (KK.f (by decide) (rfl : KK F F)), trivial⟩
    · skip
      have q_17 := hI.r 6 rfl
      have e_18 := mt i_lt.mpr (show ¬ ((F 57) < (F 6)) from c_11)
      unfold cb_X6_next_21
      unfold cb_X6_next_38
      first | have e_19 : ((F 57) + (1 : Int32)).toInt = (F 57).toInt + (1) := i_addn (F 57) rfl (by omega) (by omega) | have e_20 := i_rng ((F 57) + (1 : Int32))
      have j_21 : CI (fup F 57 ((F 57) + (1 : Int32))) G := CI.fr rfl hI
      unfold cb_X6_next_49
      refine WP.ret ?_
      exact ⟨j_21, (KB.f (by decide) (KB.rf : KB F G F G)), (KT.f (by decide) (rfl : KT F F)), (KO.f (by decide) (rfl : KO F F)), (KK.f (by decide) (rfl : KK F F)), trivial⟩
theorem cz_X6_valueFrom_12 {fu : Nat} (hfu : 8589934592 ≤ fu) {F0 : PF} {G0 : PG} : ∀ (n : Nat) (x2 : Int32) (F : PF) (G : PG) (hI : CI F G) (hB : KB F0 G0 F G) (hT : KT F0 F) (hO : KO F0 F) (hK : KK F0 F) (hn : (2147483647 - x2.toInt).toNat < n), WP (cl_X6_valueFrom_12 fu n x2 F G) (fun r' F' G' => CI F' G' ∧ KB F0 G0 F' G' ∧ KT F0 F' ∧ KO F0 F' ∧ KK F0 F' ∧ True) := by
  intro n
  induction n with
  | zero =>
    intro x2 F G hI hB hT hO hK hn
    exact absurd hn (Nat.not_lt_zero _)
  | succ n ihn =>
    intro x2 F G hI hB hT hO hK hn
    show WP (cb_X6_valueFrom_12 fu (cl_X6_valueFrom_12 fu n)  x2 F G) _
    unfold cb_X6_valueFrom_12
    refine WP.ite (fun c_1 => ?_) (fun c_1 => ?_)
    · skip
      have l_2 : (100000000 : Int32).toInt = 100000000 := rfl
      have q_3 := i_rng x2
      have e_4 := i_le.mp (show (100000000 : Int32) ≤ x2 from c_1)
      unfold cb_X6_valueFrom_119
      refine WP.bind (cs_X6_pop hfu F G hI) ?_
      rintro r5 F5 G5 ⟨hI5, hB5, hT5, hO5, hK5, hp5⟩
      dsimp only
      have q_6 := hI.r 10 rfl
      have q_7 := hI5.r 10 rfl
      have e_8 : (F5 10).toInt = (F 10).toInt := hO5
      unfold cb_X6_valueFrom_123
      refine WP.ret ?_
      exact ⟨hI5, (KB.tr hB hB5), (KT.tr hT hT5), (KO.tr hO hO5), (KK.tr hK hK5), trivial⟩
    · skip
      have l_9 : (100000000 : Int32).toInt = 100000000 := rfl
      have q_10 := i_rng x2
      have e_11 := mt i_le.mpr (show ¬ ((100000000 : Int32) ≤ x2) from c_1)
      unfold cb_X6_valueFrom_18
      refine WP.ite (fun c_12 => ?_) (fun c_12 => ?_)
      · skip
        have q_13 := hI.r 6 rfl
        have q_14 := i_rng (F 57)
        have e_15 := i_le.mp (show (F 6) ≤ (F 57) from c_12)
        unfold cb_X6_valueFrom_119
        refine WP.bind (cs_X6_pop hfu F G hI) ?_
        rintro r16 F16 G16 ⟨hI16, hB16, hT16, hO16, hK16, hp16⟩
        dsimp only
        have q_17 := hI.r 10 rfl
        have q_18 := hI16.r 10 rfl
        have e_19 : (F16 10).toInt = (F 10).toInt := hO16
        unfold cb_X6_valueFrom_123
        refine WP.ret ?_
        exact ⟨hI16, (KB.tr hB hB16), (KT.tr hT hT16), (KO.tr hO hO16), (KK.tr hK hK16), trivial⟩
      · skip
        have q_20 := hI.r 6 rfl
        have q_21 := i_rng (F 57)
        have e_22 := mt i_le.mpr (show ¬ ((F 6) ≤ (F 57)) from c_12)
        unfold cb_X6_valueFrom_32
        refine WP.bind (cs_X6_next hfu F G hI) ?_
        rintro r23 F23 G23 ⟨hI23, hB23, hT23, hO23, hK23, hp23⟩
        dsimp only
        have q_24 := hI.r 10 rfl
        have q_25 := hI23.r 10 rfl
        have e_26 : (F23 10).toInt = (F 10).toInt := hO23
        unfold cb_X6_valueFrom_36
        refine WP.ite (fun c_27 => ?_) (fun c_27 => ?_)
        · skip
          have q_28 := i_rng r23
          have l_29 : (66 : Int32).toInt = 66 := rfl
          have e_30 := i_eq.mp (show r23 = (66 : Int32) from c_27)
          unfold cb_X6_valueFrom_43
          refine WP.bind (cs_X6_next hfu F23 G23 hI23) ?_
          rintro r31 F31 G31 ⟨hI31, hB31, hT31, hO31, hK31, hp31⟩
          dsimp only
          have q_32 := hI31.r 10 rfl
          have e_33 : (F31 10).toInt = (F23 10).toInt := hO31
          unfold cb_X6_valueFrom_48
          have q_34 := i_rng r31
          refine WP.bind (cs_X6_push hfu r31 F31 G31 hI31) ?_
          rintro r35 F35 G35 ⟨hI35, hB35, hT35, hO35, hK35, hp35⟩
          dsimp only
          have q_36 := hI35.r 10 rfl
          have e_37 : (F35 10).toInt = (F31 10).toInt := hO35
          unfold cb_X6_valueFrom_51
          unfold cb_X6_valueFrom_113
          first | have e_38 : (x2 + (1 : Int32)).toInt = x2.toInt + (1) := i_addn x2 rfl (by omega) (by omega) | have e_39 := i_rng (x2 + (1 : Int32))
          exact ihn (x2 + (1 : Int32)) F35 G35 hI35 (KB.tr (KB.tr (KB.tr hB hB23) hB31) hB35) (KT.tr (KT.tr (KT.tr hT hT23) hT31) hT35) (KO.tr (KO.tr (KO.tr hO hO23) hO31) hO35) (KK.tr (KK.tr (KK.tr hK hK23) hK31) hK35) (by omega)
        · skip
          have q_40 := i_rng r23
          have l_41 : (66 : Int32).toInt = 66 := rfl
          have e_42 := mt i_eq.mpr (show ¬ (r23 = (66 : Int32)) from c_27)
          unfold cb_X6_valueFrom_54
          refine WP.ite (fun c_43 => ?_) (fun c_43 => ?_)
          · skip
            have l_44 : (84 : Int32).toInt = 84 := rfl
            have e_45 := i_lt.mp (show r23 < (84 : Int32) from c_43)
            unfold cb_X6_valueFrom_72
            refine WP.ite (fun c_46 => ?_) (fun c_46 => ?_)
            · skip
              have l_47 : (62 : Int32).toInt = 62 := rfl
              have e_48 := i_lt.mp (show r23 < (62 : Int32) from c_46)
              unfold cb_X6_valueFrom_93
              refine WP.bind (cs_X6_pop hfu F23 G23 hI23) ?_
              rintro r49 F49 G49 ⟨hI49, hB49, hT49, hO49, hK49, hp49⟩
              dsimp only
              have q_50 := hI49.r 10 rfl
              have e_51 : (F49 10).toInt = (F23 10).toInt := hO49
              unfold cb_X6_valueFrom_97
              refine WP.bind (cs_X6_pop hfu F49 G49 hI49) ?_
              rintro r52 F52 G52 ⟨hI52, hB52, hT52, hO52, hK52, hp52⟩
              dsimp only
              have q_53 := hI52.r 10 rfl
              have e_54 : (F52 10).toInt = (F49 10).toInt := hO52
              unfold cb_X6_valueFrom_105
              have q_55 := i_rng r52
              have q_56 := i_rng r49
              refine WP.bind (cs_X11_joined hfu r23 r52 r49 F52 G52 hI52) ?_
              rintro r57 _ _ ⟨rfl, rfl, hp57⟩
              dsimp only
              unfold cb_X6_valueFrom_110
              have q_58 := i_rng r57
              refine WP.bind (cs_X6_push hfu r57 F52 G52 hI52) ?_
              rintro r59 F59 G59 ⟨hI59, hB59, hT59, hO59, hK59, hp59⟩
              dsimp only
              have q_60 := hI59.r 10 rfl
              have e_61 : (F59 10).toInt = (F52 10).toInt := hO59
              unfold cb_X6_valueFrom_113
              first | have e_62 : (x2 + (1 : Int32)).toInt = x2.toInt + (1) := i_addn x2 rfl (by omega) (by omega) | have e_63 := i_rng (x2 + (1 : Int32))
              exact ihn (x2 + (1 : Int32)) F59 G59 hI59 (KB.tr (KB.tr (KB.tr (KB.tr hB hB23) hB49) hB52) hB59) (KT.tr (KT.tr (KT.tr (KT.tr hT hT23) hT49) hT52) hT59) (KO.tr (KO.tr (KO.tr (KO.tr hO hO23) hO49) hO52) hO59) (KK.tr (KK.tr (KK.tr (KK.tr hK hK23) hK49) hK52) hK59) (by omega)
            · skip
              have l_64 : (62 : Int32).toInt = 62 := rfl
              have e_65 := mt i_lt.mpr (show ¬ (r23 < (62 : Int32)) from c_46)
              unfold cb_X6_valueFrom_78
              refine WP.bind (cs_X6_pop hfu F23 G23 hI23) ?_
              rintro r66 F66 G66 ⟨hI66, hB66, hT66, hO66, hK66, hp66⟩
              dsimp only
              have q_67 := hI66.r 10 rfl
              have e_68 : (F66 10).toInt = (F23 10).toInt := hO66
              unfold cb_X6_valueFrom_84
              have q_69 := i_rng r66
              refine WP.bind (cs_X6_changed hfu r23 r66 F66 G66 hI66) ?_
              rintro r70 _ _ ⟨rfl, rfl, hp70⟩
              dsimp only
              unfold cb_X6_valueFrom_87
              have q_71 := i_rng r70
              refine WP.bind (cs_X6_push hfu r70 F66 G66 hI66) ?_
              rintro r72 F72 G72 ⟨hI72, hB72, hT72, hO72, hK72, hp72⟩
              dsimp only
              have q_73 := hI72.r 10 rfl
              have e_74 : (F72 10).toInt = (F66 10).toInt := hO72
              unfold cb_X6_valueFrom_90
              unfold cb_X6_valueFrom_113
              first | have e_75 : (x2 + (1 : Int32)).toInt = x2.toInt + (1) := i_addn x2 rfl (by omega) (by omega) | have e_76 := i_rng (x2 + (1 : Int32))
              exact ihn (x2 + (1 : Int32)) F72 G72 hI72 (KB.tr (KB.tr (KB.tr hB hB23) hB66) hB72) (KT.tr (KT.tr (KT.tr hT hT23) hT66) hT72) (KO.tr (KO.tr (KO.tr hO hO23) hO66) hO72) (KK.tr (KK.tr (KK.tr hK hK23) hK66) hK72) (by omega)
          · skip
            have l_77 : (84 : Int32).toInt = 84 := rfl
            have e_78 := mt i_lt.mpr (show ¬ (r23 < (84 : Int32)) from c_43)
            unfold cb_X6_valueFrom_60
            refine WP.bind (cs_X6_next hfu F23 G23 hI23) ?_
            rintro r79 F79 G79 ⟨hI79, hB79, hT79, hO79, hK79, hp79⟩
            dsimp only
            have q_80 := hI79.r 10 rfl
            have e_81 : (F79 10).toInt = (F23 10).toInt := hO79
            unfold cb_X6_valueFrom_66
            have q_82 := i_rng r79
            refine WP.bind (cs_X6_jump hfu r23 r79 F79 G79 hI79) ?_
            rintro r83 F83 G83 ⟨hI83, hB83, hT83, hO83, hK83, hp83⟩
            dsimp only
            have q_84 := hI83.r 10 rfl
            have e_85 : (F83 10).toInt = (F79 10).toInt := hO83
            unfold cb_X6_valueFrom_69
            unfold cb_X6_valueFrom_113
            first | have e_86 : (x2 + (1 : Int32)).toInt = x2.toInt + (1) := i_addn x2 rfl (by omega) (by omega) | have e_87 := i_rng (x2 + (1 : Int32))
            exact ihn (x2 + (1 : Int32)) F83 G83 hI83 (KB.tr (KB.tr (KB.tr hB hB23) hB79) hB83) (KT.tr (KT.tr (KT.tr hT hT23) hT79) hT83) (KO.tr (KO.tr (KO.tr hO hO23) hO79) hO83) (KK.tr (KK.tr (KK.tr hK hK23) hK79) hK83) (by omega)
theorem cs_X6_valueFrom {fu : Nat} (hfu : 8589934592 ≤ fu) (x1 : Int32) (F : PF) (G : PG) (hI : CI F G) : WP (cf_X6_valueFrom fu x1 F G) (fun r' F' G' => CI F' G' ∧ KB F G F' G' ∧ KT F F' ∧ KO F F' ∧ KK F F' ∧ True) := by
  unfold cf_X6_valueFrom
  unfold cb_X6_valueFrom_0
  have q_1 := i_rng x1
  have j_2 : CI (fup F 57 x1) G := CI.fr rfl hI
  unfold cb_X6_valueFrom_5
  have l_3 : (0 : Int32).toInt = 0 := rfl
  have q_5 := hI.xx
  have j_4 : CI (fup (fup F 57 x1) 56 (0 : Int32)) G := CI.top j_2 (by omega) (show (0 : Int32).toInt ≤ (xn F : Int) by omega)
  unfold cb_X6_valueFrom_10
  exact cz_X6_valueFrom_12 (F0 := F) (G0 := G) hfu fu (0 : Int32) (fup (fup F 57 x1) 56 (0 : Int32)) G j_4 (KB.f (by decide) (KB.f (by decide) (KB.rf : KB F G F G))) (KT.f (by decide) (KT.f (by decide) (rfl : KT F F))) (KO.f (by decide) (KO.f (by decide) (rfl : KO F F))) (KK.f (by decide) (KK.f (by decide) (rfl : KK F F))) (by omega)
theorem cs_X3_constant {fu : Nat} (hfu : 8589934592 ≤ fu) (F : PF) (G : PG) (hI : CI F G) : WP (cf_X3_constant fu F G) (fun r' F' G' => CI F' G' ∧ KB F G F' G' ∧ KT F F' ∧ KO F F' ∧ True) := by
  unfold cf_X3_constant
  unfold cb_X3_constant_0
  refine WP.bind (cs_X5_startConstant hfu F G hI) ?_
  rintro r1 F1 G1 ⟨hI1, hB1, hT1, hO1, hK1, hp1⟩
  dsimp only
  have q_2 := hI.r 10 rfl
  have q_3 := hI1.r 10 rfl
  have e_4 : (F1 10).toInt = (F 10).toInt := hO1
  unfold cb_X3_constant_15
  refine WP.bind (cs_X3_expression hfu F1 G1 hI1) ?_
  rintro r5 F5 G5 ⟨hI5, hB5, hT5, hO5, hS5, hp5⟩
  dsimp only
  have q_6 := hI5.r 10 rfl
  have e_7 : (F5 10).toInt = (F1 10).toInt := hO5
  unfold cb_X3_constant_19
  refine WP.bind (cs_X5_endsConstant hfu F5 G5 hI5) ?_
  rintro r8 F8 G8 ⟨hI8, hB8, hT8, hO8, hK8, hp8⟩
  dsimp only
  have q_9 := hI8.r 10 rfl
  have e_10 : (F8 10).toInt = (F5 10).toInt := hO8
  have q_11 := b_rng hp8
  unfold cb_X3_constant_26
  refine WP.ite (fun c_12 => ?_) (fun c_12 => ?_)
  · skip
    have l_13 : (0 : Int32).toInt = 0 := rfl
    have e_14 := i_eq.mp (show r8 = (0 : Int32) from c_12)
    unfold cb_X3_constant_40
    unfold cb_X3_constant_41
    have q_15 := hI.r 6 rfl
    refine WP.bind (cs_X1_cut hfu (F 6) F8 G8 hI8) ?_
    rintro r16 F16 G16 ⟨hI16, hB16, hT16, hO16, hK16, hp16⟩
    dsimp only
    have q_17 := hI16.r 10 rfl
    have e_18 : (F16 10).toInt = (F8 10).toInt := hO16
    unfold cb_X3_constant_50
    refine WP.ret ?_
    exact ⟨hI16, (KB.tr (KB.tr (KB.tr (KB.tr (KB.rf : KB F G F G) hB1) hB5) hB8) hB16), (KT.tr (KT.tr (KT.tr (KT.tr (rfl : KT F F) hT1) hT5) hT8) hT16), (KO.tr (KO.tr (KO.tr (KO.tr (rfl : KO F F) hO1) hO5) hO8) hO16), trivial⟩
  · skip
    have l_19 : (0 : Int32).toInt = 0 := rfl
    have e_20 := mt i_eq.mpr (show ¬ (r8 = (0 : Int32)) from c_12)
    unfold cb_X3_constant_29
    have q_21 := hI.r 6 rfl
    refine WP.bind (cs_X6_valueFrom hfu (F 6) F8 G8 hI8) ?_
    rintro r22 F22 G22 ⟨hI22, hB22, hT22, hO22, hK22, hp22⟩
    dsimp only
    have q_23 := hI22.r 10 rfl
    have e_24 : (F22 10).toInt = (F8 10).toInt := hO22
    unfold cb_X3_constant_37
    unfold cb_X3_constant_41
    refine WP.bind (cs_X1_cut hfu (F 6) F22 G22 hI22) ?_
    rintro r25 F25 G25 ⟨hI25, hB25, hT25, hO25, hK25, hp25⟩
    dsimp only
    have q_26 := hI25.r 10 rfl
    have e_27 : (F25 10).toInt = (F22 10).toInt := hO25
    unfold cb_X3_constant_50
    refine WP.ret ?_
    exact ⟨hI25, (KB.tr (KB.tr (KB.tr (KB.tr (KB.tr (KB.rf : KB F G F G) hB1) hB5) hB8) hB22) hB25), (KT.tr (KT.tr (KT.tr (KT.tr (KT.tr (rfl : KT F F) hT1) hT5) hT8) hT22) hT25), (KO.tr (KO.tr (KO.tr (KO.tr (KO.tr (rfl : KO F F) hO1) hO5) hO8) hO22) hO25), trivial⟩
theorem cs_X5_elements {fu : Nat} (hfu : 8589934592 ≤ fu) (x1 : Int32) (x2 : Int32) (F : PF) (G : PG) (hI : CI F G) : WP (cf_X5_elements fu x1 x2 F G) (fun r' F' G' => CI F' G' ∧ KB F G F' G' ∧ KT F F' ∧ KO F F' ∧ KK F F' ∧ True) := by
  unfold cf_X5_elements
  unfold cb_X5_elements_0
  refine WP.ite (fun c_1 => ?_) (fun c_1 => ?_)
  · skip
    have q_2 := i_rng x1
    have l_3 : (1 : Int32).toInt = 1 := rfl
    have e_4 := i_lt.mp (show x1 < (1 : Int32) from c_1)
    unfold cb_X5_elements_12
    have l_5 : (7 : Int32).toInt = 7 := rfl
    have q_6 := i_rng x2
    refine WP.bind (cs_X5_note hfu (7 : Int32) x2 F G hI) ?_
    rintro r7 F7 G7 ⟨hI7, hB7, hT7, hO7, hK7, hp7⟩
    dsimp only
    have q_8 := hI.r 10 rfl
    have q_9 := hI7.r 10 rfl
    have e_10 : (F7 10).toInt = (F 10).toInt := hO7
    unfold cb_X5_elements_19
    refine WP.ret ?_
    exact ⟨hI7, (KB.tr (KB.rf : KB F G F G) hB7), (KT.tr (rfl : KT F F) hT7), (KO.tr (rfl : KO F F) hO7), (KK.tr (rfl : KK F F) hK7), trivial⟩
  · skip
    have q_11 := i_rng x1
    have l_12 : (1 : Int32).toInt = 1 := rfl
    have e_13 := mt i_lt.mpr (show ¬ (x1 < (1 : Int32)) from c_1)
    unfold cb_X5_elements_5
    refine WP.ite (fun c_14 => ?_) (fun c_14 => ?_)
    · skip
      have l_15 : (500 : Int32).toInt = 500 := rfl
      have e_16 := i_le.mp (show x1 ≤ (500 : Int32) from c_14)
      unfold cb_X5_elements_21
      refine WP.ret ?_
      exact ⟨hI, (KB.rf : KB F G F G), (rfl : KT F F), (rfl : KO F F), (rfl : KK F F), trivial⟩
    · skip
      have l_17 : (500 : Int32).toInt = 500 := rfl
      have e_18 := mt i_le.mpr (show ¬ (x1 ≤ (500 : Int32)) from c_14)
      unfold cb_X5_elements_12
      have l_19 : (7 : Int32).toInt = 7 := rfl
      have q_20 := i_rng x2
      refine WP.bind (cs_X5_note hfu (7 : Int32) x2 F G hI) ?_
      rintro r21 F21 G21 ⟨hI21, hB21, hT21, hO21, hK21, hp21⟩
      dsimp only
      have q_22 := hI.r 10 rfl
      have q_23 := hI21.r 10 rfl
      have e_24 : (F21 10).toInt = (F 10).toInt := hO21
      unfold cb_X5_elements_19
      refine WP.ret ?_
      exact ⟨hI21, (KB.tr (KB.rf : KB F G F G) hB21), (KT.tr (rfl : KT F F) hT21), (KO.tr (rfl : KO F F) hO21), (KK.tr (rfl : KK F F) hK21), trivial⟩
theorem cs_X3_arraySize {fu : Nat} (hfu : 8589934592 ≤ fu) (F : PF) (G : PG) (hI : CI F G) : WP (cf_X3_arraySize fu F G) (fun r' F' G' => CI F' G' ∧ KB F G F' G' ∧ KT F F' ∧ KO F F' ∧ True) := by
  unfold cf_X3_arraySize
  unfold cb_X3_arraySize_0
  have l_1 : (21 : Int32).toInt = 21 := rfl
  refine WP.bind (cs_X2_opens hfu (21 : Int32) F G hI (show (21 : Int32).toInt ≠ -2 by omega)) ?_
  rintro r2 F2 G2 ⟨hI2, hB2, hT2, hS2, hp2⟩
  dsimp only
  have q_3 := b_rng (hp2.1)
  have q_4 := hI.r 10 rfl
  have q_5 := hI2.r 10 rfl
  have q_6 := i_rng (F 11)
  have e_7 : r2.toInt = 1 → (F2 10).toInt = (F 10).toInt + 1 ∧ (F 10).toInt < 40 ∧ (F 11).toInt ≠ -2 := hp2.2.1
  have e_8 : r2.toInt = 0 → (F2 10).toInt = (F 10).toInt ∧ (F2 11).toInt = -2 := hp2.2.2
  unfold cb_X3_arraySize_9
  refine WP.ite (fun c_9 => ?_) (fun c_9 => ?_)
  · skip
    have l_10 : (0 : Int32).toInt = 0 := rfl
    have e_11 := i_eq.mp (show r2 = (0 : Int32) from c_9)
    unfold cb_X3_arraySize_12
    refine WP.ret ?_
    exact ⟨hI2, (KB.tr (KB.rf : KB F G F G) hB2), (KT.tr (rfl : KT F F) hT2), (show (F2 10).toInt = (F 10).toInt by omega), trivial⟩
  · skip
    have l_12 : (0 : Int32).toInt = 0 := rfl
    have e_13 := mt i_eq.mpr (show ¬ (r2 = (0 : Int32)) from c_9)
    unfold cb_X3_arraySize_14
    refine WP.bind (cs_X5_startConstant hfu F2 G2 hI2) ?_
    rintro r14 F14 G14 ⟨hI14, hB14, hT14, hO14, hK14, hp14⟩
    dsimp only
    have q_15 := hI14.r 10 rfl
    have e_16 : (F14 10).toInt = (F2 10).toInt := hO14
    unfold cb_X3_arraySize_37
    refine WP.bind (cs_X3_expression hfu F14 G14 hI14) ?_
    rintro r17 F17 G17 ⟨hI17, hB17, hT17, hO17, hS17, hp17⟩
    dsimp only
    have q_18 := hI17.r 10 rfl
    have e_19 : (F17 10).toInt = (F14 10).toInt := hO17
    unfold cb_X3_arraySize_41
    refine WP.bind (cs_X5_endsConstant hfu F17 G17 hI17) ?_
    rintro r20 F20 G20 ⟨hI20, hB20, hT20, hO20, hK20, hp20⟩
    dsimp only
    have q_21 := hI20.r 10 rfl
    have e_22 : (F20 10).toInt = (F17 10).toInt := hO20
    have q_23 := b_rng hp20
    unfold cb_X3_arraySize_48
    refine WP.ite (fun c_24 => ?_) (fun c_24 => ?_)
    · skip
      have e_25 := i_eq.mp (show r20 = (0 : Int32) from c_24)
      unfold cb_X3_arraySize_70
      unfold cb_X3_arraySize_71
      have q_26 := hI2.r 6 rfl
      refine WP.bind (cs_X1_cut hfu (F2 6) F20 G20 hI20) ?_
      rintro r27 F27 G27 ⟨hI27, hB27, hT27, hO27, hK27, hp27⟩
      dsimp only
      have q_28 := hI27.r 10 rfl
      have e_29 : (F27 10).toInt = (F20 10).toInt := hO27
      unfold cb_X3_arraySize_80
      have l_30 : (22 : Int32).toInt = 22 := rfl
      refine WP.bind (cs_X2_closesWith hfu (22 : Int32) F27 G27 hI27 (show 0 ≤ (F27 10).toInt by omega) (show (22 : Int32).toInt ≠ -2 by omega)) ?_
      rintro r31 F31 G31 ⟨hI31, hB31, hT31, hS31, hp31⟩
      dsimp only
      have q_32 := hI31.r 10 rfl
      have e_33 : (F31 10).toInt = (F27 10).toInt - 1 := hp31
      unfold cb_X3_arraySize_89
      refine WP.ret ?_
      exact ⟨hI31, (KB.tr (KB.tr (KB.tr (KB.tr (KB.tr (KB.tr (KB.rf : KB F G F G) hB2) hB14) hB17) hB20) hB27) hB31), (KT.tr (KT.tr (KT.tr (KT.tr (KT.tr (KT.tr (rfl : KT F F) hT2) hT14) hT17) hT20) hT27) hT31), (show (F31 10).toInt = (F 10).toInt by omega), trivial⟩
    · skip
      have e_34 := mt i_eq.mpr (show ¬ (r20 = (0 : Int32)) from c_24)
      unfold cb_X3_arraySize_51
      have q_35 := hI2.r 6 rfl
      refine WP.bind (cs_X6_valueFrom hfu (F2 6) F20 G20 hI20) ?_
      rintro r36 F36 G36 ⟨hI36, hB36, hT36, hO36, hK36, hp36⟩
      dsimp only
      have q_37 := hI36.r 10 rfl
      have e_38 : (F36 10).toInt = (F20 10).toInt := hO36
      unfold cb_X3_arraySize_63
      have q_39 := i_rng r36
      have q_40 := i_rng (F2 13)
      refine WP.bind (cs_X5_elements hfu r36 (F2 13) F36 G36 hI36) ?_
      rintro r41 F41 G41 ⟨hI41, hB41, hT41, hO41, hK41, hp41⟩
      dsimp only
      have q_42 := hI41.r 10 rfl
      have e_43 : (F41 10).toInt = (F36 10).toInt := hO41
      unfold cb_X3_arraySize_67
      unfold cb_X3_arraySize_71
      refine WP.bind (cs_X1_cut hfu (F2 6) F41 G41 hI41) ?_
      rintro r44 F44 G44 ⟨hI44, hB44, hT44, hO44, hK44, hp44⟩
      dsimp only
      have q_45 := hI44.r 10 rfl
      have e_46 : (F44 10).toInt = (F41 10).toInt := hO44
      unfold cb_X3_arraySize_80
      have l_47 : (22 : Int32).toInt = 22 := rfl
      refine WP.bind (cs_X2_closesWith hfu (22 : Int32) F44 G44 hI44 (show 0 ≤ (F44 10).toInt by omega) (show (22 : Int32).toInt ≠ -2 by omega)) ?_
      rintro r48 F48 G48 ⟨hI48, hB48, hT48, hS48, hp48⟩
      dsimp only
      have q_49 := hI48.r 10 rfl
      have e_50 : (F48 10).toInt = (F44 10).toInt - 1 := hp48
      unfold cb_X3_arraySize_89
      refine WP.ret ?_
      exact ⟨hI48, (KB.tr (KB.tr (KB.tr (KB.tr (KB.tr (KB.tr (KB.tr (KB.tr (KB.rf : KB F G F G) hB2) hB14) hB17) hB20) hB36) hB41) hB44) hB48), (KT.tr (KT.tr (KT.tr (KT.tr (KT.tr (KT.tr (KT.tr (KT.tr (rfl : KT F F) hT2) hT14) hT17) hT20) hT36) hT41) hT44) hT48), (show (F48 10).toInt = (F 10).toInt by omega), trivial⟩
theorem cs_X3_keep {fu : Nat} (hfu : 8589934592 ≤ fu) (x1 : Int32) (F : PF) (G : PG) (hI : CI F G) : WP (cf_X3_keep fu x1 F G) (fun r' F' G' => CI F' G' ∧ KB F G F' G' ∧ KT F F' ∧ KO F F' ∧ KK F F' ∧ True) := by
  unfold cf_X3_keep
  unfold cb_X3_keep_0
  have q_1 := i_rng x1
  refine WP.bind (cs_X5_kind hfu x1 F G hI) ?_
  rintro r2 _ _ ⟨rfl, rfl, hp2⟩
  dsimp only
  have q_3 := i_rng r2
  unfold cb_X3_keep_12
  refine WP.ite (fun c_4 => ?_) (fun c_4 => ?_)
  · skip
    have l_5 : (3 : Int32).toInt = 3 := rfl
    have e_6 := i_eq.mp (show r2 = (3 : Int32) from c_4)
    unfold cb_X3_keep_16
    unfold cb_X3_keep_23
    have l_7 : (80 : Int32).toInt = 80 := rfl
    refine WP.bind (cs_X1_add hfu (80 : Int32) F G hI) ?_
    rintro r8 F8 G8 ⟨hI8, hB8, hT8, hO8, hK8, hp8⟩
    dsimp only
    have q_9 := hI.r 10 rfl
    have q_10 := hI8.r 10 rfl
    have e_11 : (F8 10).toInt = (F 10).toInt := hO8
    have q_12 := hI.r 21 rfl
    have q_13 := hI8.r 21 rfl
    have e_14 : (F8 21).toInt = (F 21).toInt := congrArg Int32.toInt hp8
    unfold cb_X3_keep_26
    refine WP.ret ?_
    exact ⟨hI8, (KB.tr (KB.rf : KB F G F G) hB8), (KT.tr (rfl : KT F F) hT8), (KO.tr (rfl : KO F F) hO8), (KK.tr (rfl : KK F F) hK8), trivial⟩
  · skip
    have l_15 : (3 : Int32).toInt = 3 := rfl
    have e_16 := mt i_eq.mpr (show ¬ (r2 = (3 : Int32)) from c_4)
    unfold cb_X3_keep_21
    unfold cb_X3_keep_23
    have l_17 : (79 : Int32).toInt = 79 := rfl
    refine WP.bind (cs_X1_add hfu (79 : Int32) F G hI) ?_
    rintro r18 F18 G18 ⟨hI18, hB18, hT18, hO18, hK18, hp18⟩
    dsimp only
    have q_19 := hI.r 10 rfl
    have q_20 := hI18.r 10 rfl
    have e_21 : (F18 10).toInt = (F 10).toInt := hO18
    have q_22 := hI.r 21 rfl
    have q_23 := hI18.r 21 rfl
    have e_24 : (F18 21).toInt = (F 21).toInt := congrArg Int32.toInt hp18
    unfold cb_X3_keep_26
    refine WP.ret ?_
    exact ⟨hI18, (KB.tr (KB.rf : KB F G F G) hB18), (KT.tr (rfl : KT F F) hT18), (KO.tr (rfl : KO F F) hO18), (KK.tr (rfl : KK F F) hK18), trivial⟩
theorem cs_X3_store {fu : Nat} (hfu : 8589934592 ≤ fu) (x1 : Int32) (F : PF) (G : PG) (hI : CI F G) : WP (cf_X3_store fu x1 F G) (fun r' F' G' => CI F' G' ∧ KB F G F' G' ∧ KT F F' ∧ KO F F' ∧ KK F F' ∧ True) := by
  unfold cf_X3_store
  unfold cb_X3_store_0
  have q_1 := i_rng x1
  refine WP.bind (cs_X5_isGlobal hfu x1 F G hI) ?_
  rintro r2 _ _ ⟨rfl, rfl, hp2⟩
  dsimp only
  have q_3 := b_rng hp2
  unfold cb_X3_store_12
  refine WP.ite (fun c_4 => ?_) (fun c_4 => ?_)
  · skip
    have l_5 : (0 : Int32).toInt = 0 := rfl
    have e_6 := i_eq.mp (show r2 = (0 : Int32) from c_4)
    unfold cb_X3_store_20
    unfold cb_X3_store_22
    refine WP.bind (cs_X5_value hfu x1 F G hI) ?_
    rintro r7 _ _ ⟨rfl, rfl, hp7⟩
    dsimp only
    unfold cb_X3_store_30
    have l_8 : (72 : Int32).toInt = 72 := rfl
    have q_9 := i_rng r7
    refine WP.bind (cs_X1_addPair hfu (72 : Int32) r7 F G hI) ?_
    rintro r10 F10 G10 ⟨hI10, hB10, hT10, hO10, hK10, hp10⟩
    dsimp only
    have q_11 := hI.r 10 rfl
    have q_12 := hI10.r 10 rfl
    have e_13 : (F10 10).toInt = (F 10).toInt := hO10
    unfold cb_X3_store_33
    refine WP.ret ?_
    exact ⟨hI10, (KB.tr (KB.rf : KB F G F G) hB10), (KT.tr (rfl : KT F F) hT10), (KO.tr (rfl : KO F F) hO10), (KK.tr (rfl : KK F F) hK10), trivial⟩
  · skip
    have l_14 : (0 : Int32).toInt = 0 := rfl
    have e_15 := mt i_eq.mpr (show ¬ (r2 = (0 : Int32)) from c_4)
    unfold cb_X3_store_15
    unfold cb_X3_store_22
    refine WP.bind (cs_X5_value hfu x1 F G hI) ?_
    rintro r16 _ _ ⟨rfl, rfl, hp16⟩
    dsimp only
    unfold cb_X3_store_30
    have l_17 : (71 : Int32).toInt = 71 := rfl
    have q_18 := i_rng r16
    refine WP.bind (cs_X1_addPair hfu (71 : Int32) r16 F G hI) ?_
    rintro r19 F19 G19 ⟨hI19, hB19, hT19, hO19, hK19, hp19⟩
    dsimp only
    have q_20 := hI.r 10 rfl
    have q_21 := hI19.r 10 rfl
    have e_22 : (F19 10).toInt = (F 10).toInt := hO19
    unfold cb_X3_store_33
    refine WP.ret ?_
    exact ⟨hI19, (KB.tr (KB.rf : KB F G F G) hB19), (KT.tr (rfl : KT F F) hT19), (KO.tr (rfl : KO F F) hO19), (KK.tr (rfl : KK F F) hK19), trivial⟩
theorem cs_X8_clear {fu : Nat} (hfu : 8589934592 ≤ fu) (F : PF) (G : PG) (hI : CI F G) : WP (cf_X8_clear fu F G) (fun r' F' G' => CI F' G' ∧ KB F G F' G' ∧ KT F F' ∧ KO F F' ∧ KK F F' ∧ True) := by
  unfold cf_X8_clear
  unfold cb_X8_clear_0
  have l_1 : (0 : Int32).toInt = 0 := rfl
  have j_2 : CI (fup F 73 (0 : Int32)) G := CI.rg (k := 73) (x := (0 : Int32)) rfl (by decide) (by decide) hI ⟨by omega, by omega⟩
  unfold cb_X8_clear_5
  have j_3 : CI (fup (fup F 73 (0 : Int32)) 74 (0 : Int32)) G := CI.rg (k := 74) (x := (0 : Int32)) rfl (by decide) (by decide) j_2 ⟨by omega, by omega⟩
  unfold cb_X8_clear_10
  have j_4 : CI (fup (fup (fup F 73 (0 : Int32)) 74 (0 : Int32)) 75 (0 : Int32)) G := CI.fr rfl j_3
  unfold cb_X8_clear_15
  have l_5 : (-1 : Int32).toInt = -1 := rfl
  have j_6 : CI (fup (fup (fup (fup F 73 (0 : Int32)) 74 (0 : Int32)) 75 (0 : Int32)) 76 (-1 : Int32)) G := CI.fr rfl j_4
  unfold cb_X8_clear_20
  have j_7 : CI (fup (fup (fup (fup (fup F 73 (0 : Int32)) 74 (0 : Int32)) 75 (0 : Int32)) 76 (-1 : Int32)) 85 (0 : Int32)) G := CI.rg (k := 85) (x := (0 : Int32)) rfl (by decide) (by decide) j_6 ⟨by omega, by omega⟩
  unfold cb_X8_clear_25
  refine WP.bind (cs_fill_86 hfu (0 : Int32) (fup (fup (fup (fup (fup F 73 (0 : Int32)) 74 (0 : Int32)) 75 (0 : Int32)) 76 (-1 : Int32)) 85 (0 : Int32)) G j_7) ?_
  rintro r8 F8 G8 ⟨hI8, hB8, hT8, hO8, hK8, hp8⟩
  dsimp only
  have q_9 := hI.r 10 rfl
  have q_10 := hI8.r 10 rfl
  have e_11 : (F8 10).toInt = (F 10).toInt := hO8
  unfold cb_X8_clear_33
  refine WP.ret ?_
  exact ⟨hI8, (KB.tr (KB.f (by decide) (KB.f (by decide) (KB.f (by decide) (KB.f (by decide) (KB.f (by decide) (KB.rf : KB F G F G)))))) hB8), (KT.tr (KT.f (by decide) (KT.f (by decide) (KT.f (by decide) (KT.f (by decide) (KT.f (by decide) (rfl : KT F F)))))) hT8), (KO.tr (KO.f (by decide) (KO.f (by decide) (KO.f (by decide) (KO.f (by decide) (KO.f (by decide) (rfl : KO F F)))))) hO8), (KK.tr (KK.f (by decide) (KK.f (by decide) (KK.f (by decide) (KK.f (by decide) (KK.f (by decide) (rfl : KK F F)))))) hK8), trivial⟩
theorem cs_X5_clear {fu : Nat} (hfu : 8589934592 ≤ fu) (F : PF) (G : PG) (hI : CI F G) : WP (cf_X5_clear fu F G) (fun r' F' G' => CI F' G' ∧ KB F G F' G' ∧ KT F F' ∧ KO F F' ∧ KK F F' ∧ True) := by
  unfold cf_X5_clear
  unfold cb_X5_clear_0
  have l_1 : (0 : Int32).toInt = 0 := rfl
  have j_2 : CI (fup F 41 (0 : Int32)) G := CI.rg (k := 41) (x := (0 : Int32)) rfl (by decide) (by decide) hI ⟨by omega, by omega⟩
  unfold cb_X5_clear_5
  have j_3 : CI (fup (fup F 41 (0 : Int32)) 42 (0 : Int32)) G := CI.fr rfl j_2
  unfold cb_X5_clear_10
  have l_4 : (4001 : Int32).toInt = 4001 := rfl
  have j_5 : CI (fup (fup (fup F 41 (0 : Int32)) 42 (0 : Int32)) 43 (4001 : Int32)) G := CI.fr rfl j_3
  unfold cb_X5_clear_17
  have j_6 : CI (fup (fup (fup (fup F 41 (0 : Int32)) 42 (0 : Int32)) 43 (4001 : Int32)) 44 (0 : Int32)) G := CI.rg (k := 44) (x := (0 : Int32)) rfl (by decide) (by decide) j_5 ⟨by omega, by omega⟩
  unfold cb_X5_clear_22
  have j_7 : CI (fup (fup (fup (fup (fup F 41 (0 : Int32)) 42 (0 : Int32)) 43 (4001 : Int32)) 44 (0 : Int32)) 45 (0 : Int32)) G := CI.rg (k := 45) (x := (0 : Int32)) rfl (by decide) (by decide) j_6 ⟨by omega, by omega⟩
  unfold cb_X5_clear_27
  have j_8 : CI (fup (fup (fup (fup (fup (fup F 41 (0 : Int32)) 42 (0 : Int32)) 43 (4001 : Int32)) 44 (0 : Int32)) 45 (0 : Int32)) 46 (0 : Int32)) G := CI.rg (k := 46) (x := (0 : Int32)) rfl (by decide) (by decide) j_7 ⟨by omega, by omega⟩
  unfold cb_X5_clear_32
  have l_9 : (1 : Int32).toInt = 1 := rfl
  have j_10 : CI (fup (fup (fup (fup (fup (fup (fup F 41 (0 : Int32)) 42 (0 : Int32)) 43 (4001 : Int32)) 44 (0 : Int32)) 45 (0 : Int32)) 46 (0 : Int32)) 47 (1 : Int32)) G := CI.rg (k := 47) (x := (1 : Int32)) rfl (by decide) (by decide) j_8 ⟨by omega, by omega⟩
  unfold cb_X5_clear_37
  have l_11 : (-1 : Int32).toInt = -1 := rfl
  refine WP.bind (cs_fill_40 hfu (-1 : Int32) (fup (fup (fup (fup (fup (fup (fup F 41 (0 : Int32)) 42 (0 : Int32)) 43 (4001 : Int32)) 44 (0 : Int32)) 45 (0 : Int32)) 46 (0 : Int32)) 47 (1 : Int32)) G j_10) ?_
  rintro r12 F12 G12 ⟨hI12, hB12, hT12, hO12, hK12, hp12⟩
  dsimp only
  have q_13 := hI.r 10 rfl
  have q_14 := hI12.r 10 rfl
  have e_15 : (F12 10).toInt = (F 10).toInt := hO12
  unfold cb_X5_clear_45
  refine WP.ret ?_
  exact ⟨hI12, (KB.tr (KB.f (by decide) (KB.f (by decide) (KB.f (by decide) (KB.f (by decide) (KB.f (by decide) (KB.f (by decide) (KB.f (by decide) (KB.rf : KB F G F G)))))))) hB12), (KT.tr (KT.f (by decide) (KT.f (by decide) (KT.f (by decide) (KT.f (by decide) (KT.f (by decide) (KT.f (by decide) (KT.f (by decide) (rfl : KT F F)))))))) hT12), (KO.tr (KO.f (by decide) (KO.f (by decide) (KO.f (by decide) (KO.f (by decide) (KO.f (by decide) (KO.f (by decide) (KO.f (by decide) (rfl : KO F F)))))))) hO12), (KK.tr (KK.f (by decide) (KK.f (by decide) (KK.f (by decide) (KK.f (by decide) (KK.f (by decide) (KK.f (by decide) (KK.f (by decide) (rfl : KK F F)))))))) hK12), trivial⟩
theorem cs_X4_clear {fu : Nat} (hfu : 8589934592 ≤ fu) (x1 : Int32) (F : PF) (G : PG) (hI : CI F G) : WP (cf_X4_clear fu x1 F G) (fun r' F' G' => CI F' G' ∧ KB F G F' G' ∧ KT F F' ∧ KO F F' ∧ True) := by
  unfold cf_X4_clear
  unfold cb_X4_clear_0
  have q_1 := i_rng x1
  have j_2 : CI (fup F 27 x1) G := CI.fr rfl hI
  unfold cb_X4_clear_5
  refine WP.bind (cs_X8_clear hfu (fup F 27 x1) G j_2) ?_
  rintro r3 F3 G3 ⟨hI3, hB3, hT3, hO3, hK3, hp3⟩
  dsimp only
  have q_4 := hI.r 10 rfl
  have q_5 := hI3.r 10 rfl
  have e_6 : (F3 10).toInt = (F 10).toInt := hO3
  unfold cb_X4_clear_12
  refine WP.bind (cs_X5_clear hfu F3 G3 hI3) ?_
  rintro r7 F7 G7 ⟨hI7, hB7, hT7, hO7, hK7, hp7⟩
  dsimp only
  have q_8 := hI7.r 10 rfl
  have e_9 : (F7 10).toInt = (F3 10).toInt := hO7
  unfold cb_X4_clear_19
  have l_10 : (0 : Int32).toInt = 0 := rfl
  have j_11 : CI (fup F7 6 (0 : Int32)) G7 := CI.rg (k := 6) (x := (0 : Int32)) rfl (by decide) (by decide) hI7 ⟨by omega, by omega⟩
  unfold cb_X4_clear_27
  refine WP.ret ?_
  exact ⟨j_11, (KB.f (by decide) (KB.tr (KB.tr (KB.f (by decide) (KB.rf : KB F G F G)) hB3) hB7)), (KT.f (by decide) (KT.tr (KT.tr (KT.f (by decide) (rfl : KT F F)) hT3) hT7)), (KO.f (by decide) (KO.tr (KO.tr (KO.f (by decide) (rfl : KO F F)) hO3) hO7)), trivial⟩
theorem cs_X4_wordsOf {fu : Nat} (hfu : 8589934592 ≤ fu) (x0 : Int32) (x1 : Int32) (F : PF) (G : PG) (hI : CI F G) : WP (cf_X4_wordsOf fu x0 x1 F G) (fun r' F' G' => F = F' ∧ G = G' ∧ True) := by
  unfold cf_X4_wordsOf
  unfold cb_X4_wordsOf_0
  refine WP.ite (fun c_1 => ?_) (fun c_1 => ?_)
  · skip
    have q_2 := i_rng x0
    have l_3 : (2 : Int32).toInt = 2 := rfl
    have e_4 := i_eq.mp (show x0 = (2 : Int32) from c_1)
    unfold cb_X4_wordsOf_5
    unfold cb_X4_wordsOf_14
    refine WP.ret ?_
    exact ⟨rfl, rfl, trivial⟩
  · skip
    have q_5 := i_rng x0
    have l_6 : (2 : Int32).toInt = 2 := rfl
    have e_7 := mt i_eq.mpr (show ¬ (x0 = (2 : Int32)) from c_1)
    unfold cb_X4_wordsOf_9
    unfold cb_X4_wordsOf_14
    refine WP.ret ?_
    exact ⟨rfl, rfl, trivial⟩
theorem cs_X5_install {fu : Nat} (hfu : 8589934592 ≤ fu) (x1 : Int32) (x2 : Int32) (x3 : Int32) (x4 : Int32) (x5 : Int32) (F : PF) (G : PG) (hI : CI F G) : WP (cf_X5_install fu x1 x2 x3 x4 x5 F G) (fun r' F' G' => CI F' G' ∧ KB F G F' G' ∧ KT F F' ∧ KO F F' ∧ KK F F' ∧ True) := by
  unfold cf_X5_install
  unfold cb_X5_install_0
  refine WP.ite (fun c_1 => ?_) (fun c_1 => ?_)
  · skip
    have l_2 : (700 : Int32).toInt = 700 := rfl
    have q_3 := hI.r 41 rfl
    have e_4 := i_le.mp (show (700 : Int32) ≤ (F 41) from c_1)
    unfold cb_X5_install_121
    refine WP.ret ?_
    exact ⟨hI, (KB.rf : KB F G F G), (rfl : KT F F), (rfl : KO F F), (rfl : KK F F), trivial⟩
  · skip
    have l_5 : (700 : Int32).toInt = 700 := rfl
    have q_6 := hI.r 41 rfl
    have e_7 := mt i_le.mpr (show ¬ ((700 : Int32) ≤ (F 41)) from c_1)
    unfold cb_X5_install_10
    refine WP.ite (fun c_8 => ?_) (fun c_8 => ?_)
    · skip
      have q_9 := i_rng x1
      have l_10 : (0 : Int32).toInt = 0 := rfl
      have e_11 := i_lt.mp (show x1 < (0 : Int32) from c_8)
      unfold cb_X5_install_121
      refine WP.ret ?_
      exact ⟨hI, (KB.rf : KB F G F G), (rfl : KT F F), (rfl : KO F F), (rfl : KK F F), trivial⟩
    · skip
      have q_12 := i_rng x1
      have l_13 : (0 : Int32).toInt = 0 := rfl
      have e_14 := mt i_lt.mpr (show ¬ (x1 < (0 : Int32)) from c_8)
      unfold cb_X5_install_14
      refine WP.ite (fun c_15 => ?_) (fun c_15 => ?_)
      · skip
        have l_16 : (1408 : Int32).toInt = 1408 := rfl
        have e_17 := i_le.mp (show (1408 : Int32) ≤ x1 from c_15)
        unfold cb_X5_install_121
        refine WP.ret ?_
        exact ⟨hI, (KB.rf : KB F G F G), (rfl : KT F F), (rfl : KO F F), (rfl : KK F F), trivial⟩
      · skip
        have l_18 : (1408 : Int32).toInt = 1408 := rfl
        have e_19 := mt i_le.mpr (show ¬ ((1408 : Int32) ≤ x1) from c_15)
        unfold cb_X5_install_21
        refine WP.ix (show vp_in (F 41) 700 from vp_in_iff.mpr ⟨by omega, by omega⟩) ?_
        have j_20 : CI F (gup G 33 (F 41).toNatClampNeg x1) := CI.g (by decide) hI
        unfold cb_X5_install_31
        refine WP.ix (show vp_in (F 41) 700 from vp_in_iff.mpr ⟨by omega, by omega⟩) ?_
        have j_21 : CI F (gup (gup G 33 (F 41).toNatClampNeg x1) 34 (F 41).toNatClampNeg (F 42)) := CI.g (by decide) j_20
        unfold cb_X5_install_44
        refine WP.ix (show vp_in (F 41) 700 from vp_in_iff.mpr ⟨by omega, by omega⟩) ?_
        have j_22 : CI F (gup (gup (gup G 33 (F 41).toNatClampNeg x1) 34 (F 41).toNatClampNeg (F 42)) 35 (F 41).toNatClampNeg x3) := CI.g (by decide) j_21
        unfold cb_X5_install_54
        refine WP.ix (show vp_in (F 41) 700 from vp_in_iff.mpr ⟨by omega, by omega⟩) ?_
        have j_23 : CI F (gup (gup (gup (gup G 33 (F 41).toNatClampNeg x1) 34 (F 41).toNatClampNeg (F 42)) 35 (F 41).toNatClampNeg x3) 36 (F 41).toNatClampNeg x2) := CI.g (by decide) j_22
        unfold cb_X5_install_64
        refine WP.ix (show vp_in (F 41) 700 from vp_in_iff.mpr ⟨by omega, by omega⟩) ?_
        have j_24 : CI F (gup (gup (gup (gup (gup G 33 (F 41).toNatClampNeg x1) 34 (F 41).toNatClampNeg (F 42)) 35 (F 41).toNatClampNeg x3) 36 (F 41).toNatClampNeg x2) 37 (F 41).toNatClampNeg x4) := CI.g (by decide) j_23
        unfold cb_X5_install_75
        refine WP.ix (show vp_in (F 41) 700 from vp_in_iff.mpr ⟨by omega, by omega⟩) ?_
        have j_25 : CI F (gup (gup (gup (gup (gup (gup G 33 (F 41).toNatClampNeg x1) 34 (F 41).toNatClampNeg (F 42)) 35 (F 41).toNatClampNeg x3) 36 (F 41).toNatClampNeg x2) 37 (F 41).toNatClampNeg x4) 38 (F 41).toNatClampNeg x5) := CI.g (by decide) j_24
        unfold cb_X5_install_86
        refine WP.ix (show vp_in x1 1408 from vp_in_iff.mpr ⟨by omega, by omega⟩) ?_
        refine WP.ix (show vp_in (F 41) 700 from vp_in_iff.mpr ⟨by omega, by omega⟩) ?_
        have j_26 : CI F (gup (gup (gup (gup (gup (gup (gup G 33 (F 41).toNatClampNeg x1) 34 (F 41).toNatClampNeg (F 42)) 35 (F 41).toNatClampNeg x3) 36 (F 41).toNatClampNeg x2) 37 (F 41).toNatClampNeg x4) 38 (F 41).toNatClampNeg x5) 39 (F 41).toNatClampNeg ((gup (gup (gup (gup (gup (gup G 33 (F 41).toNatClampNeg x1) 34 (F 41).toNatClampNeg (F 42)) 35 (F 41).toNatClampNeg x3) 36 (F 41).toNatClampNeg x2) 37 (F 41).toNatClampNeg x4) 38 (F 41).toNatClampNeg x5) 40 x1.toNatClampNeg)) := CI.g (by decide) j_25
        unfold cb_X5_install_101
        refine WP.ix (show vp_in x1 1408 from vp_in_iff.mpr ⟨by omega, by omega⟩) ?_
        have j_27 : CI F (gup (gup (gup (gup (gup (gup (gup (gup G 33 (F 41).toNatClampNeg x1) 34 (F 41).toNatClampNeg (F 42)) 35 (F 41).toNatClampNeg x3) 36 (F 41).toNatClampNeg x2) 37 (F 41).toNatClampNeg x4) 38 (F 41).toNatClampNeg x5) 39 (F 41).toNatClampNeg ((gup (gup (gup (gup (gup (gup G 33 (F 41).toNatClampNeg x1) 34 (F 41).toNatClampNeg (F 42)) 35 (F 41).toNatClampNeg x3) 36 (F 41).toNatClampNeg x2) 37 (F 41).toNatClampNeg x4) 38 (F 41).toNatClampNeg x5) 40 x1.toNatClampNeg)) 40 x1.toNatClampNeg (F 41)) := CI.g (by decide) j_26
        unfold cb_X5_install_111
        first | have e_28 : ((F 41) + (1 : Int32)).toInt = (F 41).toInt + (1) := i_addn (F 41) rfl (by omega) (by omega) | have e_29 := i_rng ((F 41) + (1 : Int32))
        have j_30 : CI (fup F 41 ((F 41) + (1 : Int32))) (gup (gup (gup (gup (gup (gup (gup (gup G 33 (F 41).toNatClampNeg x1) 34 (F 41).toNatClampNeg (F 42)) 35 (F 41).toNatClampNeg x3) 36 (F 41).toNatClampNeg x2) 37 (F 41).toNatClampNeg x4) 38 (F 41).toNatClampNeg x5) 39 (F 41).toNatClampNeg ((gup (gup (gup (gup (gup (gup G 33 (F 41).toNatClampNeg x1) 34 (F 41).toNatClampNeg (F 42)) 35 (F 41).toNatClampNeg x3) 36 (F 41).toNatClampNeg x2) 37 (F 41).toNatClampNeg x4) 38 (F 41).toNatClampNeg x5) 40 x1.toNatClampNeg)) 40 x1.toNatClampNeg (F 41)) := CI.rg (k := 41) (x := ((F 41) + (1 : Int32))) rfl (by decide) (by decide) j_27 ⟨by omega, by omega⟩
        unfold cb_X5_install_121
        refine WP.ret ?_
        exact ⟨j_30, (KB.f (by decide) (KB.g (by decide) (KB.g (by decide) (KB.g (by decide) (KB.g (by decide) (KB.g (by decide) (KB.g (by decide) (KB.g (by decide) (KB.g (by decide) (KB.rf : KB F G F G)))))))))), (KT.f (by decide) (rfl : KT F F)), (KO.f (by decide) (rfl : KO F F)), (KK.f (by decide) (rfl : KK F F)), trivial⟩
theorem cs_X5_tell {fu : Nat} (hfu : 8589934592 ≤ fu) (x1 : Int32) (x2 : Int32) (x3 : Int32) (x4 : Int32) (x5 : Int32) (F : PF) (G : PG) (hI : CI F G) : WP (cf_X5_tell fu x1 x2 x3 x4 x5 F G) (fun r' F' G' => CI F' G' ∧ KB F G F' G' ∧ KT F F' ∧ KO F F' ∧ KK F F' ∧ True) := by
  unfold cf_X5_tell
  unfold cb_X5_tell_0
  refine WP.ite (fun c_1 => ?_) (fun c_1 => ?_)
  · skip
    have q_2 := hI.r 45 rfl
    have l_3 : (0 : Int32).toInt = 0 := rfl
    have e_4 := i_eq.mp (show (F 45) = (0 : Int32) from c_1)
    unfold cb_X5_tell_7
    refine WP.ret ?_
    exact ⟨hI, (KB.rf : KB F G F G), (rfl : KT F F), (rfl : KO F F), (rfl : KK F F), trivial⟩
  · skip
    have q_5 := hI.r 45 rfl
    have l_6 : (0 : Int32).toInt = 0 := rfl
    have e_7 := mt i_eq.mpr (show ¬ ((F 45) = (0 : Int32)) from c_1)
    unfold cb_X5_tell_8
    have q_8 := i_rng x1
    refine WP.bind (cs_X5_known hfu x1 F G hI) ?_
    rintro r9 _ _ ⟨rfl, rfl, hp9⟩
    dsimp only
    unfold cb_X5_tell_13
    refine WP.ite (fun c_10 => ?_) (fun c_10 => ?_)
    · skip
      have q_11 := i_rng r9
      have e_12 := i_lt.mp (show r9 < (0 : Int32) from c_10)
      unfold cb_X5_tell_47
      unfold cb_X5_tell_48
      refine WP.ite (fun _ => ?_) (fun c_13 => absurd (by decide) c_13)
      unfold cb_X5_tell_81
      unfold cb_X5_tell_82
      refine WP.ite (fun _ => ?_) (fun c_14 => absurd (by decide) c_14)
      unfold cb_X5_tell_103
      have q_15 := i_rng x2
      have q_16 := i_rng x3
      have q_17 := i_rng x4
      have q_18 := i_rng x5
      refine WP.bind (cs_X5_install hfu x1 x2 x3 x4 x5 F G hI) ?_
      rintro r19 F19 G19 ⟨hI19, hB19, hT19, hO19, hK19, hp19⟩
      dsimp only
      have q_20 := hI.r 10 rfl
      have q_21 := hI19.r 10 rfl
      have e_22 : (F19 10).toInt = (F 10).toInt := hO19
      unfold cb_X5_tell_114
      refine WP.ret ?_
      exact ⟨hI19, (KB.tr (KB.rf : KB F G F G) hB19), (KT.tr (rfl : KT F F) hT19), (KO.tr (rfl : KO F F) hO19), (KK.tr (rfl : KK F F) hK19), trivial⟩
    · skip
      have q_23 := i_rng r9
      have e_24 := mt i_lt.mpr (show ¬ (r9 < (0 : Int32)) from c_10)
      unfold cb_X5_tell_20
      refine WP.ite (fun c_25 => ?_) (fun c_25 => ?_)
      · skip
        have q_26 := hI.r 41 rfl
        have e_27 := i_le.mp (show (F 41) ≤ r9 from c_25)
        unfold cb_X5_tell_47
        unfold cb_X5_tell_48
        refine WP.ite (fun _ => ?_) (fun c_28 => absurd (by decide) c_28)
        unfold cb_X5_tell_81
        unfold cb_X5_tell_82
        refine WP.ite (fun _ => ?_) (fun c_29 => absurd (by decide) c_29)
        unfold cb_X5_tell_103
        have q_30 := i_rng x2
        have q_31 := i_rng x3
        have q_32 := i_rng x4
        have q_33 := i_rng x5
        refine WP.bind (cs_X5_install hfu x1 x2 x3 x4 x5 F G hI) ?_
        rintro r34 F34 G34 ⟨hI34, hB34, hT34, hO34, hK34, hp34⟩
        dsimp only
        have q_35 := hI.r 10 rfl
        have q_36 := hI34.r 10 rfl
        have e_37 : (F34 10).toInt = (F 10).toInt := hO34
        unfold cb_X5_tell_114
        refine WP.ret ?_
        exact ⟨hI34, (KB.tr (KB.rf : KB F G F G) hB34), (KT.tr (rfl : KT F F) hT34), (KO.tr (rfl : KO F F) hO34), (KK.tr (rfl : KK F F) hK34), trivial⟩
      · skip
        have q_38 := hI.r 41 rfl
        have e_39 := mt i_le.mpr (show ¬ ((F 41) ≤ r9) from c_25)
        unfold cb_X5_tell_29
        refine WP.ix (show vp_in r9 700 from vp_in_iff.mpr ⟨by omega, by omega⟩) ?_
        refine WP.ite (fun c_40 => ?_) (fun c_40 => ?_)
        · skip
          have q_41 := i_rng (G 34 r9.toNatClampNeg)
          have q_42 := i_rng (F 42)
          have e_43 := i_eq.mp (show (G 34 r9.toNatClampNeg) = (F 42) from c_40)
          unfold cb_X5_tell_43
          unfold cb_X5_tell_48
          refine WP.ite (fun c_44 => absurd c_44 (by decide)) (fun _ => ?_)
          unfold cb_X5_tell_55
          refine WP.ix (show vp_in r9 700 from vp_in_iff.mpr ⟨by omega, by omega⟩) ?_
          refine WP.ite (fun c_45 => ?_) (fun c_45 => ?_)
          · skip
            have q_46 := i_rng (G 35 r9.toNatClampNeg)
            have l_47 : (4 : Int32).toInt = 4 := rfl
            have e_48 := i_eq.mp (show (G 35 r9.toNatClampNeg) = (4 : Int32) from c_45)
            unfold cb_X5_tell_66
            refine WP.ix (show vp_in r9 700 from vp_in_iff.mpr ⟨by omega, by omega⟩) ?_
            refine WP.ite (fun c_49 => ?_) (fun c_49 => ?_)
            · skip
              have q_50 := i_rng (G 36 r9.toNatClampNeg)
              have q_51 := i_rng x2
              have e_52 := i_le.mp (show (G 36 r9.toNatClampNeg) ≤ x2 from c_49)
              unfold cb_X5_tell_81
              unfold cb_X5_tell_82
              refine WP.ite (fun c_53 => absurd c_53 (by decide)) (fun _ => ?_)
              unfold cb_X5_tell_89
              refine WP.ite (fun _ => ?_) (fun c_54 => absurd (by decide) c_54)
              unfold cb_X5_tell_94
              have l_55 : (1 : Int32).toInt = 1 := rfl
              refine WP.bind (cs_X5_note hfu (1 : Int32) x2 F G hI) ?_
              rintro r56 F56 G56 ⟨hI56, hB56, hT56, hO56, hK56, hp56⟩
              dsimp only
              have q_57 := hI.r 10 rfl
              have q_58 := hI56.r 10 rfl
              have e_59 : (F56 10).toInt = (F 10).toInt := hO56
              unfold cb_X5_tell_100
              unfold cb_X5_tell_114
              refine WP.ret ?_
              exact ⟨hI56, (KB.tr (KB.rf : KB F G F G) hB56), (KT.tr (rfl : KT F F) hT56), (KO.tr (rfl : KO F F) hO56), (KK.tr (rfl : KK F F) hK56), trivial⟩
            · skip
              have q_60 := i_rng (G 36 r9.toNatClampNeg)
              have q_61 := i_rng x2
              have e_62 := mt i_le.mpr (show ¬ ((G 36 r9.toNatClampNeg) ≤ x2) from c_49)
              unfold cb_X5_tell_77
              unfold cb_X5_tell_82
              refine WP.ite (fun c_63 => absurd c_63 (by decide)) (fun _ => ?_)
              unfold cb_X5_tell_89
              refine WP.ite (fun c_64 => absurd c_64 (by decide)) (fun _ => ?_)
              unfold cb_X5_tell_103
              have q_65 := i_rng x3
              have q_66 := i_rng x4
              have q_67 := i_rng x5
              refine WP.bind (cs_X5_install hfu x1 x2 x3 x4 x5 F G hI) ?_
              rintro r68 F68 G68 ⟨hI68, hB68, hT68, hO68, hK68, hp68⟩
              dsimp only
              have q_69 := hI.r 10 rfl
              have q_70 := hI68.r 10 rfl
              have e_71 : (F68 10).toInt = (F 10).toInt := hO68
              unfold cb_X5_tell_114
              refine WP.ret ?_
              exact ⟨hI68, (KB.tr (KB.rf : KB F G F G) hB68), (KT.tr (rfl : KT F F) hT68), (KO.tr (rfl : KO F F) hO68), (KK.tr (rfl : KK F F) hK68), trivial⟩
          · skip
            have q_72 := i_rng (G 35 r9.toNatClampNeg)
            have l_73 : (4 : Int32).toInt = 4 := rfl
            have e_74 := mt i_eq.mpr (show ¬ ((G 35 r9.toNatClampNeg) = (4 : Int32)) from c_45)
            unfold cb_X5_tell_81
            unfold cb_X5_tell_82
            refine WP.ite (fun c_75 => absurd c_75 (by decide)) (fun _ => ?_)
            unfold cb_X5_tell_89
            refine WP.ite (fun _ => ?_) (fun c_76 => absurd (by decide) c_76)
            unfold cb_X5_tell_94
            have l_77 : (1 : Int32).toInt = 1 := rfl
            have q_78 := i_rng x2
            refine WP.bind (cs_X5_note hfu (1 : Int32) x2 F G hI) ?_
            rintro r79 F79 G79 ⟨hI79, hB79, hT79, hO79, hK79, hp79⟩
            dsimp only
            have q_80 := hI.r 10 rfl
            have q_81 := hI79.r 10 rfl
            have e_82 : (F79 10).toInt = (F 10).toInt := hO79
            unfold cb_X5_tell_100
            unfold cb_X5_tell_114
            refine WP.ret ?_
            exact ⟨hI79, (KB.tr (KB.rf : KB F G F G) hB79), (KT.tr (rfl : KT F F) hT79), (KO.tr (rfl : KO F F) hO79), (KK.tr (rfl : KK F F) hK79), trivial⟩
        · skip
          have q_83 := i_rng (G 34 r9.toNatClampNeg)
          have q_84 := i_rng (F 42)
          have e_85 := mt i_eq.mpr (show ¬ ((G 34 r9.toNatClampNeg) = (F 42)) from c_40)
          unfold cb_X5_tell_47
          unfold cb_X5_tell_48
          refine WP.ite (fun _ => ?_) (fun c_86 => absurd (by decide) c_86)
          unfold cb_X5_tell_81
          unfold cb_X5_tell_82
          refine WP.ite (fun _ => ?_) (fun c_87 => absurd (by decide) c_87)
          unfold cb_X5_tell_103
          have q_88 := i_rng x2
          have q_89 := i_rng x3
          have q_90 := i_rng x4
          have q_91 := i_rng x5
          refine WP.bind (cs_X5_install hfu x1 x2 x3 x4 x5 F G hI) ?_
          rintro r92 F92 G92 ⟨hI92, hB92, hT92, hO92, hK92, hp92⟩
          dsimp only
          have q_93 := hI.r 10 rfl
          have q_94 := hI92.r 10 rfl
          have e_95 : (F92 10).toInt = (F 10).toInt := hO92
          unfold cb_X5_tell_114
          refine WP.ret ?_
          exact ⟨hI92, (KB.tr (KB.rf : KB F G F G) hB92), (KT.tr (rfl : KT F F) hT92), (KO.tr (rfl : KO F F) hO92), (KK.tr (rfl : KK F F) hK92), trivial⟩
