theorem cs_X8_tellInt {fu : Nat} (hfu : 8589934592 ≤ fu) (x1 : Int32) (x2 : Int32) (F : PF) (G : PG) (hI : CI F G) : WP (cf_X8_tellInt fu x1 x2 F G) (fun r' F' G' => CI F' G' ∧ KB F G F' G' ∧ KT F F' ∧ KO F F' ∧ KK F F' ∧ True) := by
  unfold cf_X8_tellInt
  unfold cb_X8_tellInt_0
  refine WP.ite (fun c_1 => ?_) (fun c_1 => ?_)
  · skip
    have q_2 := i_rng x1
    have l_3 : (0 : Int32).toInt = 0 := rfl
    have e_4 := i_lt.mp (show x1 < (0 : Int32) from c_1)
    unfold cb_X8_tellInt_18
    refine WP.ret ?_
    exact ⟨hI, (KB.rf : KB F G F G), (rfl : KT F F), (rfl : KO F F), (rfl : KK F F), trivial⟩
  · skip
    have q_5 := i_rng x1
    have l_6 : (0 : Int32).toInt = 0 := rfl
    have e_7 := mt i_lt.mpr (show ¬ (x1 < (0 : Int32)) from c_1)
    unfold cb_X8_tellInt_4
    refine WP.ite (fun c_8 => ?_) (fun c_8 => ?_)
    · skip
      have l_9 : (2000 : Int32).toInt = 2000 := rfl
      have e_10 := i_le.mp (show (2000 : Int32) ≤ x1 from c_8)
      unfold cb_X8_tellInt_18
      refine WP.ret ?_
      exact ⟨hI, (KB.rf : KB F G F G), (rfl : KT F F), (rfl : KO F F), (rfl : KK F F), trivial⟩
    · skip
      have l_11 : (2000 : Int32).toInt = 2000 := rfl
      have e_12 := mt i_le.mpr (show ¬ ((2000 : Int32) ≤ x1) from c_8)
      unfold cb_X8_tellInt_11
      refine WP.ix (show vp_in x1 2000 from vp_in_iff.mpr ⟨by omega, by omega⟩) ?_
      have j_13 : CI F (gup G 86 x1.toNatClampNeg x2) := CI.g (by decide) hI
      unfold cb_X8_tellInt_18
      refine WP.ret ?_
      exact ⟨j_13, (KB.g (by decide) (KB.rf : KB F G F G)), (rfl : KT F F), (rfl : KO F F), (rfl : KK F F), trivial⟩
theorem cs_X8_firstWord {fu : Nat} (hfu : 8589934592 ≤ fu) (x1 : Int32) (F : PF) (G : PG) (hI : CI F G) : WP (cf_X8_firstWord fu x1 F G) (fun r' F' G' => F = F' ∧ G = G' ∧ True) := by
  unfold cf_X8_firstWord
  unfold cb_X8_firstWord_0
  refine WP.ite (fun c_1 => ?_) (fun c_1 => ?_)
  · skip
    have q_2 := i_rng x1
    have l_3 : (0 : Int32).toInt = 0 := rfl
    have e_4 := i_lt.mp (show x1 < (0 : Int32) from c_1)
    unfold cb_X8_firstWord_11
    unfold cb_X8_firstWord_21
    refine WP.ret ?_
    exact ⟨rfl, rfl, trivial⟩
  · skip
    have q_5 := i_rng x1
    have l_6 : (0 : Int32).toInt = 0 := rfl
    have e_7 := mt i_lt.mpr (show ¬ (x1 < (0 : Int32)) from c_1)
    unfold cb_X8_firstWord_4
    refine WP.ite (fun c_8 => ?_) (fun c_8 => ?_)
    · skip
      have l_9 : (2000 : Int32).toInt = 2000 := rfl
      have e_10 := i_lt.mp (show x1 < (2000 : Int32) from c_8)
      unfold cb_X8_firstWord_15
      refine WP.ix (show vp_in x1 2000 from vp_in_iff.mpr ⟨by omega, by omega⟩) ?_
      unfold cb_X8_firstWord_21
      refine WP.ret ?_
      exact ⟨rfl, rfl, trivial⟩
    · skip
      have l_11 : (2000 : Int32).toInt = 2000 := rfl
      have e_12 := mt i_lt.mpr (show ¬ (x1 < (2000 : Int32)) from c_8)
      unfold cb_X8_firstWord_11
      unfold cb_X8_firstWord_21
      refine WP.ret ?_
      exact ⟨rfl, rfl, trivial⟩
theorem cs_X8_tellByte {fu : Nat} (hfu : 8589934592 ≤ fu) (x1 : Int32) (x2 : Int32) (x3 : Int32) (F : PF) (G : PG) (hI : CI F G) : WP (cf_X8_tellByte fu x1 x2 x3 F G) (fun r' F' G' => CI F' G' ∧ KB F G F' G' ∧ KT F F' ∧ KO F F' ∧ KK F F' ∧ True) := by
  unfold cf_X8_tellByte
  unfold cb_X8_tellByte_0
  have q_1 := i_rng x1
  have q_2 := i_rng x2
  have l_3 : (2 : Int32).toInt = 2 := rfl
  have e_5 : ((x2 >>> ((2 : Int32) &&& 31))).toInt = x2.toInt / 4 := i_shr 2 (by decide)
  first | have e_6 : (x1 + (x2 >>> ((2 : Int32) &&& 31))).toInt = x1.toInt + ((x2 >>> ((2 : Int32) &&& 31)).toInt) := i_addn x1 rfl (by omega) (by omega) | have e_7 := i_rng (x1 + (x2 >>> ((2 : Int32) &&& 31)))
  refine WP.bind (cs_X8_firstWord hfu (x1 + (x2 >>> ((2 : Int32) &&& 31))) F G hI) ?_
  rintro r8 _ _ ⟨rfl, rfl, hp8⟩
  dsimp only
  unfold cb_X8_tellByte_24
  have q_9 := i_rng r8
  have l_10 : (255 : Int32).toInt = 255 := rfl
  have l_11 : (3 : Int32).toInt = 3 := rfl
  have e_13 := i_and x2 (m := 3) 2 (by decide) (by decide)
  have l_14 : (8 : Int32).toInt = 8 := rfl
  have q_16 := i_rng ((x2 &&& (3 : Int32)) * (8 : Int32))
  have q_18 := i_rng ((255 : Int32) <<< (((x2 &&& (3 : Int32)) * (8 : Int32)) &&& 31))
  have l_19 : (-1 : Int32).toInt = -1 := rfl
  have q_21 := i_rng (((255 : Int32) <<< (((x2 &&& (3 : Int32)) * (8 : Int32)) &&& 31)) ^^^ (-1 : Int32))
  have q_23 := i_rng (r8 &&& (((255 : Int32) <<< (((x2 &&& (3 : Int32)) * (8 : Int32)) &&& 31)) ^^^ (-1 : Int32)))
  have q_24 := i_rng x3
  have e_26 := i_and x3 (m := 255) 8 (by decide) (by decide)
  have q_28 := i_rng ((x3 &&& (255 : Int32)) <<< (((x2 &&& (3 : Int32)) * (8 : Int32)) &&& 31))
  have q_30 := i_rng ((r8 &&& (((255 : Int32) <<< (((x2 &&& (3 : Int32)) * (8 : Int32)) &&& 31)) ^^^ (-1 : Int32))) ||| ((x3 &&& (255 : Int32)) <<< (((x2 &&& (3 : Int32)) * (8 : Int32)) &&& 31)))
  refine WP.bind (cs_X8_tellInt hfu (x1 + (x2 >>> ((2 : Int32) &&& 31))) ((r8 &&& (((255 : Int32) <<< (((x2 &&& (3 : Int32)) * (8 : Int32)) &&& 31)) ^^^ (-1 : Int32))) ||| ((x3 &&& (255 : Int32)) <<< (((x2 &&& (3 : Int32)) * (8 : Int32)) &&& 31))) F G hI) ?_
  rintro r31 F31 G31 ⟨hI31, hB31, hT31, hO31, hK31, hp31⟩
  dsimp only
  have q_32 := hI.r 10 rfl
  have q_33 := hI31.r 10 rfl
  have e_34 : (F31 10).toInt = (F 10).toInt := hO31
  unfold cb_X8_tellByte_45
  refine WP.ret ?_
  exact ⟨hI31, (KB.tr (KB.rf : KB F G F G) hB31), (KT.tr (rfl : KT F F) hT31), (KO.tr (rfl : KO F F) hO31), (KK.tr (rfl : KK F F) hK31), trivial⟩
theorem cz_X4_elements_19 {fu : Nat} (hfu : 8589934592 ≤ fu) {F0 : PF} {G0 : PG} : ∀ (n : Nat) (x1 : Int32) (x2 : Int32) (x3 : Int32) (x4 : Int32) (x5 : Int32) (F : PF) (G : PG) (hI : CI F G) (hB : KB F0 G0 F G) (hT : KT F0 F) (i_0 : (F 10).toInt = (F0 10).toInt + 1) (i_1 : -1 ≤ (F0 10).toInt) (hn : (2147483647 - x5.toInt).toNat < n), WP (cl_X4_elements_19 fu n x1 x2 x3 x4 x5 F G) (fun r' F' G' => CI F' G' ∧ KB F0 G0 F' G' ∧ KT F0 F' ∧ KO F0 F' ∧ True) := by
  intro n
  induction n with
  | zero =>
    intro x1 x2 x3 x4 x5 F G hI hB hT i_0 i_1 hn
    exact absurd hn (Nat.not_lt_zero _)
  | succ n ihn =>
    intro x1 x2 x3 x4 x5 F G hI hB hT i_0 i_1 hn
    show WP (cb_X4_elements_19 fu (cl_X4_elements_19 fu n)  x1 x2 x3 x4 x5 F G) _
    unfold cb_X4_elements_19
    refine WP.ite (fun c_1 => ?_) (fun c_1 => ?_)
    · skip
      have l_2 : (4001 : Int32).toInt = 4001 := rfl
      have q_3 := i_rng x5
      have e_4 := i_le.mp (show (4001 : Int32) ≤ x5 from c_1)
      unfold cb_X4_elements_140
      have l_5 : (24 : Int32).toInt = 24 := rfl
      have q_6 := hI.r 10 rfl
      refine WP.bind (cs_X2_closesWith hfu (24 : Int32) F G hI (show 0 ≤ (F 10).toInt by omega) (show (24 : Int32).toInt ≠ -2 by omega)) ?_
      rintro r7 F7 G7 ⟨hI7, hB7, hT7, hS7, hp7⟩
      dsimp only
      have q_8 := hI7.r 10 rfl
      have e_9 : (F7 10).toInt = (F 10).toInt - 1 := hp7
      unfold cb_X4_elements_149
      refine WP.ret ?_
      have q_10 := i_rng (F0 10)
      exact ⟨hI7, (KB.tr hB hB7), (KT.tr hT hT7), (show (F7 10).toInt = (F0 10).toInt by omega), trivial⟩
    · skip
      have l_11 : (4001 : Int32).toInt = 4001 := rfl
      have q_12 := i_rng x5
      have e_13 := mt i_le.mpr (show ¬ ((4001 : Int32) ≤ x5) from c_1)
      unfold cb_X4_elements_27
      refine WP.ite (fun c_14 => ?_) (fun c_14 => ?_)
      · skip
        have q_15 := i_rng x4
        have l_16 : (0 : Int32).toInt = 0 := rfl
        have e_17 := i_eq.mp (show x4 = (0 : Int32) from c_14)
        unfold cb_X4_elements_140
        have l_18 : (24 : Int32).toInt = 24 := rfl
        have q_19 := hI.r 10 rfl
        refine WP.bind (cs_X2_closesWith hfu (24 : Int32) F G hI (show 0 ≤ (F 10).toInt by omega) (show (24 : Int32).toInt ≠ -2 by omega)) ?_
        rintro r20 F20 G20 ⟨hI20, hB20, hT20, hS20, hp20⟩
        dsimp only
        have q_21 := hI20.r 10 rfl
        have e_22 : (F20 10).toInt = (F 10).toInt - 1 := hp20
        unfold cb_X4_elements_149
        refine WP.ret ?_
        have q_23 := i_rng (F0 10)
        exact ⟨hI20, (KB.tr hB hB20), (KT.tr hT hT20), (show (F20 10).toInt = (F0 10).toInt by omega), trivial⟩
      · skip
        have q_24 := i_rng x4
        have l_25 : (0 : Int32).toInt = 0 := rfl
        have e_26 := mt i_eq.mpr (show ¬ (x4 = (0 : Int32)) from c_14)
        unfold cb_X4_elements_32
        refine WP.bind (cs_X3_constant hfu F G hI) ?_
        rintro r27 F27 G27 ⟨hI27, hB27, hT27, hO27, hp27⟩
        dsimp only
        have q_28 := hI.r 10 rfl
        have q_29 := hI27.r 10 rfl
        have e_30 : (F27 10).toInt = (F 10).toInt := hO27
        unfold cb_X4_elements_48
        refine WP.ite (fun c_31 => ?_) (fun c_31 => ?_)
        · skip
          have q_32 := i_rng x3
          have e_33 := i_lt.mp (show x5 < x3 from c_31)
          unfold cb_X4_elements_70
          refine WP.ite (fun c_34 => ?_) (fun c_34 => ?_)
          · skip
            have q_35 := i_rng x1
            have l_36 : (2 : Int32).toInt = 2 := rfl
            have e_37 := i_eq.mp (show x1 = (2 : Int32) from c_34)
            unfold cb_X4_elements_75
            have q_38 := i_rng x2
            first | have e_39 : (x2 + x5).toInt = x2.toInt + (x5.toInt) := i_addn x2 rfl (by omega) (by omega) | have e_40 := i_rng (x2 + x5)
            have q_41 := i_rng r27
            refine WP.bind (cs_X8_tellInt hfu (x2 + x5) r27 F27 G27 hI27) ?_
            rintro r42 F42 G42 ⟨hI42, hB42, hT42, hO42, hK42, hp42⟩
            dsimp only
            have q_43 := hI42.r 10 rfl
            have e_44 : (F42 10).toInt = (F27 10).toInt := hO42
            unfold cb_X4_elements_88
            unfold cb_X4_elements_103
            refine WP.ite (fun c_45 => ?_) (fun c_45 => ?_)
            · skip
              have q_46 := i_rng (F42 11)
              have l_47 : (25 : Int32).toInt = 25 := rfl
              have e_48 := i_eq.mp (show (F42 11) = (25 : Int32) from c_45)
              unfold cb_X4_elements_115
              unfold cb_X4_elements_120
              refine WP.ite (fun c_49 => absurd c_49 (by decide)) (fun _ => ?_)
              unfold cb_X4_elements_127
              refine WP.bind (cs_X2_next hfu F42 G42 hI42) ?_
              rintro r50 F50 G50 ⟨hI50, hB50, hT50, hO50, hp50⟩
              dsimp only
              have q_51 := hI50.r 10 rfl
              have e_52 : (F50 10).toInt = (F42 10).toInt := hO50
              unfold cb_X4_elements_134
              have l_53 : (1 : Int32).toInt = 1 := rfl
              first | have e_54 : (x5 + (1 : Int32)).toInt = x5.toInt + (1) := i_addn x5 rfl (by omega) (by omega) | have e_55 := i_rng (x5 + (1 : Int32))
              exact ihn x1 x2 x3 (1 : Int32) (x5 + (1 : Int32)) F50 G50 hI50 (KB.tr (KB.tr (KB.tr hB hB27) hB42) hB50) (KT.tr (KT.tr (KT.tr hT hT27) hT42) hT50) (show (F50 10).toInt = (F0 10).toInt + 1 by omega) (show -1 ≤ (F0 10).toInt by omega) (by omega)
            · skip
              have q_56 := i_rng (F42 11)
              have l_57 : (25 : Int32).toInt = 25 := rfl
              have e_58 := mt i_eq.mpr (show ¬ ((F42 11) = (25 : Int32)) from c_45)
              unfold cb_X4_elements_119
              unfold cb_X4_elements_120
              refine WP.ite (fun _ => ?_) (fun c_59 => absurd (by decide) c_59)
              unfold cb_X4_elements_134
              first | have e_60 : (x5 + (1 : Int32)).toInt = x5.toInt + (1) := i_addn x5 rfl (by omega) (by omega) | have e_61 := i_rng (x5 + (1 : Int32))
              exact ihn x1 x2 x3 (0 : Int32) (x5 + (1 : Int32)) F42 G42 hI42 (KB.tr (KB.tr hB hB27) hB42) (KT.tr (KT.tr hT hT27) hT42) (show (F42 10).toInt = (F0 10).toInt + 1 by omega) (show -1 ≤ (F0 10).toInt by omega) (by omega)
          · skip
            have q_62 := i_rng x1
            have l_63 : (2 : Int32).toInt = 2 := rfl
            have e_64 := mt i_eq.mpr (show ¬ (x1 = (2 : Int32)) from c_34)
            unfold cb_X4_elements_91
            have q_65 := i_rng x2
            have q_66 := i_rng r27
            refine WP.bind (cs_X8_tellByte hfu x2 x5 r27 F27 G27 hI27) ?_
            rintro r67 F67 G67 ⟨hI67, hB67, hT67, hO67, hK67, hp67⟩
            dsimp only
            have q_68 := hI67.r 10 rfl
            have e_69 : (F67 10).toInt = (F27 10).toInt := hO67
            unfold cb_X4_elements_103
            refine WP.ite (fun c_70 => ?_) (fun c_70 => ?_)
            · skip
              have q_71 := i_rng (F67 11)
              have l_72 : (25 : Int32).toInt = 25 := rfl
              have e_73 := i_eq.mp (show (F67 11) = (25 : Int32) from c_70)
              unfold cb_X4_elements_115
              unfold cb_X4_elements_120
              refine WP.ite (fun c_74 => absurd c_74 (by decide)) (fun _ => ?_)
              unfold cb_X4_elements_127
              refine WP.bind (cs_X2_next hfu F67 G67 hI67) ?_
              rintro r75 F75 G75 ⟨hI75, hB75, hT75, hO75, hp75⟩
              dsimp only
              have q_76 := hI75.r 10 rfl
              have e_77 : (F75 10).toInt = (F67 10).toInt := hO75
              unfold cb_X4_elements_134
              have l_78 : (1 : Int32).toInt = 1 := rfl
              first | have e_79 : (x5 + (1 : Int32)).toInt = x5.toInt + (1) := i_addn x5 rfl (by omega) (by omega) | have e_80 := i_rng (x5 + (1 : Int32))
              exact ihn x1 x2 x3 (1 : Int32) (x5 + (1 : Int32)) F75 G75 hI75 (KB.tr (KB.tr (KB.tr hB hB27) hB67) hB75) (KT.tr (KT.tr (KT.tr hT hT27) hT67) hT75) (show (F75 10).toInt = (F0 10).toInt + 1 by omega) (show -1 ≤ (F0 10).toInt by omega) (by omega)
            · skip
              have q_81 := i_rng (F67 11)
              have l_82 : (25 : Int32).toInt = 25 := rfl
              have e_83 := mt i_eq.mpr (show ¬ ((F67 11) = (25 : Int32)) from c_70)
              unfold cb_X4_elements_119
              unfold cb_X4_elements_120
              refine WP.ite (fun _ => ?_) (fun c_84 => absurd (by decide) c_84)
              unfold cb_X4_elements_134
              first | have e_85 : (x5 + (1 : Int32)).toInt = x5.toInt + (1) := i_addn x5 rfl (by omega) (by omega) | have e_86 := i_rng (x5 + (1 : Int32))
              exact ihn x1 x2 x3 (0 : Int32) (x5 + (1 : Int32)) F67 G67 hI67 (KB.tr (KB.tr hB hB27) hB67) (KT.tr (KT.tr hT hT27) hT67) (show (F67 10).toInt = (F0 10).toInt + 1 by omega) (show -1 ≤ (F0 10).toInt by omega) (by omega)
        · skip
          have q_87 := i_rng x3
          have e_88 := mt i_lt.mpr (show ¬ (x5 < x3) from c_31)
          unfold cb_X4_elements_56
          have l_89 : (7 : Int32).toInt = 7 := rfl
          have q_90 := i_rng (F 13)
          refine WP.bind (cs_X5_note hfu (7 : Int32) (F 13) F27 G27 hI27) ?_
          rintro r91 F91 G91 ⟨hI91, hB91, hT91, hO91, hK91, hp91⟩
          dsimp only
          have q_92 := hI91.r 10 rfl
          have e_93 : (F91 10).toInt = (F27 10).toInt := hO91
          unfold cb_X4_elements_67
          unfold cb_X4_elements_103
          refine WP.ite (fun c_94 => ?_) (fun c_94 => ?_)
          · skip
            have q_95 := i_rng (F91 11)
            have l_96 : (25 : Int32).toInt = 25 := rfl
            have e_97 := i_eq.mp (show (F91 11) = (25 : Int32) from c_94)
            unfold cb_X4_elements_115
            unfold cb_X4_elements_120
            refine WP.ite (fun c_98 => absurd c_98 (by decide)) (fun _ => ?_)
            unfold cb_X4_elements_127
            refine WP.bind (cs_X2_next hfu F91 G91 hI91) ?_
            rintro r99 F99 G99 ⟨hI99, hB99, hT99, hO99, hp99⟩
            dsimp only
            have q_100 := hI99.r 10 rfl
            have e_101 : (F99 10).toInt = (F91 10).toInt := hO99
            unfold cb_X4_elements_134
            have q_102 := i_rng x1
            have q_103 := i_rng x2
            have l_104 : (1 : Int32).toInt = 1 := rfl
            first | have e_105 : (x5 + (1 : Int32)).toInt = x5.toInt + (1) := i_addn x5 rfl (by omega) (by omega) | have e_106 := i_rng (x5 + (1 : Int32))
            exact ihn x1 x2 x3 (1 : Int32) (x5 + (1 : Int32)) F99 G99 hI99 (KB.tr (KB.tr (KB.tr hB hB27) hB91) hB99) (KT.tr (KT.tr (KT.tr hT hT27) hT91) hT99) (show (F99 10).toInt = (F0 10).toInt + 1 by omega) (show -1 ≤ (F0 10).toInt by omega) (by omega)
          · skip
            have q_107 := i_rng (F91 11)
            have l_108 : (25 : Int32).toInt = 25 := rfl
            have e_109 := mt i_eq.mpr (show ¬ ((F91 11) = (25 : Int32)) from c_94)
            unfold cb_X4_elements_119
            unfold cb_X4_elements_120
            refine WP.ite (fun _ => ?_) (fun c_110 => absurd (by decide) c_110)
            unfold cb_X4_elements_134
            have q_111 := i_rng x1
            have q_112 := i_rng x2
            first | have e_113 : (x5 + (1 : Int32)).toInt = x5.toInt + (1) := i_addn x5 rfl (by omega) (by omega) | have e_114 := i_rng (x5 + (1 : Int32))
            exact ihn x1 x2 x3 (0 : Int32) (x5 + (1 : Int32)) F91 G91 hI91 (KB.tr (KB.tr hB hB27) hB91) (KT.tr (KT.tr hT hT27) hT91) (show (F91 10).toInt = (F0 10).toInt + 1 by omega) (show -1 ≤ (F0 10).toInt by omega) (by omega)
theorem cs_X4_elements {fu : Nat} (hfu : 8589934592 ≤ fu) (x1 : Int32) (x2 : Int32) (x3 : Int32) (F : PF) (G : PG) (hI : CI F G) : WP (cf_X4_elements fu x1 x2 x3 F G) (fun r' F' G' => CI F' G' ∧ KB F G F' G' ∧ KT F F' ∧ KO F F' ∧ True) := by
  unfold cf_X4_elements
  unfold cb_X4_elements_0
  have l_1 : (23 : Int32).toInt = 23 := rfl
  refine WP.bind (cs_X2_opens hfu (23 : Int32) F G hI (show (23 : Int32).toInt ≠ -2 by omega)) ?_
  rintro r2 F2 G2 ⟨hI2, hB2, hT2, hS2, hp2⟩
  dsimp only
  have q_3 := b_rng (hp2.1)
  have q_4 := hI.r 10 rfl
  have q_5 := hI2.r 10 rfl
  have q_6 := i_rng (F 11)
  have e_7 : r2.toInt = 1 → (F2 10).toInt = (F 10).toInt + 1 ∧ (F 10).toInt < 40 ∧ (F 11).toInt ≠ -2 := hp2.2.1
  have e_8 : r2.toInt = 0 → (F2 10).toInt = (F 10).toInt ∧ (F2 11).toInt = -2 := hp2.2.2
  unfold cb_X4_elements_9
  refine WP.ite (fun c_9 => ?_) (fun c_9 => ?_)
  · skip
    have l_10 : (0 : Int32).toInt = 0 := rfl
    have e_11 := i_eq.mp (show r2 = (0 : Int32) from c_9)
    unfold cb_X4_elements_12
    refine WP.ret ?_
    exact ⟨hI2, (KB.tr (KB.rf : KB F G F G) hB2), (KT.tr (rfl : KT F F) hT2), (show (F2 10).toInt = (F 10).toInt by omega), trivial⟩
  · skip
    have l_12 : (0 : Int32).toInt = 0 := rfl
    have e_13 := mt i_eq.mpr (show ¬ (r2 = (0 : Int32)) from c_9)
    unfold cb_X4_elements_13
    have q_14 := i_rng x1
    have q_15 := i_rng x2
    have q_16 := i_rng x3
    have l_17 : (1 : Int32).toInt = 1 := rfl
    exact cz_X4_elements_19 (F0 := F) (G0 := G) hfu fu x1 x2 x3 (1 : Int32) (0 : Int32) F2 G2 hI2 (KB.tr (KB.rf : KB F G F G) hB2) (KT.tr (rfl : KT F F) hT2) (show (F2 10).toInt = (F 10).toInt + 1 by omega) (show -1 ≤ (F 10).toInt by omega) (by omega)
theorem cs_X5_globalRoom {fu : Nat} (hfu : 8589934592 ≤ fu) (x1 : Int32) (x2 : Int32) (F : PF) (G : PG) (hI : CI F G) : WP (cf_X5_globalRoom fu x1 x2 F G) (fun r' F' G' => CI F' G' ∧ KB F G F' G' ∧ KT F F' ∧ KO F F' ∧ KK F F' ∧ True) := by
  unfold cf_X5_globalRoom
  unfold cb_X5_globalRoom_0
  refine WP.ite (fun c_1 => ?_) (fun c_1 => ?_)
  · skip
    have q_2 := hI.r 45 rfl
    have l_3 : (0 : Int32).toInt = 0 := rfl
    have e_4 := i_eq.mp (show (F 45) = (0 : Int32) from c_1)
    unfold cb_X5_globalRoom_48
    refine WP.ret ?_
    exact ⟨hI, (KB.rf : KB F G F G), (rfl : KT F F), (rfl : KO F F), (rfl : KK F F), trivial⟩
  · skip
    have q_5 := hI.r 45 rfl
    have l_6 : (0 : Int32).toInt = 0 := rfl
    have e_7 := mt i_eq.mpr (show ¬ ((F 45) = (0 : Int32)) from c_1)
    unfold cb_X5_globalRoom_15
    have q_8 := i_rng (F 75)
    have q_9 := i_rng x1
    first | have e_10 : ((F 75) + x1).toInt = (F 75).toInt + (x1.toInt) := i_addn (F 75) rfl (by omega) (by omega) | have e_11 := i_rng ((F 75) + x1)
    have j_12 : CI (fup F 75 ((F 75) + x1)) G := CI.fr rfl hI
    unfold cb_X5_globalRoom_28
    refine WP.ite (fun c_13 => ?_) (fun c_13 => ?_)
    · skip
      have l_14 : (2000 : Int32).toInt = 2000 := rfl
      have e_15 := i_le.mp (show ((F 75) + x1) ≤ (2000 : Int32) from c_13)
      unfold cb_X5_globalRoom_48
      refine WP.ret ?_
      exact ⟨j_12, (KB.f (by decide) (KB.rf : KB F G F G)), (KT.f (by decide) (rfl : KT F F)), (KO.f (by decide) (rfl : KO F F)), (KK.f (by decide) (rfl : KK F F)), trivial⟩
    · skip
      have l_16 : (2000 : Int32).toInt = 2000 := rfl
      have e_17 := mt i_le.mpr (show ¬ (((F 75) + x1) ≤ (2000 : Int32)) from c_13)
      unfold cb_X5_globalRoom_41
      have l_18 : (8 : Int32).toInt = 8 := rfl
      have q_19 := i_rng x2
      refine WP.bind (cs_X5_note hfu (8 : Int32) x2 (fup F 75 ((F 75) + x1)) G j_12) ?_
      rintro r20 F20 G20 ⟨hI20, hB20, hT20, hO20, hK20, hp20⟩
      dsimp only
      have q_21 := hI.r 10 rfl
      have q_22 := hI20.r 10 rfl
      have e_23 : (F20 10).toInt = (F 10).toInt := hO20
      unfold cb_X5_globalRoom_48
      refine WP.ret ?_
      exact ⟨hI20, (KB.tr (KB.f (by decide) (KB.rf : KB F G F G)) hB20), (KT.tr (KT.f (by decide) (rfl : KT F F)) hT20), (KO.tr (KO.f (by decide) (rfl : KO F F)) hO20), (KK.tr (KK.f (by decide) (rfl : KK F F)) hK20), trivial⟩
theorem cs_X4_globalArray {fu : Nat} (hfu : 8589934592 ≤ fu) (x1 : Int32) (x2 : Int32) (x3 : Int32) (F : PF) (G : PG) (hI : CI F G) : WP (cf_X4_globalArray fu x1 x2 x3 F G) (fun r' F' G' => CI F' G' ∧ KB F G F' G' ∧ KT F F' ∧ KO F F' ∧ True) := by
  unfold cf_X4_globalArray
  unfold cb_X4_globalArray_0
  refine WP.bind (cs_X3_arraySize hfu F G hI) ?_
  rintro r1 F1 G1 ⟨hI1, hB1, hT1, hO1, hp1⟩
  dsimp only
  have q_2 := hI.r 10 rfl
  have q_3 := hI1.r 10 rfl
  have e_4 : (F1 10).toInt = (F 10).toInt := hO1
  unfold cb_X4_globalArray_7
  have q_5 := i_rng x3
  have q_6 := i_rng r1
  refine WP.bind (cs_X4_wordsOf hfu x3 r1 F1 G1 hI1) ?_
  rintro r7 _ _ ⟨rfl, rfl, hp7⟩
  dsimp only
  unfold cb_X4_globalArray_19
  have q_8 := i_rng r7
  have q_9 := i_rng x2
  refine WP.bind (cs_X5_globalRoom hfu r7 x2 F1 G1 hI1) ?_
  rintro r10 F10 G10 ⟨hI10, hB10, hT10, hO10, hK10, hp10⟩
  dsimp only
  have q_11 := hI10.r 10 rfl
  have e_12 : (F10 10).toInt = (F1 10).toInt := hO10
  unfold cb_X4_globalArray_23
  refine WP.ite (fun c_13 => ?_) (fun c_13 => ?_)
  · skip
    have q_14 := i_rng (F10 11)
    have l_15 : (29 : Int32).toInt = 29 := rfl
    have e_16 := i_eq.mp (show (F10 11) = (29 : Int32) from c_13)
    unfold cb_X4_globalArray_37
    refine WP.bind (cs_X2_next hfu F10 G10 hI10) ?_
    rintro r17 F17 G17 ⟨hI17, hB17, hT17, hO17, hp17⟩
    dsimp only
    have q_18 := hI17.r 10 rfl
    have e_19 : (F17 10).toInt = (F10 10).toInt := hO17
    unfold cb_X4_globalArray_44
    have q_20 := i_rng r10
    refine WP.bind (cs_X4_elements hfu x3 r10 r1 F17 G17 hI17) ?_
    rintro r21 F21 G21 ⟨hI21, hB21, hT21, hO21, hp21⟩
    dsimp only
    have q_22 := hI21.r 10 rfl
    have e_23 : (F21 10).toInt = (F17 10).toInt := hO21
    unfold cb_X4_globalArray_53
    have l_24 : (26 : Int32).toInt = 26 := rfl
    refine WP.bind (cs_X2_expect hfu (26 : Int32) F21 G21 hI21 (show (26 : Int32).toInt ≠ -2 by omega)) ?_
    rintro r25 F25 G25 ⟨hI25, hB25, hT25, hO25, hS25, hp25⟩
    dsimp only
    have q_26 := hI25.r 10 rfl
    have e_27 : (F25 10).toInt = (F21 10).toInt := hO25
    unfold cb_X4_globalArray_62
    have q_28 := i_rng x1
    refine WP.bind (cs_X5_tell hfu x1 x2 x3 r10 r1 F25 G25 hI25) ?_
    rintro r29 F29 G29 ⟨hI29, hB29, hT29, hO29, hK29, hp29⟩
    dsimp only
    have q_30 := hI29.r 10 rfl
    have e_31 : (F29 10).toInt = (F25 10).toInt := hO29
    unfold cb_X4_globalArray_76
    refine WP.ret ?_
    exact ⟨hI29, (KB.tr (KB.tr (KB.tr (KB.tr (KB.tr (KB.tr (KB.rf : KB F G F G) hB1) hB10) hB17) hB21) hB25) hB29), (KT.tr (KT.tr (KT.tr (KT.tr (KT.tr (KT.tr (rfl : KT F F) hT1) hT10) hT17) hT21) hT25) hT29), (KO.tr (KO.tr (KO.tr (KO.tr (KO.tr (KO.tr (rfl : KO F F) hO1) hO10) hO17) hO21) hO25) hO29), trivial⟩
  · skip
    have q_32 := i_rng (F10 11)
    have l_33 : (29 : Int32).toInt = 29 := rfl
    have e_34 := mt i_eq.mpr (show ¬ ((F10 11) = (29 : Int32)) from c_13)
    unfold cb_X4_globalArray_53
    have l_35 : (26 : Int32).toInt = 26 := rfl
    refine WP.bind (cs_X2_expect hfu (26 : Int32) F10 G10 hI10 (show (26 : Int32).toInt ≠ -2 by omega)) ?_
    rintro r36 F36 G36 ⟨hI36, hB36, hT36, hO36, hS36, hp36⟩
    dsimp only
    have q_37 := hI36.r 10 rfl
    have e_38 : (F36 10).toInt = (F10 10).toInt := hO36
    unfold cb_X4_globalArray_62
    have q_39 := i_rng x1
    have q_40 := i_rng r10
    refine WP.bind (cs_X5_tell hfu x1 x2 x3 r10 r1 F36 G36 hI36) ?_
    rintro r41 F41 G41 ⟨hI41, hB41, hT41, hO41, hK41, hp41⟩
    dsimp only
    have q_42 := hI41.r 10 rfl
    have e_43 : (F41 10).toInt = (F36 10).toInt := hO41
    unfold cb_X4_globalArray_76
    refine WP.ret ?_
    exact ⟨hI41, (KB.tr (KB.tr (KB.tr (KB.tr (KB.rf : KB F G F G) hB1) hB10) hB36) hB41), (KT.tr (KT.tr (KT.tr (KT.tr (rfl : KT F F) hT1) hT10) hT36) hT41), (KO.tr (KO.tr (KO.tr (KO.tr (rfl : KO F F) hO1) hO10) hO36) hO41), trivial⟩
theorem cz_X5_leave_7 {fu : Nat} (hfu : 8589934592 ≤ fu) {F0 : PF} {G0 : PG} : ∀ (n : Nat) (x1 : Int32) (F : PF) (G : PG) (hI : CI F G) (hB : KB F0 G0 F G) (hT : KT F0 F) (hO : KO F0 F) (hK : KK F0 F) (i_0 : -1 ≤ x1.toInt) (i_1 : x1.toInt < 700) (hn : (x1.toInt + 1).toNat < n), WP (cl_X5_leave_7 fu n x1 F G) (fun r' F' G' => CI F' G' ∧ KB F0 G0 F' G' ∧ KT F0 F' ∧ KO F0 F' ∧ KK F0 F' ∧ True) := by
  intro n
  induction n with
  | zero =>
    intro x1 F G hI hB hT hO hK i_0 i_1 hn
    exact absurd hn (Nat.not_lt_zero _)
  | succ n ihn =>
    intro x1 F G hI hB hT hO hK i_0 i_1 hn
    show WP (cb_X5_leave_7 fu (cl_X5_leave_7 fu n)  x1 F G) _
    unfold cb_X5_leave_7
    refine WP.ite (fun c_1 => ?_) (fun c_1 => ?_)
    · skip
      have q_2 := i_rng x1
      have l_3 : (0 : Int32).toInt = 0 := rfl
      have e_4 := i_lt.mp (show x1 < (0 : Int32) from c_1)
      unfold cb_X5_leave_65
      have q_5 := i_rng (F 42)
      first | have e_6 : ((F 42) - (1 : Int32)).toInt = (F 42).toInt - (1) := i_subn (F 42) rfl (by omega) (by omega) | have e_7 := i_rng ((F 42) - (1 : Int32))
      have j_8 : CI (fup F 42 ((F 42) - (1 : Int32))) G := CI.fr rfl hI
      unfold cb_X5_leave_75
      refine WP.ret ?_
      exact ⟨j_8, (KB.f (by decide) hB), (KT.f (by decide) hT), (KO.f (by decide) hO), (KK.f (by decide) hK), trivial⟩
    · skip
      have q_9 := i_rng x1
      have l_10 : (0 : Int32).toInt = 0 := rfl
      have e_11 := mt i_lt.mpr (show ¬ (x1 < (0 : Int32)) from c_1)
      unfold cb_X5_leave_11
      refine WP.ix (show vp_in x1 700 from vp_in_iff.mpr ⟨by omega, by omega⟩) ?_
      refine WP.ite (fun c_12 => ?_) (fun c_12 => ?_)
      · skip
        have q_13 := i_rng (G 34 x1.toNatClampNeg)
        have q_14 := i_rng (F 42)
        have e_15 := i_eq.mp (show (G 34 x1.toNatClampNeg) = (F 42) from c_12)
        unfold cb_X5_leave_24
        refine WP.ix (show vp_in x1 700 from vp_in_iff.mpr ⟨by omega, by omega⟩) ?_
        refine WP.ite (fun c_16 => ?_) (fun c_16 => ?_)
        · skip
          have q_17 := i_rng (G 33 x1.toNatClampNeg)
          have e_18 := i_lt.mp (show (G 33 x1.toNatClampNeg) < (0 : Int32) from c_16)
          unfold cb_X5_leave_54
          have j_19 : CI (fup F 41 x1) G := CI.rg (k := 41) (x := x1) rfl (by decide) (by decide) hI ⟨by omega, by omega⟩
          unfold cb_X5_leave_59
          first | have e_20 : (x1 + (-1 : Int32)).toInt = x1.toInt + (-1) := i_addn x1 rfl (by omega) (by omega) | have e_21 := i_rng (x1 + (-1 : Int32))
          exact ihn (x1 + (-1 : Int32)) (fup F 41 x1) G j_19 (KB.f (by decide) hB) (KT.f (by decide) hT) (KO.f (by decide) hO) (KK.f (by decide) hK) (show -1 ≤ (x1 + (-1 : Int32)).toInt by omega) (show (x1 + (-1 : Int32)).toInt < 700 by omega) (by omega)
        · skip
          have q_22 := i_rng (G 33 x1.toNatClampNeg)
          have e_23 := mt i_lt.mpr (show ¬ ((G 33 x1.toNatClampNeg) < (0 : Int32)) from c_16)
          unfold cb_X5_leave_35
          refine WP.ite (fun c_24 => ?_) (fun c_24 => ?_)
          · skip
            have l_25 : (1408 : Int32).toInt = 1408 := rfl
            have e_26 := i_le.mp (show (1408 : Int32) ≤ (G 33 x1.toNatClampNeg) from c_24)
            unfold cb_X5_leave_54
            have j_27 : CI (fup F 41 x1) G := CI.rg (k := 41) (x := x1) rfl (by decide) (by decide) hI ⟨by omega, by omega⟩
            unfold cb_X5_leave_59
            first | have e_28 : (x1 + (-1 : Int32)).toInt = x1.toInt + (-1) := i_addn x1 rfl (by omega) (by omega) | have e_29 := i_rng (x1 + (-1 : Int32))
            exact ihn (x1 + (-1 : Int32)) (fup F 41 x1) G j_27 (KB.f (by decide) hB) (KT.f (by decide) hT) (KO.f (by decide) hO) (KK.f (by decide) hK) (show -1 ≤ (x1 + (-1 : Int32)).toInt by omega) (show (x1 + (-1 : Int32)).toInt < 700 by omega) (by omega)
          · skip
            have l_30 : (1408 : Int32).toInt = 1408 := rfl
            have e_31 := mt i_le.mpr (show ¬ ((1408 : Int32) ≤ (G 33 x1.toNatClampNeg)) from c_24)
            unfold cb_X5_leave_42
            refine WP.ix (show vp_in x1 700 from vp_in_iff.mpr ⟨by omega, by omega⟩) ?_
            refine WP.ix (show vp_in (G 33 x1.toNatClampNeg) 1408 from vp_in_iff.mpr ⟨by omega, by omega⟩) ?_
            have j_32 : CI F (gup G 40 (G 33 x1.toNatClampNeg).toNatClampNeg (G 39 x1.toNatClampNeg)) := CI.g (by decide) hI
            unfold cb_X5_leave_54
            have j_33 : CI (fup F 41 x1) (gup G 40 (G 33 x1.toNatClampNeg).toNatClampNeg (G 39 x1.toNatClampNeg)) := CI.rg (k := 41) (x := x1) rfl (by decide) (by decide) j_32 ⟨by omega, by omega⟩
            unfold cb_X5_leave_59
            first | have e_34 : (x1 + (-1 : Int32)).toInt = x1.toInt + (-1) := i_addn x1 rfl (by omega) (by omega) | have e_35 := i_rng (x1 + (-1 : Int32))
            exact ihn (x1 + (-1 : Int32)) (fup F 41 x1) (gup G 40 (G 33 x1.toNatClampNeg).toNatClampNeg (G 39 x1.toNatClampNeg)) j_33 (KB.f (by decide) (KB.g (by decide) hB)) (KT.f (by decide) hT) (KO.f (by decide) hO) (KK.f (by decide) hK) (show -1 ≤ (x1 + (-1 : Int32)).toInt by omega) (show (x1 + (-1 : Int32)).toInt < 700 by omega) (by omega)
      · skip
        have q_36 := i_rng (G 34 x1.toNatClampNeg)
        have q_37 := i_rng (F 42)
        have e_38 := mt i_eq.mpr (show ¬ ((G 34 x1.toNatClampNeg) = (F 42)) from c_12)
        unfold cb_X5_leave_65
        first | have e_39 : ((F 42) - (1 : Int32)).toInt = (F 42).toInt - (1) := i_subn (F 42) rfl (by omega) (by omega) | have e_40 := i_rng ((F 42) - (1 : Int32))
        have j_41 : CI (fup F 42 ((F 42) - (1 : Int32))) G := CI.fr rfl hI
        unfold cb_X5_leave_75
        refine WP.ret ?_
        exact ⟨j_41, (KB.f (by decide) hB), (KT.f (by decide) hT), (KO.f (by decide) hO), (KK.f (by decide) hK), trivial⟩
theorem cs_X5_leave {fu : Nat} (hfu : 8589934592 ≤ fu) (F : PF) (G : PG) (hI : CI F G) : WP (cf_X5_leave fu F G) (fun r' F' G' => CI F' G' ∧ KB F G F' G' ∧ KT F F' ∧ KO F F' ∧ KK F F' ∧ True) := by
  unfold cf_X5_leave
  unfold cb_X5_leave_0
  have q_1 := hI.r 41 rfl
  first | have e_2 : ((F 41) - (1 : Int32)).toInt = (F 41).toInt - (1) := i_subn (F 41) rfl (by omega) (by omega) | have e_3 := i_rng ((F 41) - (1 : Int32))
  exact cz_X5_leave_7 (F0 := F) (G0 := G) hfu fu ((F 41) - (1 : Int32)) F G hI (KB.rf : KB F G F G) (rfl : KT F F) (rfl : KO F F) (rfl : KK F F) (show -1 ≤ ((F 41) - (1 : Int32)).toInt by omega) (show ((F 41) - (1 : Int32)).toInt < 700 by omega) (by omega)
theorem cs_X5_enter {fu : Nat} (hfu : 8589934592 ≤ fu) (F : PF) (G : PG) (hI : CI F G) : WP (cf_X5_enter fu F G) (fun r' F' G' => CI F' G' ∧ KB F G F' G' ∧ KT F F' ∧ KO F F' ∧ KK F F' ∧ True) := by
  unfold cf_X5_enter
  unfold cb_X5_enter_0
  have q_1 := i_rng (F 42)
  first | have e_2 : ((F 42) + (1 : Int32)).toInt = (F 42).toInt + (1) := i_addn (F 42) rfl (by omega) (by omega) | have e_3 := i_rng ((F 42) + (1 : Int32))
  have j_4 : CI (fup F 42 ((F 42) + (1 : Int32))) G := CI.fr rfl hI
  unfold cb_X5_enter_10
  refine WP.ret ?_
  exact ⟨j_4, (KB.f (by decide) (KB.rf : KB F G F G)), (KT.f (by decide) (rfl : KT F F)), (KO.f (by decide) (rfl : KO F F)), (KK.f (by decide) (rfl : KK F F)), trivial⟩
theorem cs_X4_condition {fu : Nat} (hfu : 8589934592 ≤ fu) (F : PF) (G : PG) (hI : CI F G) : WP (cf_X4_condition fu F G) (fun r' F' G' => CI F' G' ∧ KB F G F' G' ∧ KT F F' ∧ KO F F' ∧ KS F F' ∧ True) := by
  unfold cf_X4_condition
  unfold cb_X4_condition_0
  have l_1 : (19 : Int32).toInt = 19 := rfl
  refine WP.bind (cs_X2_opens hfu (19 : Int32) F G hI (show (19 : Int32).toInt ≠ -2 by omega)) ?_
  rintro r2 F2 G2 ⟨hI2, hB2, hT2, hS2, hp2⟩
  dsimp only
  have q_3 := i_rng (F 11)
  have q_4 := i_rng (F2 11)
  have e_5 : (F 11).toInt = -2 → (F2 11).toInt = -2 := hS2
  have q_6 := b_rng (hp2.1)
  have q_7 := hI.r 10 rfl
  have q_8 := hI2.r 10 rfl
  have e_9 : r2.toInt = 1 → (F2 10).toInt = (F 10).toInt + 1 ∧ (F 10).toInt < 40 ∧ (F 11).toInt ≠ -2 := hp2.2.1
  have e_10 : r2.toInt = 0 → (F2 10).toInt = (F 10).toInt ∧ (F2 11).toInt = -2 := hp2.2.2
  unfold cb_X4_condition_9
  refine WP.ite (fun c_11 => ?_) (fun c_11 => ?_)
  · skip
    have l_12 : (0 : Int32).toInt = 0 := rfl
    have e_13 := i_eq.mp (show r2 = (0 : Int32) from c_11)
    unfold cb_X4_condition_28
    refine WP.ret ?_
    exact ⟨hI2, (KB.tr (KB.rf : KB F G F G) hB2), (KT.tr (rfl : KT F F) hT2), (show (F2 10).toInt = (F 10).toInt by omega), (show (F 11).toInt = -2 → (F2 11).toInt = -2 by omega), trivial⟩
  · skip
    have l_14 : (0 : Int32).toInt = 0 := rfl
    have e_15 := mt i_eq.mpr (show ¬ (r2 = (0 : Int32)) from c_11)
    unfold cb_X4_condition_12
    refine WP.bind (cs_X3_expression hfu F2 G2 hI2) ?_
    rintro r16 F16 G16 ⟨hI16, hB16, hT16, hO16, hS16, hp16⟩
    dsimp only
    have q_17 := i_rng (F16 11)
    have e_18 : (F2 11).toInt = -2 → (F16 11).toInt = -2 := hS16
    have q_19 := hI16.r 10 rfl
    have e_20 : (F16 10).toInt = (F2 10).toInt := hO16
    unfold cb_X4_condition_19
    have l_21 : (20 : Int32).toInt = 20 := rfl
    refine WP.bind (cs_X2_closesWith hfu (20 : Int32) F16 G16 hI16 (show 0 ≤ (F16 10).toInt by omega) (show (20 : Int32).toInt ≠ -2 by omega)) ?_
    rintro r22 F22 G22 ⟨hI22, hB22, hT22, hS22, hp22⟩
    dsimp only
    have q_23 := i_rng (F22 11)
    have e_24 : (F16 11).toInt = -2 → (F22 11).toInt = -2 := hS22
    have q_25 := hI22.r 10 rfl
    have e_26 : (F22 10).toInt = (F16 10).toInt - 1 := hp22
    unfold cb_X4_condition_28
    refine WP.ret ?_
    exact ⟨hI22, (KB.tr (KB.tr (KB.tr (KB.rf : KB F G F G) hB2) hB16) hB22), (KT.tr (KT.tr (KT.tr (rfl : KT F F) hT2) hT16) hT22), (show (F22 10).toInt = (F 10).toInt by omega), (show (F 11).toInt = -2 → (F22 11).toInt = -2 by omega), trivial⟩
theorem cs_X4_handOut {fu : Nat} (hfu : 8589934592 ≤ fu) (F : PF) (G : PG) (hI : CI F G) : WP (cf_X4_handOut fu F G) (fun r' F' G' => CI F' G' ∧ KB F G F' G' ∧ KT F F' ∧ KO F F' ∧ True) := by
  unfold cf_X4_handOut
  unfold cb_X4_handOut_0
  refine WP.bind (cs_X2_next hfu F G hI) ?_
  rintro r1 F1 G1 ⟨hI1, hB1, hT1, hO1, hp1⟩
  dsimp only
  have q_2 := hI.r 10 rfl
  have q_3 := hI1.r 10 rfl
  have e_4 : (F1 10).toInt = (F 10).toInt := hO1
  unfold cb_X4_handOut_15
  refine WP.bind (cs_X4_condition hfu F1 G1 hI1) ?_
  rintro r5 F5 G5 ⟨hI5, hB5, hT5, hO5, hS5, hp5⟩
  dsimp only
  have q_6 := i_rng (F1 11)
  have q_7 := i_rng (F5 11)
  have e_8 : (F1 11).toInt = -2 → (F5 11).toInt = -2 := hS5
  have q_9 := hI5.r 10 rfl
  have e_10 : (F5 10).toInt = (F1 10).toInt := hO5
  unfold cb_X4_handOut_19
  have q_11 := i_rng (F 11)
  refine WP.bind (cs_X1_add hfu (F 11) F5 G5 hI5) ?_
  rintro r12 F12 G12 ⟨hI12, hB12, hT12, hO12, hK12, hp12⟩
  dsimp only
  have q_13 := i_rng (F12 11)
  have e_14 : (F12 11).toInt = (F5 11).toInt := congrArg Int32.toInt hK12
  have q_15 := hI12.r 10 rfl
  have e_16 : (F12 10).toInt = (F5 10).toInt := hO12
  have q_17 := hI5.r 21 rfl
  have q_18 := hI12.r 21 rfl
  have e_19 : (F12 21).toInt = (F5 21).toInt := congrArg Int32.toInt hp12
  unfold cb_X4_handOut_27
  have l_20 : (26 : Int32).toInt = 26 := rfl
  refine WP.bind (cs_X2_expect hfu (26 : Int32) F12 G12 hI12 (show (26 : Int32).toInt ≠ -2 by omega)) ?_
  rintro r21 F21 G21 ⟨hI21, hB21, hT21, hO21, hS21, hp21⟩
  dsimp only
  have q_22 := i_rng (F21 11)
  have e_23 : (F12 11).toInt = -2 → (F21 11).toInt = -2 := hS21
  have q_24 := hI21.r 10 rfl
  have e_25 : (F21 10).toInt = (F12 10).toInt := hO21
  unfold cb_X4_handOut_36
  refine WP.ret ?_
  exact ⟨hI21, (KB.tr (KB.tr (KB.tr (KB.tr (KB.rf : KB F G F G) hB1) hB5) hB12) hB21), (KT.tr (KT.tr (KT.tr (KT.tr (rfl : KT F F) hT1) hT5) hT12) hT21), (KO.tr (KO.tr (KO.tr (KO.tr (rfl : KO F F) hO1) hO5) hO12) hO21), trivial⟩
theorem cs_X4_leap {fu : Nat} (hfu : 8589934592 ≤ fu) (F : PF) (G : PG) (hI : CI F G) : WP (cf_X4_leap fu F G) (fun r' F' G' => CI F' G' ∧ KB F G F' G' ∧ KT F F' ∧ KO F F' ∧ True) := by
  unfold cf_X4_leap
  unfold cb_X4_leap_0
  refine WP.ite (fun c_1 => ?_) (fun c_1 => ?_)
  · skip
    have q_2 := i_rng (F 29)
    have l_3 : (0 : Int32).toInt = 0 := rfl
    have e_4 := i_eq.mp (show (F 29) = (0 : Int32) from c_1)
    unfold cb_X4_leap_7
    have l_5 : (6 : Int32).toInt = 6 := rfl
    have q_6 := i_rng (F 13)
    refine WP.bind (cs_X5_note hfu (6 : Int32) (F 13) F G hI) ?_
    rintro r7 F7 G7 ⟨hI7, hB7, hT7, hO7, hK7, hp7⟩
    dsimp only
    have q_8 := i_rng (F 11)
    have q_9 := i_rng (F7 11)
    have e_10 : (F7 11).toInt = (F 11).toInt := congrArg Int32.toInt hK7
    have q_11 := hI.r 10 rfl
    have q_12 := hI7.r 10 rfl
    have e_13 : (F7 10).toInt = (F 10).toInt := hO7
    unfold cb_X4_leap_23
    refine WP.ite (fun c_14 => ?_) (fun c_14 => ?_)
    · skip
      have l_15 : (13 : Int32).toInt = 13 := rfl
      have e_16 := i_eq.mp (show (F7 11) = (13 : Int32) from c_14)
      unfold cb_X4_leap_35
      have l_17 : (84 : Int32).toInt = 84 := rfl
      have q_18 := i_rng (F7 30)
      refine WP.bind (cs_X1_addJump hfu (84 : Int32) (F7 30) F7 G7 hI7) ?_
      rintro r19 F19 G19 ⟨hI19, hB19, hT19, hO19, hK19, hp19⟩
      dsimp only
      have q_20 := i_rng (F19 11)
      have e_21 : (F19 11).toInt = (F7 11).toInt := congrArg Int32.toInt hK19
      have q_22 := hI19.r 10 rfl
      have e_23 : (F19 10).toInt = (F7 10).toInt := hO19
      have q_24 := hI7.r 21 rfl
      have q_25 := hI19.r 21 rfl
      have e_26 : (F19 21).toInt = (F7 21).toInt := congrArg Int32.toInt hp19
      unfold cb_X4_leap_49
      have q_27 := i_rng r19
      have j_28 : CI (fup F19 30 r19) G19 := CI.fr rfl hI19
      unfold cb_X4_leap_52
      unfold cb_X4_leap_72
      refine WP.bind (cs_X2_next hfu (fup F19 30 r19) G19 j_28) ?_
      rintro r29 F29 G29 ⟨hI29, hB29, hT29, hO29, hp29⟩
      dsimp only
      have q_30 := hI29.r 10 rfl
      have e_31 : (F29 10).toInt = (F19 10).toInt := hO29
      unfold cb_X4_leap_79
      have l_32 : (26 : Int32).toInt = 26 := rfl
      refine WP.bind (cs_X2_expect hfu (26 : Int32) F29 G29 hI29 (show (26 : Int32).toInt ≠ -2 by omega)) ?_
      rintro r33 F33 G33 ⟨hI33, hB33, hT33, hO33, hS33, hp33⟩
      dsimp only
      have q_34 := i_rng (F29 11)
      have q_35 := i_rng (F33 11)
      have e_36 : (F29 11).toInt = -2 → (F33 11).toInt = -2 := hS33
      have q_37 := hI33.r 10 rfl
      have e_38 : (F33 10).toInt = (F29 10).toInt := hO33
      unfold cb_X4_leap_88
      refine WP.ret ?_
      exact ⟨hI33, (KB.tr (KB.tr (KB.f (by decide) (KB.tr (KB.tr (KB.rf : KB F G F G) hB7) hB19)) hB29) hB33), (KT.tr (KT.tr (KT.f (by decide) (KT.tr (KT.tr (rfl : KT F F) hT7) hT19)) hT29) hT33), (KO.tr (KO.tr (KO.f (by decide) (KO.tr (KO.tr (rfl : KO F F) hO7) hO19)) hO29) hO33), trivial⟩
    · skip
      have l_39 : (13 : Int32).toInt = 13 := rfl
      have e_40 := mt i_eq.mpr (show ¬ ((F7 11) = (13 : Int32)) from c_14)
      unfold cb_X4_leap_55
      have l_41 : (84 : Int32).toInt = 84 := rfl
      have q_42 := i_rng (F7 31)
      refine WP.bind (cs_X1_addJump hfu (84 : Int32) (F7 31) F7 G7 hI7) ?_
      rintro r43 F43 G43 ⟨hI43, hB43, hT43, hO43, hK43, hp43⟩
      dsimp only
      have q_44 := i_rng (F43 11)
      have e_45 : (F43 11).toInt = (F7 11).toInt := congrArg Int32.toInt hK43
      have q_46 := hI43.r 10 rfl
      have e_47 : (F43 10).toInt = (F7 10).toInt := hO43
      have q_48 := hI7.r 21 rfl
      have q_49 := hI43.r 21 rfl
      have e_50 : (F43 21).toInt = (F7 21).toInt := congrArg Int32.toInt hp43
      unfold cb_X4_leap_69
      have q_51 := i_rng r43
      have j_52 : CI (fup F43 31 r43) G43 := CI.fr rfl hI43
      unfold cb_X4_leap_72
      refine WP.bind (cs_X2_next hfu (fup F43 31 r43) G43 j_52) ?_
      rintro r53 F53 G53 ⟨hI53, hB53, hT53, hO53, hp53⟩
      dsimp only
      have q_54 := hI53.r 10 rfl
      have e_55 : (F53 10).toInt = (F43 10).toInt := hO53
      unfold cb_X4_leap_79
      have l_56 : (26 : Int32).toInt = 26 := rfl
      refine WP.bind (cs_X2_expect hfu (26 : Int32) F53 G53 hI53 (show (26 : Int32).toInt ≠ -2 by omega)) ?_
      rintro r57 F57 G57 ⟨hI57, hB57, hT57, hO57, hS57, hp57⟩
      dsimp only
      have q_58 := i_rng (F53 11)
      have q_59 := i_rng (F57 11)
      have e_60 : (F53 11).toInt = -2 → (F57 11).toInt = -2 := hS57
      have q_61 := hI57.r 10 rfl
      have e_62 : (F57 10).toInt = (F53 10).toInt := hO57
      unfold cb_X4_leap_88
      refine WP.ret ?_
      exact ⟨hI57, (KB.tr (KB.tr (KB.f (by decide) (KB.tr (KB.tr (KB.rf : KB F G F G) hB7) hB43)) hB53) hB57), (KT.tr (KT.tr (KT.f (by decide) (KT.tr (KT.tr (rfl : KT F F) hT7) hT43)) hT53) hT57), (KO.tr (KO.tr (KO.f (by decide) (KO.tr (KO.tr (rfl : KO F F) hO7) hO43)) hO53) hO57), trivial⟩
  · skip
    have q_63 := i_rng (F 29)
    have l_64 : (0 : Int32).toInt = 0 := rfl
    have e_65 := mt i_eq.mpr (show ¬ ((F 29) = (0 : Int32)) from c_1)
    unfold cb_X4_leap_23
    refine WP.ite (fun c_66 => ?_) (fun c_66 => ?_)
    · skip
      have q_67 := i_rng (F 11)
      have l_68 : (13 : Int32).toInt = 13 := rfl
      have e_69 := i_eq.mp (show (F 11) = (13 : Int32) from c_66)
      unfold cb_X4_leap_35
      have l_70 : (84 : Int32).toInt = 84 := rfl
      have q_71 := i_rng (F 30)
      refine WP.bind (cs_X1_addJump hfu (84 : Int32) (F 30) F G hI) ?_
      rintro r72 F72 G72 ⟨hI72, hB72, hT72, hO72, hK72, hp72⟩
      dsimp only
      have q_73 := i_rng (F72 11)
      have e_74 : (F72 11).toInt = (F 11).toInt := congrArg Int32.toInt hK72
      have q_75 := hI.r 10 rfl
      have q_76 := hI72.r 10 rfl
      have e_77 : (F72 10).toInt = (F 10).toInt := hO72
      have q_78 := hI.r 21 rfl
      have q_79 := hI72.r 21 rfl
      have e_80 : (F72 21).toInt = (F 21).toInt := congrArg Int32.toInt hp72
      unfold cb_X4_leap_49
      have q_81 := i_rng r72
      have j_82 : CI (fup F72 30 r72) G72 := CI.fr rfl hI72
      unfold cb_X4_leap_52
      unfold cb_X4_leap_72
      refine WP.bind (cs_X2_next hfu (fup F72 30 r72) G72 j_82) ?_
      rintro r83 F83 G83 ⟨hI83, hB83, hT83, hO83, hp83⟩
      dsimp only
      have q_84 := hI83.r 10 rfl
      have e_85 : (F83 10).toInt = (F72 10).toInt := hO83
      unfold cb_X4_leap_79
      have l_86 : (26 : Int32).toInt = 26 := rfl
      refine WP.bind (cs_X2_expect hfu (26 : Int32) F83 G83 hI83 (show (26 : Int32).toInt ≠ -2 by omega)) ?_
      rintro r87 F87 G87 ⟨hI87, hB87, hT87, hO87, hS87, hp87⟩
      dsimp only
      have q_88 := i_rng (F83 11)
      have q_89 := i_rng (F87 11)
      have e_90 : (F83 11).toInt = -2 → (F87 11).toInt = -2 := hS87
      have q_91 := hI87.r 10 rfl
      have e_92 : (F87 10).toInt = (F83 10).toInt := hO87
      unfold cb_X4_leap_88
      refine WP.ret ?_
      exact ⟨hI87, (KB.tr (KB.tr (KB.f (by decide) (KB.tr (KB.rf : KB F G F G) hB72)) hB83) hB87), (KT.tr (KT.tr (KT.f (by decide) (KT.tr (rfl : KT F F) hT72)) hT83) hT87), (KO.tr (KO.tr (KO.f (by decide) (KO.tr (rfl : KO F F) hO72)) hO83) hO87), trivial⟩
    · skip
      have q_93 := i_rng (F 11)
      have l_94 : (13 : Int32).toInt = 13 := rfl
      have e_95 := mt i_eq.mpr (show ¬ ((F 11) = (13 : Int32)) from c_66)
      unfold cb_X4_leap_55
      have l_96 : (84 : Int32).toInt = 84 := rfl
      have q_97 := i_rng (F 31)
      refine WP.bind (cs_X1_addJump hfu (84 : Int32) (F 31) F G hI) ?_
      rintro r98 F98 G98 ⟨hI98, hB98, hT98, hO98, hK98, hp98⟩
      dsimp only
      have q_99 := i_rng (F98 11)
      have e_100 : (F98 11).toInt = (F 11).toInt := congrArg Int32.toInt hK98
      have q_101 := hI.r 10 rfl
      have q_102 := hI98.r 10 rfl
      have e_103 : (F98 10).toInt = (F 10).toInt := hO98
      have q_104 := hI.r 21 rfl
      have q_105 := hI98.r 21 rfl
      have e_106 : (F98 21).toInt = (F 21).toInt := congrArg Int32.toInt hp98
      unfold cb_X4_leap_69
      have q_107 := i_rng r98
      have j_108 : CI (fup F98 31 r98) G98 := CI.fr rfl hI98
      unfold cb_X4_leap_72
      refine WP.bind (cs_X2_next hfu (fup F98 31 r98) G98 j_108) ?_
      rintro r109 F109 G109 ⟨hI109, hB109, hT109, hO109, hp109⟩
      dsimp only
      have q_110 := hI109.r 10 rfl
      have e_111 : (F109 10).toInt = (F98 10).toInt := hO109
      unfold cb_X4_leap_79
      have l_112 : (26 : Int32).toInt = 26 := rfl
      refine WP.bind (cs_X2_expect hfu (26 : Int32) F109 G109 hI109 (show (26 : Int32).toInt ≠ -2 by omega)) ?_
      rintro r113 F113 G113 ⟨hI113, hB113, hT113, hO113, hS113, hp113⟩
      dsimp only
      have q_114 := i_rng (F109 11)
      have q_115 := i_rng (F113 11)
      have e_116 : (F109 11).toInt = -2 → (F113 11).toInt = -2 := hS113
      have q_117 := hI113.r 10 rfl
      have e_118 : (F113 10).toInt = (F109 10).toInt := hO113
      unfold cb_X4_leap_88
      refine WP.ret ?_
      exact ⟨hI113, (KB.tr (KB.tr (KB.f (by decide) (KB.tr (KB.rf : KB F G F G) hB98)) hB109) hB113), (KT.tr (KT.tr (KT.f (by decide) (KT.tr (rfl : KT F F) hT98)) hT109) hT113), (KO.tr (KO.tr (KO.f (by decide) (KO.tr (rfl : KO F F) hO98)) hO109) hO113), trivial⟩
theorem cs_X4_returnStatement {fu : Nat} (hfu : 8589934592 ≤ fu) (F : PF) (G : PG) (hI : CI F G) : WP (cf_X4_returnStatement fu F G) (fun r' F' G' => CI F' G' ∧ KB F G F' G' ∧ KT F F' ∧ KO F F' ∧ True) := by
  unfold cf_X4_returnStatement
  unfold cb_X4_returnStatement_0
  refine WP.bind (cs_X2_next hfu F G hI) ?_
  rintro r1 F1 G1 ⟨hI1, hB1, hT1, hO1, hp1⟩
  dsimp only
  have q_2 := hI.r 10 rfl
  have q_3 := hI1.r 10 rfl
  have e_4 : (F1 10).toInt = (F 10).toInt := hO1
  unfold cb_X4_returnStatement_7
  refine WP.ite (fun c_5 => ?_) (fun c_5 => ?_)
  · skip
    have q_6 := i_rng (F1 11)
    have l_7 : (26 : Int32).toInt = 26 := rfl
    have e_8 := i_eq.mp (show (F1 11) = (26 : Int32) from c_5)
    unfold cb_X4_returnStatement_19
    unfold cb_X4_returnStatement_24
    refine WP.ite (fun c_9 => ?_) (fun c_9 => ?_)
    · skip
      have l_10 : (1 : Int32).toInt = 1 := rfl
      have q_11 := hI1.r 48 rfl
      have e_12 := i_eq.mp (show (1 : Int32) = (F1 48) from c_9)
      unfold cb_X4_returnStatement_36
      have l_13 : (3 : Int32).toInt = 3 := rfl
      have q_14 := i_rng (F1 13)
      refine WP.bind (cs_X5_note hfu (3 : Int32) (F1 13) F1 G1 hI1) ?_
      rintro r15 F15 G15 ⟨hI15, hB15, hT15, hO15, hK15, hp15⟩
      dsimp only
      have q_16 := i_rng (F15 11)
      have e_17 : (F15 11).toInt = (F1 11).toInt := congrArg Int32.toInt hK15
      have q_18 := hI15.r 10 rfl
      have e_19 : (F15 10).toInt = (F1 10).toInt := hO15
      unfold cb_X4_returnStatement_51
      refine WP.ite (fun c_20 => absurd c_20 (by decide)) (fun _ => ?_)
      unfold cb_X4_returnStatement_55
      have l_21 : (66 : Int32).toInt = 66 := rfl
      have l_22 : (0 : Int32).toInt = 0 := rfl
      refine WP.bind (cs_X1_addPair hfu (66 : Int32) (0 : Int32) F15 G15 hI15) ?_
      rintro r23 F23 G23 ⟨hI23, hB23, hT23, hO23, hK23, hp23⟩
      dsimp only
      have q_24 := i_rng (F23 11)
      have e_25 : (F23 11).toInt = (F15 11).toInt := congrArg Int32.toInt hK23
      have q_26 := hI23.r 10 rfl
      have e_27 : (F23 10).toInt = (F15 10).toInt := hO23
      unfold cb_X4_returnStatement_65
      unfold cb_X4_returnStatement_75
      have l_28 : (15 : Int32).toInt = 15 := rfl
      refine WP.bind (cs_X1_add hfu (15 : Int32) F23 G23 hI23) ?_
      rintro r29 F29 G29 ⟨hI29, hB29, hT29, hO29, hK29, hp29⟩
      dsimp only
      have q_30 := i_rng (F29 11)
      have e_31 : (F29 11).toInt = (F23 11).toInt := congrArg Int32.toInt hK29
      have q_32 := hI29.r 10 rfl
      have e_33 : (F29 10).toInt = (F23 10).toInt := hO29
      have q_34 := hI23.r 21 rfl
      have q_35 := hI29.r 21 rfl
      have e_36 : (F29 21).toInt = (F23 21).toInt := congrArg Int32.toInt hp29
      unfold cb_X4_returnStatement_84
      refine WP.bind (cs_X2_expect hfu (26 : Int32) F29 G29 hI29 (show (26 : Int32).toInt ≠ -2 by omega)) ?_
      rintro r37 F37 G37 ⟨hI37, hB37, hT37, hO37, hS37, hp37⟩
      dsimp only
      have q_38 := i_rng (F37 11)
      have e_39 : (F29 11).toInt = -2 → (F37 11).toInt = -2 := hS37
      have q_40 := hI37.r 10 rfl
      have e_41 : (F37 10).toInt = (F29 10).toInt := hO37
      unfold cb_X4_returnStatement_93
      refine WP.ret ?_
      exact ⟨hI37, (KB.tr (KB.tr (KB.tr (KB.tr (KB.tr (KB.rf : KB F G F G) hB1) hB15) hB23) hB29) hB37), (KT.tr (KT.tr (KT.tr (KT.tr (KT.tr (rfl : KT F F) hT1) hT15) hT23) hT29) hT37), (KO.tr (KO.tr (KO.tr (KO.tr (KO.tr (rfl : KO F F) hO1) hO15) hO23) hO29) hO37), trivial⟩
    · skip
      have l_42 : (1 : Int32).toInt = 1 := rfl
      have q_43 := hI1.r 48 rfl
      have e_44 := mt i_eq.mpr (show ¬ ((1 : Int32) = (F1 48)) from c_9)
      unfold cb_X4_returnStatement_51
      refine WP.ite (fun c_45 => absurd c_45 (by decide)) (fun _ => ?_)
      unfold cb_X4_returnStatement_55
      have l_46 : (66 : Int32).toInt = 66 := rfl
      have l_47 : (0 : Int32).toInt = 0 := rfl
      refine WP.bind (cs_X1_addPair hfu (66 : Int32) (0 : Int32) F1 G1 hI1) ?_
      rintro r48 F48 G48 ⟨hI48, hB48, hT48, hO48, hK48, hp48⟩
      dsimp only
      have q_49 := i_rng (F48 11)
      have e_50 : (F48 11).toInt = (F1 11).toInt := congrArg Int32.toInt hK48
      have q_51 := hI48.r 10 rfl
      have e_52 : (F48 10).toInt = (F1 10).toInt := hO48
      unfold cb_X4_returnStatement_65
      unfold cb_X4_returnStatement_75
      have l_53 : (15 : Int32).toInt = 15 := rfl
      refine WP.bind (cs_X1_add hfu (15 : Int32) F48 G48 hI48) ?_
      rintro r54 F54 G54 ⟨hI54, hB54, hT54, hO54, hK54, hp54⟩
      dsimp only
      have q_55 := i_rng (F54 11)
      have e_56 : (F54 11).toInt = (F48 11).toInt := congrArg Int32.toInt hK54
      have q_57 := hI54.r 10 rfl
      have e_58 : (F54 10).toInt = (F48 10).toInt := hO54
      have q_59 := hI48.r 21 rfl
      have q_60 := hI54.r 21 rfl
      have e_61 : (F54 21).toInt = (F48 21).toInt := congrArg Int32.toInt hp54
      unfold cb_X4_returnStatement_84
      refine WP.bind (cs_X2_expect hfu (26 : Int32) F54 G54 hI54 (show (26 : Int32).toInt ≠ -2 by omega)) ?_
      rintro r62 F62 G62 ⟨hI62, hB62, hT62, hO62, hS62, hp62⟩
      dsimp only
      have q_63 := i_rng (F62 11)
      have e_64 : (F54 11).toInt = -2 → (F62 11).toInt = -2 := hS62
      have q_65 := hI62.r 10 rfl
      have e_66 : (F62 10).toInt = (F54 10).toInt := hO62
      unfold cb_X4_returnStatement_93
      refine WP.ret ?_
      exact ⟨hI62, (KB.tr (KB.tr (KB.tr (KB.tr (KB.rf : KB F G F G) hB1) hB48) hB54) hB62), (KT.tr (KT.tr (KT.tr (KT.tr (rfl : KT F F) hT1) hT48) hT54) hT62), (KO.tr (KO.tr (KO.tr (KO.tr (rfl : KO F F) hO1) hO48) hO54) hO62), trivial⟩
  · skip
    have q_67 := i_rng (F1 11)
    have l_68 : (26 : Int32).toInt = 26 := rfl
    have e_69 := mt i_eq.mpr (show ¬ ((F1 11) = (26 : Int32)) from c_5)
    unfold cb_X4_returnStatement_23
    unfold cb_X4_returnStatement_24
    refine WP.ite (fun c_70 => ?_) (fun c_70 => ?_)
    · skip
      have l_71 : (0 : Int32).toInt = 0 := rfl
      have q_72 := hI1.r 48 rfl
      have e_73 := i_eq.mp (show (0 : Int32) = (F1 48) from c_70)
      unfold cb_X4_returnStatement_36
      have l_74 : (3 : Int32).toInt = 3 := rfl
      have q_75 := i_rng (F1 13)
      refine WP.bind (cs_X5_note hfu (3 : Int32) (F1 13) F1 G1 hI1) ?_
      rintro r76 F76 G76 ⟨hI76, hB76, hT76, hO76, hK76, hp76⟩
      dsimp only
      have q_77 := i_rng (F76 11)
      have e_78 : (F76 11).toInt = (F1 11).toInt := congrArg Int32.toInt hK76
      have q_79 := hI76.r 10 rfl
      have e_80 : (F76 10).toInt = (F1 10).toInt := hO76
      unfold cb_X4_returnStatement_51
      refine WP.ite (fun _ => ?_) (fun c_81 => absurd (by decide) c_81)
      unfold cb_X4_returnStatement_68
      refine WP.bind (cs_X3_expression hfu F76 G76 hI76) ?_
      rintro r82 F82 G82 ⟨hI82, hB82, hT82, hO82, hS82, hp82⟩
      dsimp only
      have q_83 := i_rng (F82 11)
      have e_84 : (F76 11).toInt = -2 → (F82 11).toInt = -2 := hS82
      have q_85 := hI82.r 10 rfl
      have e_86 : (F82 10).toInt = (F76 10).toInt := hO82
      unfold cb_X4_returnStatement_75
      have l_87 : (15 : Int32).toInt = 15 := rfl
      refine WP.bind (cs_X1_add hfu (15 : Int32) F82 G82 hI82) ?_
      rintro r88 F88 G88 ⟨hI88, hB88, hT88, hO88, hK88, hp88⟩
      dsimp only
      have q_89 := i_rng (F88 11)
      have e_90 : (F88 11).toInt = (F82 11).toInt := congrArg Int32.toInt hK88
      have q_91 := hI88.r 10 rfl
      have e_92 : (F88 10).toInt = (F82 10).toInt := hO88
      have q_93 := hI82.r 21 rfl
      have q_94 := hI88.r 21 rfl
      have e_95 : (F88 21).toInt = (F82 21).toInt := congrArg Int32.toInt hp88
      unfold cb_X4_returnStatement_84
      refine WP.bind (cs_X2_expect hfu (26 : Int32) F88 G88 hI88 (show (26 : Int32).toInt ≠ -2 by omega)) ?_
      rintro r96 F96 G96 ⟨hI96, hB96, hT96, hO96, hS96, hp96⟩
      dsimp only
      have q_97 := i_rng (F96 11)
      have e_98 : (F88 11).toInt = -2 → (F96 11).toInt = -2 := hS96
      have q_99 := hI96.r 10 rfl
      have e_100 : (F96 10).toInt = (F88 10).toInt := hO96
      unfold cb_X4_returnStatement_93
      refine WP.ret ?_
      exact ⟨hI96, (KB.tr (KB.tr (KB.tr (KB.tr (KB.tr (KB.rf : KB F G F G) hB1) hB76) hB82) hB88) hB96), (KT.tr (KT.tr (KT.tr (KT.tr (KT.tr (rfl : KT F F) hT1) hT76) hT82) hT88) hT96), (KO.tr (KO.tr (KO.tr (KO.tr (KO.tr (rfl : KO F F) hO1) hO76) hO82) hO88) hO96), trivial⟩
    · skip
      have l_101 : (0 : Int32).toInt = 0 := rfl
      have q_102 := hI1.r 48 rfl
      have e_103 := mt i_eq.mpr (show ¬ ((0 : Int32) = (F1 48)) from c_70)
      unfold cb_X4_returnStatement_51
      refine WP.ite (fun _ => ?_) (fun c_104 => absurd (by decide) c_104)
      unfold cb_X4_returnStatement_68
      refine WP.bind (cs_X3_expression hfu F1 G1 hI1) ?_
      rintro r105 F105 G105 ⟨hI105, hB105, hT105, hO105, hS105, hp105⟩
      dsimp only
      have q_106 := i_rng (F105 11)
      have e_107 : (F1 11).toInt = -2 → (F105 11).toInt = -2 := hS105
      have q_108 := hI105.r 10 rfl
      have e_109 : (F105 10).toInt = (F1 10).toInt := hO105
      unfold cb_X4_returnStatement_75
      have l_110 : (15 : Int32).toInt = 15 := rfl
      refine WP.bind (cs_X1_add hfu (15 : Int32) F105 G105 hI105) ?_
      rintro r111 F111 G111 ⟨hI111, hB111, hT111, hO111, hK111, hp111⟩
      dsimp only
      have q_112 := i_rng (F111 11)
      have e_113 : (F111 11).toInt = (F105 11).toInt := congrArg Int32.toInt hK111
      have q_114 := hI111.r 10 rfl
      have e_115 : (F111 10).toInt = (F105 10).toInt := hO111
      have q_116 := hI105.r 21 rfl
      have q_117 := hI111.r 21 rfl
      have e_118 : (F111 21).toInt = (F105 21).toInt := congrArg Int32.toInt hp111
      unfold cb_X4_returnStatement_84
      refine WP.bind (cs_X2_expect hfu (26 : Int32) F111 G111 hI111 (show (26 : Int32).toInt ≠ -2 by omega)) ?_
      rintro r119 F119 G119 ⟨hI119, hB119, hT119, hO119, hS119, hp119⟩
      dsimp only
      have q_120 := i_rng (F119 11)
      have e_121 : (F111 11).toInt = -2 → (F119 11).toInt = -2 := hS119
      have q_122 := hI119.r 10 rfl
      have e_123 : (F119 10).toInt = (F111 10).toInt := hO119
      unfold cb_X4_returnStatement_93
      refine WP.ret ?_
      exact ⟨hI119, (KB.tr (KB.tr (KB.tr (KB.tr (KB.rf : KB F G F G) hB1) hB105) hB111) hB119), (KT.tr (KT.tr (KT.tr (KT.tr (rfl : KT F F) hT1) hT105) hT111) hT119), (KO.tr (KO.tr (KO.tr (KO.tr (rfl : KO F F) hO1) hO105) hO111) hO119), trivial⟩
theorem cs_X5_measure {fu : Nat} (hfu : 8589934592 ≤ fu) (F : PF) (G : PG) (hI : CI F G) : WP (cf_X5_measure fu F G) (fun r' F' G' => F = F' ∧ G = G' ∧ True) := by
  unfold cf_X5_measure
  unfold cb_X5_measure_0
  refine WP.ret ?_
  exact ⟨rfl, rfl, trivial⟩
theorem cs_X5_localRoom {fu : Nat} (hfu : 8589934592 ≤ fu) (x1 : Int32) (x2 : Int32) (F : PF) (G : PG) (hI : CI F G) : WP (cf_X5_localRoom fu x1 x2 F G) (fun r' F' G' => CI F' G' ∧ KB F G F' G' ∧ KT F F' ∧ KO F F' ∧ KK F F' ∧ True) := by
  unfold cf_X5_localRoom
  unfold cb_X5_localRoom_0
  refine WP.bind (cs_X5_measure hfu F G hI) ?_
  rintro r1 _ _ ⟨rfl, rfl, hp1⟩
  dsimp only
  unfold cb_X5_localRoom_4
  have q_2 := i_rng (F 50)
  have q_3 := i_rng x1
  first | have e_4 : ((F 50) + x1).toInt = (F 50).toInt + (x1.toInt) := i_addn (F 50) rfl (by omega) (by omega) | have e_5 := i_rng ((F 50) + x1)
  have j_6 : CI (fup F 50 ((F 50) + x1)) G := CI.fr rfl hI
  unfold cb_X5_localRoom_15
  refine WP.ite (fun c_7 => ?_) (fun c_7 => ?_)
  · skip
    have l_8 : (200 : Int32).toInt = 200 := rfl
    have e_9 := i_le.mp (show ((F 50) + x1) ≤ (200 : Int32) from c_7)
    unfold cb_X5_localRoom_32
    refine WP.ret ?_
    exact ⟨j_6, (KB.f (by decide) (KB.rf : KB F G F G)), (KT.f (by decide) (rfl : KT F F)), (KO.f (by decide) (rfl : KO F F)), (KK.f (by decide) (rfl : KK F F)), trivial⟩
  · skip
    have l_10 : (200 : Int32).toInt = 200 := rfl
    have e_11 := mt i_le.mpr (show ¬ (((F 50) + x1) ≤ (200 : Int32)) from c_7)
    unfold cb_X5_localRoom_25
    have l_12 : (8 : Int32).toInt = 8 := rfl
    have q_13 := i_rng x2
    refine WP.bind (cs_X5_note hfu (8 : Int32) x2 (fup F 50 ((F 50) + x1)) G j_6) ?_
    rintro r14 F14 G14 ⟨hI14, hB14, hT14, hO14, hK14, hp14⟩
    dsimp only
    have q_15 := hI.r 10 rfl
    have q_16 := hI14.r 10 rfl
    have e_17 : (F14 10).toInt = (F 10).toInt := hO14
    unfold cb_X5_localRoom_32
    refine WP.ret ?_
    exact ⟨hI14, (KB.tr (KB.f (by decide) (KB.rf : KB F G F G)) hB14), (KT.tr (KT.f (by decide) (rfl : KT F F)) hT14), (KO.tr (KO.f (by decide) (rfl : KO F F)) hO14), (KK.tr (KK.f (by decide) (rfl : KK F F)) hK14), trivial⟩
theorem cs_X4_localArray {fu : Nat} (hfu : 8589934592 ≤ fu) (x1 : Int32) (x2 : Int32) (x3 : Int32) (x4 : Int32) (F : PF) (G : PG) (hI : CI F G) : WP (cf_X4_localArray fu x1 x2 x3 x4 F G) (fun r' F' G' => CI F' G' ∧ KB F G F' G' ∧ KT F F' ∧ KO F F' ∧ KK F F' ∧ True) := by
  unfold cf_X4_localArray
  unfold cb_X4_localArray_0
  have q_1 := i_rng x3
  have q_2 := i_rng x4
  refine WP.bind (cs_X4_wordsOf hfu x3 x4 F G hI) ?_
  rintro r3 _ _ ⟨rfl, rfl, hp3⟩
  dsimp only
  unfold cb_X4_localArray_6
  have q_4 := i_rng r3
  have q_5 := i_rng x2
  refine WP.bind (cs_X5_localRoom hfu r3 x2 F G hI) ?_
  rintro r6 F6 G6 ⟨hI6, hB6, hT6, hO6, hK6, hp6⟩
  dsimp only
  have q_7 := hI.r 10 rfl
  have q_8 := hI6.r 10 rfl
  have e_9 : (F6 10).toInt = (F 10).toInt := hO6
  unfold cb_X4_localArray_18
  have l_10 : (73 : Int32).toInt = 73 := rfl
  have q_11 := i_rng r6
  refine WP.bind (cs_X1_addPair hfu (73 : Int32) r6 F6 G6 hI6) ?_
  rintro r12 F12 G12 ⟨hI12, hB12, hT12, hO12, hK12, hp12⟩
  dsimp only
  have q_13 := hI12.r 10 rfl
  have e_14 : (F12 10).toInt = (F6 10).toInt := hO12
  unfold cb_X4_localArray_31
  refine WP.bind (cs_X1_add hfu r3 F12 G12 hI12) ?_
  rintro r15 F15 G15 ⟨hI15, hB15, hT15, hO15, hK15, hp15⟩
  dsimp only
  have q_16 := hI15.r 10 rfl
  have e_17 : (F15 10).toInt = (F12 10).toInt := hO15
  have q_18 := hI12.r 21 rfl
  have q_19 := hI15.r 21 rfl
  have e_20 : (F15 21).toInt = (F12 21).toInt := congrArg Int32.toInt hp15
  unfold cb_X4_localArray_40
  have q_21 := i_rng x1
  refine WP.bind (cs_X5_tell hfu x1 x2 x3 r6 x4 F15 G15 hI15) ?_
  rintro r22 F22 G22 ⟨hI22, hB22, hT22, hO22, hK22, hp22⟩
  dsimp only
  have q_23 := hI22.r 10 rfl
  have e_24 : (F22 10).toInt = (F15 10).toInt := hO22
  unfold cb_X4_localArray_54
  refine WP.ret ?_
  exact ⟨hI22, (KB.tr (KB.tr (KB.tr (KB.tr (KB.rf : KB F G F G) hB6) hB12) hB15) hB22), (KT.tr (KT.tr (KT.tr (KT.tr (rfl : KT F F) hT6) hT12) hT15) hT22), (KO.tr (KO.tr (KO.tr (KO.tr (rfl : KO F F) hO6) hO12) hO15) hO22), (KK.tr (KK.tr (KK.tr (KK.tr (rfl : KK F F) hK6) hK12) hK15) hK22), trivial⟩
theorem cs_X4_localInt {fu : Nat} (hfu : 8589934592 ≤ fu) (x1 : Int32) (x2 : Int32) (F : PF) (G : PG) (hI : CI F G) : WP (cf_X4_localInt fu x1 x2 F G) (fun r' F' G' => CI F' G' ∧ KB F G F' G' ∧ KT F F' ∧ KO F F' ∧ KK F F' ∧ True) := by
  unfold cf_X4_localInt
  unfold cb_X4_localInt_0
  have l_1 : (1 : Int32).toInt = 1 := rfl
  have q_2 := i_rng x2
  refine WP.bind (cs_X5_localRoom hfu (1 : Int32) x2 F G hI) ?_
  rintro r3 F3 G3 ⟨hI3, hB3, hT3, hO3, hK3, hp3⟩
  dsimp only
  have q_4 := hI.r 10 rfl
  have q_5 := hI3.r 10 rfl
  have e_6 : (F3 10).toInt = (F 10).toInt := hO3
  unfold cb_X4_localInt_9
  have l_7 : (72 : Int32).toInt = 72 := rfl
  have q_8 := i_rng r3
  refine WP.bind (cs_X1_addPair hfu (72 : Int32) r3 F3 G3 hI3) ?_
  rintro r9 F9 G9 ⟨hI9, hB9, hT9, hO9, hK9, hp9⟩
  dsimp only
  have q_10 := hI9.r 10 rfl
  have e_11 : (F9 10).toInt = (F3 10).toInt := hO9
  unfold cb_X4_localInt_20
  have q_12 := i_rng x1
  have l_13 : (0 : Int32).toInt = 0 := rfl
  refine WP.bind (cs_X5_tell hfu x1 x2 (1 : Int32) r3 (0 : Int32) F9 G9 hI9) ?_
  rintro r14 F14 G14 ⟨hI14, hB14, hT14, hO14, hK14, hp14⟩
  dsimp only
  have q_15 := hI14.r 10 rfl
  have e_16 : (F14 10).toInt = (F9 10).toInt := hO14
  unfold cb_X4_localInt_32
  refine WP.ret ?_
  exact ⟨hI14, (KB.tr (KB.tr (KB.tr (KB.rf : KB F G F G) hB3) hB9) hB14), (KT.tr (KT.tr (KT.tr (rfl : KT F F) hT3) hT9) hT14), (KO.tr (KO.tr (KO.tr (rfl : KO F F) hO3) hO9) hO14), (KK.tr (KK.tr (KK.tr (rfl : KK F F) hK3) hK9) hK14), trivial⟩
theorem cs_X4_localTold {fu : Nat} (hfu : 8589934592 ≤ fu) (x1 : Int32) (F : PF) (G : PG) (hI : CI F G) (hz_x1 : x1 = 0 ∨ x1 = 1) : WP (cf_X4_localTold fu x1 F G) (fun r' F' G' => CI F' G' ∧ KB F G F' G' ∧ KT F F' ∧ KO F F' ∧ True) := by
  have q_x1 := b_rng hz_x1
  unfold cf_X4_localTold
  unfold cb_X4_localTold_0
  refine WP.bind (cs_X2_next hfu F G hI) ?_
  rintro r1 F1 G1 ⟨hI1, hB1, hT1, hO1, hp1⟩
  dsimp only
  have q_2 := hI.r 10 rfl
  have q_3 := hI1.r 10 rfl
  have e_4 : (F1 10).toInt = (F 10).toInt := hO1
  unfold cb_X4_localTold_15
  have l_5 : (2 : Int32).toInt = 2 := rfl
  refine WP.bind (cs_X2_expect hfu (2 : Int32) F1 G1 hI1 (show (2 : Int32).toInt ≠ -2 by omega)) ?_
  rintro r6 F6 G6 ⟨hI6, hB6, hT6, hO6, hS6, hp6⟩
  dsimp only
  have q_7 := i_rng (F1 11)
  have q_8 := i_rng (F6 11)
  have e_9 : (F1 11).toInt = -2 → (F6 11).toInt = -2 := hS6
  have q_10 := hI6.r 10 rfl
  have e_11 : (F6 10).toInt = (F1 10).toInt := hO6
  unfold cb_X4_localTold_40
  refine WP.ite (fun c_12 => ?_) (fun c_12 => ?_)
  · skip
    have q_13 := i_rng x1
    have l_14 : (0 : Int32).toInt = 0 := rfl
    have e_15 := i_eq.mp (show x1 = (0 : Int32) from c_12)
    unfold cb_X4_localTold_67
    refine WP.ite (fun c_16 => ?_) (fun c_16 => ?_)
    · skip
      have l_17 : (21 : Int32).toInt = 21 := rfl
      have e_18 := i_eq.mp (show (F6 11) = (21 : Int32) from c_16)
      unfold cb_X4_localTold_84
      refine WP.bind (cs_X3_arraySize hfu F6 G6 hI6) ?_
      rintro r19 F19 G19 ⟨hI19, hB19, hT19, hO19, hp19⟩
      dsimp only
      have q_20 := hI19.r 10 rfl
      have e_21 : (F19 10).toInt = (F6 10).toInt := hO19
      unfold cb_X4_localTold_91
      refine WP.ite (fun c_22 => ?_) (fun c_22 => ?_)
      · skip
        have q_23 := i_rng (F 11)
        have l_24 : (4 : Int32).toInt = 4 := rfl
        have e_25 := i_eq.mp (show (F 11) = (4 : Int32) from c_22)
        unfold cb_X4_localTold_102
        unfold cb_X4_localTold_107
        have q_26 := i_rng (F1 12)
        have q_27 := i_rng (F1 13)
        have q_28 := i_rng r19
        refine WP.bind (cs_X4_localArray hfu (F1 12) (F1 13) (2 : Int32) r19 F19 G19 hI19) ?_
        rintro r29 F29 G29 ⟨hI29, hB29, hT29, hO29, hK29, hp29⟩
        dsimp only
        have q_30 := i_rng (F19 11)
        have q_31 := i_rng (F29 11)
        have e_32 : (F29 11).toInt = (F19 11).toInt := congrArg Int32.toInt hK29
        have q_33 := hI29.r 10 rfl
        have e_34 : (F29 10).toInt = (F19 10).toInt := hO29
        unfold cb_X4_localTold_112
        unfold cb_X4_localTold_168
        refine WP.ret ?_
        exact ⟨hI29, (KB.tr (KB.tr (KB.tr (KB.tr (KB.rf : KB F G F G) hB1) hB6) hB19) hB29), (KT.tr (KT.tr (KT.tr (KT.tr (rfl : KT F F) hT1) hT6) hT19) hT29), (KO.tr (KO.tr (KO.tr (KO.tr (rfl : KO F F) hO1) hO6) hO19) hO29), trivial⟩
      · skip
        have q_35 := i_rng (F 11)
        have l_36 : (4 : Int32).toInt = 4 := rfl
        have e_37 := mt i_eq.mpr (show ¬ ((F 11) = (4 : Int32)) from c_22)
        unfold cb_X4_localTold_106
        unfold cb_X4_localTold_107
        have q_38 := i_rng (F1 12)
        have q_39 := i_rng (F1 13)
        have l_40 : (3 : Int32).toInt = 3 := rfl
        have q_41 := i_rng r19
        refine WP.bind (cs_X4_localArray hfu (F1 12) (F1 13) (3 : Int32) r19 F19 G19 hI19) ?_
        rintro r42 F42 G42 ⟨hI42, hB42, hT42, hO42, hK42, hp42⟩
        dsimp only
        have q_43 := i_rng (F19 11)
        have q_44 := i_rng (F42 11)
        have e_45 : (F42 11).toInt = (F19 11).toInt := congrArg Int32.toInt hK42
        have q_46 := hI42.r 10 rfl
        have e_47 : (F42 10).toInt = (F19 10).toInt := hO42
        unfold cb_X4_localTold_112
        unfold cb_X4_localTold_168
        refine WP.ret ?_
        exact ⟨hI42, (KB.tr (KB.tr (KB.tr (KB.tr (KB.rf : KB F G F G) hB1) hB6) hB19) hB42), (KT.tr (KT.tr (KT.tr (KT.tr (rfl : KT F F) hT1) hT6) hT19) hT42), (KO.tr (KO.tr (KO.tr (KO.tr (rfl : KO F F) hO1) hO6) hO19) hO42), trivial⟩
    · skip
      have l_48 : (21 : Int32).toInt = 21 := rfl
      have e_49 := mt i_eq.mpr (show ¬ ((F6 11) = (21 : Int32)) from c_16)
      unfold cb_X4_localTold_79
      refine WP.ite (fun c_50 => ?_) (fun c_50 => ?_)
      · skip
        have q_51 := i_rng (F 11)
        have l_52 : (5 : Int32).toInt = 5 := rfl
        have e_53 := i_eq.mp (show (F 11) = (5 : Int32) from c_50)
        unfold cb_X4_localTold_84
        refine WP.bind (cs_X3_arraySize hfu F6 G6 hI6) ?_
        rintro r54 F54 G54 ⟨hI54, hB54, hT54, hO54, hp54⟩
        dsimp only
        have q_55 := hI54.r 10 rfl
        have e_56 : (F54 10).toInt = (F6 10).toInt := hO54
        unfold cb_X4_localTold_91
        refine WP.ite (fun c_57 => ?_) (fun c_57 => ?_)
        · skip
          have l_58 : (4 : Int32).toInt = 4 := rfl
          have e_59 := i_eq.mp (show (F 11) = (4 : Int32) from c_57)
          unfold cb_X4_localTold_102
          unfold cb_X4_localTold_107
          have q_60 := i_rng (F1 12)
          have q_61 := i_rng (F1 13)
          have q_62 := i_rng r54
          refine WP.bind (cs_X4_localArray hfu (F1 12) (F1 13) (2 : Int32) r54 F54 G54 hI54) ?_
          rintro r63 F63 G63 ⟨hI63, hB63, hT63, hO63, hK63, hp63⟩
          dsimp only
          have q_64 := i_rng (F54 11)
          have q_65 := i_rng (F63 11)
          have e_66 : (F63 11).toInt = (F54 11).toInt := congrArg Int32.toInt hK63
          have q_67 := hI63.r 10 rfl
          have e_68 : (F63 10).toInt = (F54 10).toInt := hO63
          unfold cb_X4_localTold_112
          unfold cb_X4_localTold_168
          refine WP.ret ?_
          exact ⟨hI63, (KB.tr (KB.tr (KB.tr (KB.tr (KB.rf : KB F G F G) hB1) hB6) hB54) hB63), (KT.tr (KT.tr (KT.tr (KT.tr (rfl : KT F F) hT1) hT6) hT54) hT63), (KO.tr (KO.tr (KO.tr (KO.tr (rfl : KO F F) hO1) hO6) hO54) hO63), trivial⟩
        · skip
          have l_69 : (4 : Int32).toInt = 4 := rfl
          have e_70 := mt i_eq.mpr (show ¬ ((F 11) = (4 : Int32)) from c_57)
          unfold cb_X4_localTold_106
          unfold cb_X4_localTold_107
          have q_71 := i_rng (F1 12)
          have q_72 := i_rng (F1 13)
          have l_73 : (3 : Int32).toInt = 3 := rfl
          have q_74 := i_rng r54
          refine WP.bind (cs_X4_localArray hfu (F1 12) (F1 13) (3 : Int32) r54 F54 G54 hI54) ?_
          rintro r75 F75 G75 ⟨hI75, hB75, hT75, hO75, hK75, hp75⟩
          dsimp only
          have q_76 := i_rng (F54 11)
          have q_77 := i_rng (F75 11)
          have e_78 : (F75 11).toInt = (F54 11).toInt := congrArg Int32.toInt hK75
          have q_79 := hI75.r 10 rfl
          have e_80 : (F75 10).toInt = (F54 10).toInt := hO75
          unfold cb_X4_localTold_112
          unfold cb_X4_localTold_168
          refine WP.ret ?_
          exact ⟨hI75, (KB.tr (KB.tr (KB.tr (KB.tr (KB.rf : KB F G F G) hB1) hB6) hB54) hB75), (KT.tr (KT.tr (KT.tr (KT.tr (rfl : KT F F) hT1) hT6) hT54) hT75), (KO.tr (KO.tr (KO.tr (KO.tr (rfl : KO F F) hO1) hO6) hO54) hO75), trivial⟩
      · skip
        have q_81 := i_rng (F 11)
        have l_82 : (5 : Int32).toInt = 5 := rfl
        have e_83 := mt i_eq.mpr (show ¬ ((F 11) = (5 : Int32)) from c_50)
        unfold cb_X4_localTold_115
        refine WP.ite (fun c_84 => ?_) (fun c_84 => ?_)
        · skip
          have l_85 : (29 : Int32).toInt = 29 := rfl
          have e_86 := i_eq.mp (show (F6 11) = (29 : Int32) from c_84)
          unfold cb_X4_localTold_127
          refine WP.bind (cs_X2_next hfu F6 G6 hI6) ?_
          rintro r87 F87 G87 ⟨hI87, hB87, hT87, hO87, hp87⟩
          dsimp only
          have q_88 := hI87.r 10 rfl
          have e_89 : (F87 10).toInt = (F6 10).toInt := hO87
          unfold cb_X4_localTold_134
          refine WP.bind (cs_X3_expression hfu F87 G87 hI87) ?_
          rintro r90 F90 G90 ⟨hI90, hB90, hT90, hO90, hS90, hp90⟩
          dsimp only
          have q_91 := i_rng (F87 11)
          have q_92 := i_rng (F90 11)
          have e_93 : (F87 11).toInt = -2 → (F90 11).toInt = -2 := hS90
          have q_94 := hI90.r 10 rfl
          have e_95 : (F90 10).toInt = (F87 10).toInt := hO90
          unfold cb_X4_localTold_141
          have q_96 := i_rng (F1 12)
          have q_97 := i_rng (F1 13)
          refine WP.bind (cs_X4_localInt hfu (F1 12) (F1 13) F90 G90 hI90) ?_
          rintro r98 F98 G98 ⟨hI98, hB98, hT98, hO98, hK98, hp98⟩
          dsimp only
          have q_99 := i_rng (F98 11)
          have e_100 : (F98 11).toInt = (F90 11).toInt := congrArg Int32.toInt hK98
          have q_101 := hI98.r 10 rfl
          have e_102 : (F98 10).toInt = (F90 10).toInt := hO98
          unfold cb_X4_localTold_148
          unfold cb_X4_localTold_168
          refine WP.ret ?_
          exact ⟨hI98, (KB.tr (KB.tr (KB.tr (KB.tr (KB.tr (KB.rf : KB F G F G) hB1) hB6) hB87) hB90) hB98), (KT.tr (KT.tr (KT.tr (KT.tr (KT.tr (rfl : KT F F) hT1) hT6) hT87) hT90) hT98), (KO.tr (KO.tr (KO.tr (KO.tr (KO.tr (rfl : KO F F) hO1) hO6) hO87) hO90) hO98), trivial⟩
        · skip
          have l_103 : (29 : Int32).toInt = 29 := rfl
          have e_104 := mt i_eq.mpr (show ¬ ((F6 11) = (29 : Int32)) from c_84)
          unfold cb_X4_localTold_151
          have l_105 : (66 : Int32).toInt = 66 := rfl
          refine WP.bind (cs_X1_addPair hfu (66 : Int32) (0 : Int32) F6 G6 hI6) ?_
          rintro r106 F106 G106 ⟨hI106, hB106, hT106, hO106, hK106, hp106⟩
          dsimp only
          have q_107 := i_rng (F106 11)
          have e_108 : (F106 11).toInt = (F6 11).toInt := congrArg Int32.toInt hK106
          have q_109 := hI106.r 10 rfl
          have e_110 : (F106 10).toInt = (F6 10).toInt := hO106
          unfold cb_X4_localTold_161
          have q_111 := i_rng (F1 12)
          have q_112 := i_rng (F1 13)
          refine WP.bind (cs_X4_localInt hfu (F1 12) (F1 13) F106 G106 hI106) ?_
          rintro r113 F113 G113 ⟨hI113, hB113, hT113, hO113, hK113, hp113⟩
          dsimp only
          have q_114 := i_rng (F113 11)
          have e_115 : (F113 11).toInt = (F106 11).toInt := congrArg Int32.toInt hK113
          have q_116 := hI113.r 10 rfl
          have e_117 : (F113 10).toInt = (F106 10).toInt := hO113
          unfold cb_X4_localTold_168
          refine WP.ret ?_
          exact ⟨hI113, (KB.tr (KB.tr (KB.tr (KB.tr (KB.rf : KB F G F G) hB1) hB6) hB106) hB113), (KT.tr (KT.tr (KT.tr (KT.tr (rfl : KT F F) hT1) hT6) hT106) hT113), (KO.tr (KO.tr (KO.tr (KO.tr (rfl : KO F F) hO1) hO6) hO106) hO113), trivial⟩
  · skip
    have q_118 := i_rng x1
    have l_119 : (0 : Int32).toInt = 0 := rfl
    have e_120 := mt i_eq.mpr (show ¬ (x1 = (0 : Int32)) from c_12)
    unfold cb_X4_localTold_44
    refine WP.ite (fun c_121 => ?_) (fun c_121 => ?_)
    · skip
      have l_122 : (29 : Int32).toInt = 29 := rfl
      have e_123 := i_eq.mp (show (F6 11) = (29 : Int32) from c_121)
      unfold cb_X4_localTold_67
      refine WP.ite (fun c_124 => ?_) (fun c_124 => ?_)
      · skip
        have l_125 : (21 : Int32).toInt = 21 := rfl
        have e_126 := i_eq.mp (show (F6 11) = (21 : Int32) from c_124)
        unfold cb_X4_localTold_84
        refine WP.bind (cs_X3_arraySize hfu F6 G6 hI6) ?_
        rintro r127 F127 G127 ⟨hI127, hB127, hT127, hO127, hp127⟩
        dsimp only
        have q_128 := hI127.r 10 rfl
        have e_129 : (F127 10).toInt = (F6 10).toInt := hO127
        unfold cb_X4_localTold_91
        refine WP.ite (fun c_130 => ?_) (fun c_130 => ?_)
        · skip
          have q_131 := i_rng (F 11)
          have l_132 : (4 : Int32).toInt = 4 := rfl
          have e_133 := i_eq.mp (show (F 11) = (4 : Int32) from c_130)
          unfold cb_X4_localTold_102
          unfold cb_X4_localTold_107
          have q_134 := i_rng (F1 12)
          have q_135 := i_rng (F1 13)
          have q_136 := i_rng r127
          refine WP.bind (cs_X4_localArray hfu (F1 12) (F1 13) (2 : Int32) r127 F127 G127 hI127) ?_
          rintro r137 F137 G137 ⟨hI137, hB137, hT137, hO137, hK137, hp137⟩
          dsimp only
          have q_138 := i_rng (F127 11)
          have q_139 := i_rng (F137 11)
          have e_140 : (F137 11).toInt = (F127 11).toInt := congrArg Int32.toInt hK137
          have q_141 := hI137.r 10 rfl
          have e_142 : (F137 10).toInt = (F127 10).toInt := hO137
          unfold cb_X4_localTold_112
          unfold cb_X4_localTold_168
          refine WP.ret ?_
          exact ⟨hI137, (KB.tr (KB.tr (KB.tr (KB.tr (KB.rf : KB F G F G) hB1) hB6) hB127) hB137), (KT.tr (KT.tr (KT.tr (KT.tr (rfl : KT F F) hT1) hT6) hT127) hT137), (KO.tr (KO.tr (KO.tr (KO.tr (rfl : KO F F) hO1) hO6) hO127) hO137), trivial⟩
        · skip
          have q_143 := i_rng (F 11)
          have l_144 : (4 : Int32).toInt = 4 := rfl
          have e_145 := mt i_eq.mpr (show ¬ ((F 11) = (4 : Int32)) from c_130)
          unfold cb_X4_localTold_106
          unfold cb_X4_localTold_107
          have q_146 := i_rng (F1 12)
          have q_147 := i_rng (F1 13)
          have l_148 : (3 : Int32).toInt = 3 := rfl
          have q_149 := i_rng r127
          refine WP.bind (cs_X4_localArray hfu (F1 12) (F1 13) (3 : Int32) r127 F127 G127 hI127) ?_
          rintro r150 F150 G150 ⟨hI150, hB150, hT150, hO150, hK150, hp150⟩
          dsimp only
          have q_151 := i_rng (F127 11)
          have q_152 := i_rng (F150 11)
          have e_153 : (F150 11).toInt = (F127 11).toInt := congrArg Int32.toInt hK150
          have q_154 := hI150.r 10 rfl
          have e_155 : (F150 10).toInt = (F127 10).toInt := hO150
          unfold cb_X4_localTold_112
          unfold cb_X4_localTold_168
          refine WP.ret ?_
          exact ⟨hI150, (KB.tr (KB.tr (KB.tr (KB.tr (KB.rf : KB F G F G) hB1) hB6) hB127) hB150), (KT.tr (KT.tr (KT.tr (KT.tr (rfl : KT F F) hT1) hT6) hT127) hT150), (KO.tr (KO.tr (KO.tr (KO.tr (rfl : KO F F) hO1) hO6) hO127) hO150), trivial⟩
      · skip
        have l_156 : (21 : Int32).toInt = 21 := rfl
        have e_157 := mt i_eq.mpr (show ¬ ((F6 11) = (21 : Int32)) from c_124)
        unfold cb_X4_localTold_79
        refine WP.ite (fun c_158 => ?_) (fun c_158 => ?_)
        · skip
          have q_159 := i_rng (F 11)
          have l_160 : (5 : Int32).toInt = 5 := rfl
          have e_161 := i_eq.mp (show (F 11) = (5 : Int32) from c_158)
          unfold cb_X4_localTold_84
          refine WP.bind (cs_X3_arraySize hfu F6 G6 hI6) ?_
          rintro r162 F162 G162 ⟨hI162, hB162, hT162, hO162, hp162⟩
          dsimp only
          have q_163 := hI162.r 10 rfl
          have e_164 : (F162 10).toInt = (F6 10).toInt := hO162
          unfold cb_X4_localTold_91
          refine WP.ite (fun c_165 => ?_) (fun c_165 => ?_)
          · skip
            have l_166 : (4 : Int32).toInt = 4 := rfl
            have e_167 := i_eq.mp (show (F 11) = (4 : Int32) from c_165)
            unfold cb_X4_localTold_102
            unfold cb_X4_localTold_107
            have q_168 := i_rng (F1 12)
            have q_169 := i_rng (F1 13)
            have q_170 := i_rng r162
            refine WP.bind (cs_X4_localArray hfu (F1 12) (F1 13) (2 : Int32) r162 F162 G162 hI162) ?_
            rintro r171 F171 G171 ⟨hI171, hB171, hT171, hO171, hK171, hp171⟩
            dsimp only
            have q_172 := i_rng (F162 11)
            have q_173 := i_rng (F171 11)
            have e_174 : (F171 11).toInt = (F162 11).toInt := congrArg Int32.toInt hK171
            have q_175 := hI171.r 10 rfl
            have e_176 : (F171 10).toInt = (F162 10).toInt := hO171
            unfold cb_X4_localTold_112
            unfold cb_X4_localTold_168
            refine WP.ret ?_
            exact ⟨hI171, (KB.tr (KB.tr (KB.tr (KB.tr (KB.rf : KB F G F G) hB1) hB6) hB162) hB171), (KT.tr (KT.tr (KT.tr (KT.tr (rfl : KT F F) hT1) hT6) hT162) hT171), (KO.tr (KO.tr (KO.tr (KO.tr (rfl : KO F F) hO1) hO6) hO162) hO171), trivial⟩
          · skip
            have l_177 : (4 : Int32).toInt = 4 := rfl
            have e_178 := mt i_eq.mpr (show ¬ ((F 11) = (4 : Int32)) from c_165)
            unfold cb_X4_localTold_106
            unfold cb_X4_localTold_107
            have q_179 := i_rng (F1 12)
            have q_180 := i_rng (F1 13)
            have l_181 : (3 : Int32).toInt = 3 := rfl
            have q_182 := i_rng r162
            refine WP.bind (cs_X4_localArray hfu (F1 12) (F1 13) (3 : Int32) r162 F162 G162 hI162) ?_
            rintro r183 F183 G183 ⟨hI183, hB183, hT183, hO183, hK183, hp183⟩
            dsimp only
            have q_184 := i_rng (F162 11)
            have q_185 := i_rng (F183 11)
            have e_186 : (F183 11).toInt = (F162 11).toInt := congrArg Int32.toInt hK183
            have q_187 := hI183.r 10 rfl
            have e_188 : (F183 10).toInt = (F162 10).toInt := hO183
            unfold cb_X4_localTold_112
            unfold cb_X4_localTold_168
            refine WP.ret ?_
            exact ⟨hI183, (KB.tr (KB.tr (KB.tr (KB.tr (KB.rf : KB F G F G) hB1) hB6) hB162) hB183), (KT.tr (KT.tr (KT.tr (KT.tr (rfl : KT F F) hT1) hT6) hT162) hT183), (KO.tr (KO.tr (KO.tr (KO.tr (rfl : KO F F) hO1) hO6) hO162) hO183), trivial⟩
        · skip
          have q_189 := i_rng (F 11)
          have l_190 : (5 : Int32).toInt = 5 := rfl
          have e_191 := mt i_eq.mpr (show ¬ ((F 11) = (5 : Int32)) from c_158)
          unfold cb_X4_localTold_115
          refine WP.ite (fun c_192 => ?_) (fun c_192 => ?_)
          · skip
            have e_193 := i_eq.mp (show (F6 11) = (29 : Int32) from c_192)
            unfold cb_X4_localTold_127
            refine WP.bind (cs_X2_next hfu F6 G6 hI6) ?_
            rintro r194 F194 G194 ⟨hI194, hB194, hT194, hO194, hp194⟩
            dsimp only
            have q_195 := hI194.r 10 rfl
            have e_196 : (F194 10).toInt = (F6 10).toInt := hO194
            unfold cb_X4_localTold_134
            refine WP.bind (cs_X3_expression hfu F194 G194 hI194) ?_
            rintro r197 F197 G197 ⟨hI197, hB197, hT197, hO197, hS197, hp197⟩
            dsimp only
            have q_198 := i_rng (F194 11)
            have q_199 := i_rng (F197 11)
            have e_200 : (F194 11).toInt = -2 → (F197 11).toInt = -2 := hS197
            have q_201 := hI197.r 10 rfl
            have e_202 : (F197 10).toInt = (F194 10).toInt := hO197
            unfold cb_X4_localTold_141
            have q_203 := i_rng (F1 12)
            have q_204 := i_rng (F1 13)
            refine WP.bind (cs_X4_localInt hfu (F1 12) (F1 13) F197 G197 hI197) ?_
            rintro r205 F205 G205 ⟨hI205, hB205, hT205, hO205, hK205, hp205⟩
            dsimp only
            have q_206 := i_rng (F205 11)
            have e_207 : (F205 11).toInt = (F197 11).toInt := congrArg Int32.toInt hK205
            have q_208 := hI205.r 10 rfl
            have e_209 : (F205 10).toInt = (F197 10).toInt := hO205
            unfold cb_X4_localTold_148
            unfold cb_X4_localTold_168
            refine WP.ret ?_
            exact ⟨hI205, (KB.tr (KB.tr (KB.tr (KB.tr (KB.tr (KB.rf : KB F G F G) hB1) hB6) hB194) hB197) hB205), (KT.tr (KT.tr (KT.tr (KT.tr (KT.tr (rfl : KT F F) hT1) hT6) hT194) hT197) hT205), (KO.tr (KO.tr (KO.tr (KO.tr (KO.tr (rfl : KO F F) hO1) hO6) hO194) hO197) hO205), trivial⟩
          · skip
            have e_210 := mt i_eq.mpr (show ¬ ((F6 11) = (29 : Int32)) from c_192)
            unfold cb_X4_localTold_151
            have l_211 : (66 : Int32).toInt = 66 := rfl
            refine WP.bind (cs_X1_addPair hfu (66 : Int32) (0 : Int32) F6 G6 hI6) ?_
            rintro r212 F212 G212 ⟨hI212, hB212, hT212, hO212, hK212, hp212⟩
            dsimp only
            have q_213 := i_rng (F212 11)
            have e_214 : (F212 11).toInt = (F6 11).toInt := congrArg Int32.toInt hK212
            have q_215 := hI212.r 10 rfl
            have e_216 : (F212 10).toInt = (F6 10).toInt := hO212
            unfold cb_X4_localTold_161
            have q_217 := i_rng (F1 12)
            have q_218 := i_rng (F1 13)
            refine WP.bind (cs_X4_localInt hfu (F1 12) (F1 13) F212 G212 hI212) ?_
            rintro r219 F219 G219 ⟨hI219, hB219, hT219, hO219, hK219, hp219⟩
            dsimp only
            have q_220 := i_rng (F219 11)
            have e_221 : (F219 11).toInt = (F212 11).toInt := congrArg Int32.toInt hK219
            have q_222 := hI219.r 10 rfl
            have e_223 : (F219 10).toInt = (F212 10).toInt := hO219
            unfold cb_X4_localTold_168
            refine WP.ret ?_
            exact ⟨hI219, (KB.tr (KB.tr (KB.tr (KB.tr (KB.rf : KB F G F G) hB1) hB6) hB212) hB219), (KT.tr (KT.tr (KT.tr (KT.tr (rfl : KT F F) hT1) hT6) hT212) hT219), (KO.tr (KO.tr (KO.tr (KO.tr (rfl : KO F F) hO1) hO6) hO212) hO219), trivial⟩
    · skip
      have l_224 : (29 : Int32).toInt = 29 := rfl
      have e_225 := mt i_eq.mpr (show ¬ ((F6 11) = (29 : Int32)) from c_121)
      unfold cb_X4_localTold_56
      refine WP.bind (cs_X2_fail hfu (2 : Int32) F6 G6 hI6) ?_
      rintro r226 F226 G226 ⟨hI226, hB226, hT226, hO226, hp226⟩
      dsimp only
      have q_227 := hI226.r 10 rfl
      have e_228 : (F226 10).toInt = (F6 10).toInt := hO226
      have q_229 := i_rng (F226 11)
      have e_230 : (F226 11).toInt = -2 := hp226
      unfold cb_X4_localTold_64
      unfold cb_X4_localTold_168
      refine WP.ret ?_
      exact ⟨hI226, (KB.tr (KB.tr (KB.tr (KB.rf : KB F G F G) hB1) hB6) hB226), (KT.tr (KT.tr (KT.tr (rfl : KT F F) hT1) hT6) hT226), (KO.tr (KO.tr (KO.tr (rfl : KO F F) hO1) hO6) hO226), trivial⟩
theorem cs_X5_wantPlace {fu : Nat} (hfu : 8589934592 ≤ fu) (x1 : Int32) (x2 : Int32) (x3 : Int32) (F : PF) (G : PG) (hI : CI F G) : WP (cf_X5_wantPlace fu x1 x2 x3 F G) (fun r' F' G' => CI F' G' ∧ KB F G F' G' ∧ KT F F' ∧ KO F F' ∧ KK F F' ∧ True) := by
  unfold cf_X5_wantPlace
  unfold cb_X5_wantPlace_0
  have q_1 := i_rng x1
  refine WP.bind (cs_X5_kind hfu x1 F G hI) ?_
  rintro r2 _ _ ⟨rfl, rfl, hp2⟩
  dsimp only
  have q_3 := i_rng r2
  unfold cb_X5_wantPlace_5
  refine WP.ite (fun c_4 => ?_) (fun c_4 => ?_)
  · skip
    have l_5 : (-1 : Int32).toInt = -1 := rfl
    have e_6 := i_eq.mp (show r2 = (-1 : Int32) from c_4)
    unfold cb_X5_wantPlace_28
    refine WP.ret ?_
    exact ⟨hI, (KB.rf : KB F G F G), (rfl : KT F F), (rfl : KO F F), (rfl : KK F F), trivial⟩
  · skip
    have l_7 : (-1 : Int32).toInt = -1 := rfl
    have e_8 := mt i_eq.mpr (show ¬ (r2 = (-1 : Int32)) from c_4)
    unfold cb_X5_wantPlace_13
    have q_9 := i_rng x3
    refine WP.bind (cs_X5_fits hfu r2 x3 F G hI) ?_
    rintro r10 _ _ ⟨rfl, rfl, hp10⟩
    dsimp only
    have q_11 := b_rng hp10
    unfold cb_X5_wantPlace_19
    refine WP.ite (fun c_12 => ?_) (fun c_12 => ?_)
    · skip
      have l_13 : (0 : Int32).toInt = 0 := rfl
      have e_14 := i_eq.mp (show r10 = (0 : Int32) from c_12)
      unfold cb_X5_wantPlace_22
      have l_15 : (4 : Int32).toInt = 4 := rfl
      have q_16 := i_rng x2
      refine WP.bind (cs_X5_note hfu (4 : Int32) x2 F G hI) ?_
      rintro r17 F17 G17 ⟨hI17, hB17, hT17, hO17, hK17, hp17⟩
      dsimp only
      have q_18 := hI.r 10 rfl
      have q_19 := hI17.r 10 rfl
      have e_20 : (F17 10).toInt = (F 10).toInt := hO17
      unfold cb_X5_wantPlace_28
      refine WP.ret ?_
      exact ⟨hI17, (KB.tr (KB.rf : KB F G F G) hB17), (KT.tr (rfl : KT F F) hT17), (KO.tr (rfl : KO F F) hO17), (KK.tr (rfl : KK F F) hK17), trivial⟩
    · skip
      have l_21 : (0 : Int32).toInt = 0 := rfl
      have e_22 := mt i_eq.mpr (show ¬ (r10 = (0 : Int32)) from c_12)
      unfold cb_X5_wantPlace_28
      refine WP.ret ?_
      exact ⟨hI, (KB.rf : KB F G F G), (rfl : KT F F), (rfl : KO F F), (rfl : KK F F), trivial⟩
theorem cs_X4_oldValue {fu : Nat} (hfu : 8589934592 ≤ fu) (x1 : Int32) (x2 : Int32) (F : PF) (G : PG) (hI : CI F G) (hz_x2 : x2 = 0 ∨ x2 = 1) : WP (cf_X4_oldValue fu x1 x2 F G) (fun r' F' G' => CI F' G' ∧ KB F G F' G' ∧ KT F F' ∧ KO F F' ∧ KK F F' ∧ True) := by
  have q_x2 := b_rng hz_x2
  unfold cf_X4_oldValue
  unfold cb_X4_oldValue_0
  refine WP.ite (fun c_1 => ?_) (fun c_1 => ?_)
  · skip
    have q_2 := i_rng x2
    have l_3 : (0 : Int32).toInt = 0 := rfl
    have e_4 := i_eq.mp (show x2 = (0 : Int32) from c_1)
    unfold cb_X4_oldValue_24
    have q_5 := i_rng x1
    refine WP.bind (cs_X3_load hfu x1 F G hI) ?_
    rintro r6 F6 G6 ⟨hI6, hB6, hT6, hO6, hK6, hp6⟩
    dsimp only
    have q_7 := hI.r 10 rfl
    have q_8 := hI6.r 10 rfl
    have e_9 : (F6 10).toInt = (F 10).toInt := hO6
    unfold cb_X4_oldValue_32
    refine WP.ret ?_
    exact ⟨hI6, (KB.tr (KB.rf : KB F G F G) hB6), (KT.tr (rfl : KT F F) hT6), (KO.tr (rfl : KO F F) hO6), (KK.tr (rfl : KK F F) hK6), trivial⟩
  · skip
    have q_10 := i_rng x2
    have l_11 : (0 : Int32).toInt = 0 := rfl
    have e_12 := mt i_eq.mpr (show ¬ (x2 = (0 : Int32)) from c_1)
    unfold cb_X4_oldValue_4
    have l_13 : (67 : Int32).toInt = 67 := rfl
    refine WP.bind (cs_X1_add hfu (67 : Int32) F G hI) ?_
    rintro r14 F14 G14 ⟨hI14, hB14, hT14, hO14, hK14, hp14⟩
    dsimp only
    have q_15 := hI.r 10 rfl
    have q_16 := hI14.r 10 rfl
    have e_17 : (F14 10).toInt = (F 10).toInt := hO14
    have q_18 := hI.r 21 rfl
    have q_19 := hI14.r 21 rfl
    have e_20 : (F14 21).toInt = (F 21).toInt := congrArg Int32.toInt hp14
    unfold cb_X4_oldValue_13
    have q_21 := i_rng x1
    refine WP.bind (cs_X3_fetch hfu x1 F14 G14 hI14) ?_
    rintro r22 F22 G22 ⟨hI22, hB22, hT22, hO22, hK22, hp22⟩
    dsimp only
    have q_23 := hI22.r 10 rfl
    have e_24 : (F22 10).toInt = (F14 10).toInt := hO22
    unfold cb_X4_oldValue_21
    unfold cb_X4_oldValue_32
    refine WP.ret ?_
    exact ⟨hI22, (KB.tr (KB.tr (KB.rf : KB F G F G) hB14) hB22), (KT.tr (KT.tr (rfl : KT F F) hT14) hT22), (KO.tr (KO.tr (rfl : KO F F) hO14) hO22), (KK.tr (KK.tr (rfl : KK F F) hK14) hK22), trivial⟩
theorem cs_X4_simple {fu : Nat} (hfu : 8589934592 ≤ fu) (F : PF) (G : PG) (hI : CI F G) : WP (cf_X4_simple fu F G) (fun r' F' G' => CI F' G' ∧ KB F G F' G' ∧ KT F F' ∧ KO F F' ∧ KS F F' ∧ True) := by
  unfold cf_X4_simple
  unfold cb_X4_simple_0
  have l_1 : (2 : Int32).toInt = 2 := rfl
  refine WP.bind (cs_X2_expect hfu (2 : Int32) F G hI (show (2 : Int32).toInt ≠ -2 by omega)) ?_
  rintro r2 F2 G2 ⟨hI2, hB2, hT2, hO2, hS2, hp2⟩
  dsimp only
  have q_3 := i_rng (F 11)
  have q_4 := i_rng (F2 11)
  have e_5 : (F 11).toInt = -2 → (F2 11).toInt = -2 := hS2
  have q_6 := hI.r 10 rfl
  have q_7 := hI2.r 10 rfl
  have e_8 : (F2 10).toInt = (F 10).toInt := hO2
  unfold cb_X4_simple_24
  refine WP.ite (fun c_9 => ?_) (fun c_9 => ?_)
  · skip
    have l_10 : (-2 : Int32).toInt = -2 := rfl
    have e_11 := i_eq.mp (show (F2 11) = (-2 : Int32) from c_9)
    unfold cb_X4_simple_36
    refine WP.ret ?_
    exact ⟨hI2, (KB.tr (KB.rf : KB F G F G) hB2), (KT.tr (rfl : KT F F) hT2), (KO.tr (rfl : KO F F) hO2), (show (F 11).toInt = -2 → (F2 11).toInt = -2 by omega), trivial⟩
  · skip
    have l_12 : (-2 : Int32).toInt = -2 := rfl
    have e_13 := mt i_eq.mpr (show ¬ ((F2 11) = (-2 : Int32)) from c_9)
    unfold cb_X4_simple_37
    have q_14 := i_rng (F 12)
    have q_15 := i_rng (F 13)
    refine WP.bind (cs_X5_meant hfu (F 12) (F 13) F2 G2 hI2) ?_
    rintro r16 F16 G16 ⟨hI16, hB16, hT16, hO16, hK16, hp16⟩
    dsimp only
    have q_17 := i_rng (F16 11)
    have e_18 : (F16 11).toInt = (F2 11).toInt := congrArg Int32.toInt hK16
    have q_19 := hI16.r 10 rfl
    have e_20 : (F16 10).toInt = (F2 10).toInt := hO16
    unfold cb_X4_simple_46
    have q_21 := i_rng r16
    refine WP.bind (cs_X5_wantPlace hfu r16 (F 13) (F16 11) F16 G16 hI16) ?_
    rintro r22 F22 G22 ⟨hI22, hB22, hT22, hO22, hK22, hp22⟩
    dsimp only
    have q_23 := i_rng (F22 11)
    have e_24 : (F22 11).toInt = (F16 11).toInt := congrArg Int32.toInt hK22
    have q_25 := hI22.r 10 rfl
    have e_26 : (F22 10).toInt = (F16 10).toInt := hO22
    unfold cb_X4_simple_63
    refine WP.ite (fun c_27 => ?_) (fun c_27 => ?_)
    · skip
      have l_28 : (19 : Int32).toInt = 19 := rfl
      have e_29 := i_eq.mp (show (F22 11) = (19 : Int32) from c_27)
      unfold cb_X4_simple_75
      refine WP.bind (cs_X3_call hfu r16 (F 13) F22 G22 hI22) ?_
      rintro r30 F30 G30 ⟨hI30, hB30, hT30, hO30, hp30⟩
      dsimp only
      have q_31 := hI30.r 10 rfl
      have e_32 : (F30 10).toInt = (F22 10).toInt := hO30
      unfold cb_X4_simple_84
      have l_33 : (68 : Int32).toInt = 68 := rfl
      refine WP.bind (cs_X1_add hfu (68 : Int32) F30 G30 hI30) ?_
      rintro r34 F34 G34 ⟨hI34, hB34, hT34, hO34, hK34, hp34⟩
      dsimp only
      have q_35 := i_rng (F30 11)
      have q_36 := i_rng (F34 11)
      have e_37 : (F34 11).toInt = (F30 11).toInt := congrArg Int32.toInt hK34
      have q_38 := hI34.r 10 rfl
      have e_39 : (F34 10).toInt = (F30 10).toInt := hO34
      have q_40 := hI30.r 21 rfl
      have q_41 := hI34.r 21 rfl
      have e_42 : (F34 21).toInt = (F30 21).toInt := congrArg Int32.toInt hp34
      unfold cb_X4_simple_93
      refine WP.ret ?_
      exact ⟨hI34, (KB.tr (KB.tr (KB.tr (KB.tr (KB.tr (KB.rf : KB F G F G) hB2) hB16) hB22) hB30) hB34), (KT.tr (KT.tr (KT.tr (KT.tr (KT.tr (rfl : KT F F) hT2) hT16) hT22) hT30) hT34), (KO.tr (KO.tr (KO.tr (KO.tr (KO.tr (rfl : KO F F) hO2) hO16) hO22) hO30) hO34), (show (F 11).toInt = -2 → (F34 11).toInt = -2 by omega), trivial⟩
    · skip
      have l_43 : (19 : Int32).toInt = 19 := rfl
      have e_44 := mt i_eq.mpr (show ¬ ((F22 11) = (19 : Int32)) from c_27)
      unfold cb_X4_simple_94
      refine WP.ite (fun c_45 => ?_) (fun c_45 => ?_)
      · skip
        have l_46 : (21 : Int32).toInt = 21 := rfl
        have e_47 := i_eq.mp (show (F22 11) = (21 : Int32) from c_45)
        unfold cb_X4_simple_106
        unfold cb_X4_simple_111
        refine WP.ite (fun c_48 => absurd c_48 (by decide)) (fun _ => ?_)
        unfold cb_X4_simple_118
        refine WP.bind (cs_X3_index hfu r16 F22 G22 hI22) ?_
        rintro r49 F49 G49 ⟨hI49, hB49, hT49, hO49, hp49⟩
        dsimp only
        have q_50 := hI49.r 10 rfl
        have e_51 : (F49 10).toInt = (F22 10).toInt := hO49
        unfold cb_X4_simple_126
        refine WP.ite (fun c_52 => ?_) (fun c_52 => ?_)
        · skip
          have q_53 := i_rng (F49 11)
          have l_54 : (29 : Int32).toInt = 29 := rfl
          have e_55 := i_lt.mp (show (F49 11) < (29 : Int32) from c_52)
          unfold cb_X4_simple_149
          refine WP.bind (cs_X2_fail hfu (2 : Int32) F49 G49 hI49) ?_
          rintro r56 F56 G56 ⟨hI56, hB56, hT56, hO56, hp56⟩
          dsimp only
          have q_57 := hI56.r 10 rfl
          have e_58 : (F56 10).toInt = (F49 10).toInt := hO56
          have q_59 := i_rng (F56 11)
          have e_60 : (F56 11).toInt = -2 := hp56
          unfold cb_X4_simple_157
          refine WP.ret ?_
          exact ⟨hI56, (KB.tr (KB.tr (KB.tr (KB.tr (KB.tr (KB.rf : KB F G F G) hB2) hB16) hB22) hB49) hB56), (KT.tr (KT.tr (KT.tr (KT.tr (KT.tr (rfl : KT F F) hT2) hT16) hT22) hT49) hT56), (KO.tr (KO.tr (KO.tr (KO.tr (KO.tr (rfl : KO F F) hO2) hO16) hO22) hO49) hO56), (show (F 11).toInt = -2 → (F56 11).toInt = -2 by omega), trivial⟩
        · skip
          have q_61 := i_rng (F49 11)
          have l_62 : (29 : Int32).toInt = 29 := rfl
          have e_63 := mt i_lt.mpr (show ¬ ((F49 11) < (29 : Int32)) from c_52)
          unfold cb_X4_simple_142
          refine WP.ite (fun c_64 => ?_) (fun c_64 => ?_)
          · skip
            have l_65 : (42 : Int32).toInt = 42 := rfl
            have e_66 := i_le.mp (show (F49 11) ≤ (42 : Int32) from c_64)
            unfold cb_X4_simple_158
            refine WP.bind (cs_X2_next hfu F49 G49 hI49) ?_
            rintro r67 F67 G67 ⟨hI67, hB67, hT67, hO67, hp67⟩
            dsimp only
            have q_68 := hI67.r 10 rfl
            have e_69 : (F67 10).toInt = (F49 10).toInt := hO67
            unfold cb_X4_simple_165
            refine WP.ite (fun c_70 => ?_) (fun c_70 => ?_)
            · skip
              have e_71 := i_eq.mp (show (F49 11) = (29 : Int32) from c_70)
              unfold cb_X4_simple_179
              refine WP.ite (fun c_72 => ?_) (fun c_72 => ?_)
              · skip
                have l_73 : (41 : Int32).toInt = 41 := rfl
                have e_74 := i_le.mp (show (41 : Int32) ≤ (F49 11) from c_72)
                unfold cb_X4_simple_196
                have l_75 : (66 : Int32).toInt = 66 := rfl
                have l_76 : (1 : Int32).toInt = 1 := rfl
                refine WP.bind (cs_X1_addPair hfu (66 : Int32) (1 : Int32) F67 G67 hI67) ?_
                rintro r77 F77 G77 ⟨hI77, hB77, hT77, hO77, hK77, hp77⟩
                dsimp only
                have q_78 := i_rng (F67 11)
                have q_79 := i_rng (F77 11)
                have e_80 : (F77 11).toInt = (F67 11).toInt := congrArg Int32.toInt hK77
                have q_81 := hI77.r 10 rfl
                have e_82 : (F77 10).toInt = (F67 10).toInt := hO77
                unfold cb_X4_simple_206
                refine WP.ite (fun c_83 => ?_) (fun c_83 => ?_)
                · skip
                  have e_84 := i_eq.mp (show (F49 11) = (29 : Int32) from c_83)
                  unfold cb_X4_simple_229
                  refine WP.ite (fun c_85 => absurd c_85 (by decide)) (fun _ => ?_)
                  unfold cb_X4_simple_234
                  refine WP.bind (cs_X3_keep hfu r16 F77 G77 hI77) ?_
                  rintro r86 F86 G86 ⟨hI86, hB86, hT86, hO86, hK86, hp86⟩
                  dsimp only
                  have q_87 := i_rng (F86 11)
                  have e_88 : (F86 11).toInt = (F77 11).toInt := congrArg Int32.toInt hK86
                  have q_89 := hI86.r 10 rfl
                  have e_90 : (F86 10).toInt = (F77 10).toInt := hO86
                  unfold cb_X4_simple_242
                  unfold cb_X4_simple_253
                  refine WP.ret ?_
                  exact ⟨hI86, (KB.tr (KB.tr (KB.tr (KB.tr (KB.tr (KB.tr (KB.tr (KB.rf : KB F G F G) hB2) hB16) hB22) hB49) hB67) hB77) hB86), (KT.tr (KT.tr (KT.tr (KT.tr (KT.tr (KT.tr (KT.tr (rfl : KT F F) hT2) hT16) hT22) hT49) hT67) hT77) hT86), (KO.tr (KO.tr (KO.tr (KO.tr (KO.tr (KO.tr (KO.tr (rfl : KO F F) hO2) hO16) hO22) hO49) hO67) hO77) hO86), (show (F 11).toInt = -2 → (F86 11).toInt = -2 by omega), trivial⟩
                · skip
                  have e_91 := mt i_eq.mpr (show ¬ ((F49 11) = (29 : Int32)) from c_83)
                  unfold cb_X4_simple_213
                  first | have e_92 : ((F49 11) - (30 : Int32)).toInt = (F49 11).toInt - (30) := i_subn (F49 11) rfl (by omega) (by omega) | have e_93 := i_rng ((F49 11) - (30 : Int32))
                  refine WP.ix (show vp_in ((F49 11) - (30 : Int32)) 13 from vp_in_iff.mpr ⟨by omega, by omega⟩) ?_
                  have q_94 := i_rng (tb_5 ((F49 11) - (30 : Int32)).toNatClampNeg)
                  refine WP.bind (cs_X1_add hfu (tb_5 ((F49 11) - (30 : Int32)).toNatClampNeg) F77 G77 hI77) ?_
                  rintro r95 F95 G95 ⟨hI95, hB95, hT95, hO95, hK95, hp95⟩
                  dsimp only
                  have q_96 := i_rng (F95 11)
                  have e_97 : (F95 11).toInt = (F77 11).toInt := congrArg Int32.toInt hK95
                  have q_98 := hI95.r 10 rfl
                  have e_99 : (F95 10).toInt = (F77 10).toInt := hO95
                  have q_100 := hI77.r 21 rfl
                  have q_101 := hI95.r 21 rfl
                  have e_102 : (F95 21).toInt = (F77 21).toInt := congrArg Int32.toInt hp95
                  unfold cb_X4_simple_229
                  refine WP.ite (fun c_103 => absurd c_103 (by decide)) (fun _ => ?_)
                  unfold cb_X4_simple_234
                  refine WP.bind (cs_X3_keep hfu r16 F95 G95 hI95) ?_
                  rintro r104 F104 G104 ⟨hI104, hB104, hT104, hO104, hK104, hp104⟩
                  dsimp only
                  have q_105 := i_rng (F104 11)
                  have e_106 : (F104 11).toInt = (F95 11).toInt := congrArg Int32.toInt hK104
                  have q_107 := hI104.r 10 rfl
                  have e_108 : (F104 10).toInt = (F95 10).toInt := hO104
                  unfold cb_X4_simple_242
                  unfold cb_X4_simple_253
                  refine WP.ret ?_
                  exact ⟨hI104, (KB.tr (KB.tr (KB.tr (KB.tr (KB.tr (KB.tr (KB.tr (KB.tr (KB.rf : KB F G F G) hB2) hB16) hB22) hB49) hB67) hB77) hB95) hB104), (KT.tr (KT.tr (KT.tr (KT.tr (KT.tr (KT.tr (KT.tr (KT.tr (rfl : KT F F) hT2) hT16) hT22) hT49) hT67) hT77) hT95) hT104), (KO.tr (KO.tr (KO.tr (KO.tr (KO.tr (KO.tr (KO.tr (KO.tr (rfl : KO F F) hO2) hO16) hO22) hO49) hO67) hO77) hO95) hO104), (show (F 11).toInt = -2 → (F104 11).toInt = -2 by omega), trivial⟩
              · skip
                have l_109 : (41 : Int32).toInt = 41 := rfl
                have e_110 := mt i_le.mpr (show ¬ ((41 : Int32) ≤ (F49 11)) from c_72)
                unfold cb_X4_simple_186
                refine WP.bind (cs_X3_expression hfu F67 G67 hI67) ?_
                rintro r111 F111 G111 ⟨hI111, hB111, hT111, hO111, hS111, hp111⟩
                dsimp only
                have q_112 := i_rng (F67 11)
                have q_113 := i_rng (F111 11)
                have e_114 : (F67 11).toInt = -2 → (F111 11).toInt = -2 := hS111
                have q_115 := hI111.r 10 rfl
                have e_116 : (F111 10).toInt = (F67 10).toInt := hO111
                unfold cb_X4_simple_193
                unfold cb_X4_simple_206
                refine WP.ite (fun c_117 => ?_) (fun c_117 => ?_)
                · skip
                  have e_118 := i_eq.mp (show (F49 11) = (29 : Int32) from c_117)
                  unfold cb_X4_simple_229
                  refine WP.ite (fun c_119 => absurd c_119 (by decide)) (fun _ => ?_)
                  unfold cb_X4_simple_234
                  refine WP.bind (cs_X3_keep hfu r16 F111 G111 hI111) ?_
                  rintro r120 F120 G120 ⟨hI120, hB120, hT120, hO120, hK120, hp120⟩
                  dsimp only
                  have q_121 := i_rng (F120 11)
                  have e_122 : (F120 11).toInt = (F111 11).toInt := congrArg Int32.toInt hK120
                  have q_123 := hI120.r 10 rfl
                  have e_124 : (F120 10).toInt = (F111 10).toInt := hO120
                  unfold cb_X4_simple_242
                  unfold cb_X4_simple_253
                  refine WP.ret ?_
                  exact ⟨hI120, (KB.tr (KB.tr (KB.tr (KB.tr (KB.tr (KB.tr (KB.tr (KB.rf : KB F G F G) hB2) hB16) hB22) hB49) hB67) hB111) hB120), (KT.tr (KT.tr (KT.tr (KT.tr (KT.tr (KT.tr (KT.tr (rfl : KT F F) hT2) hT16) hT22) hT49) hT67) hT111) hT120), (KO.tr (KO.tr (KO.tr (KO.tr (KO.tr (KO.tr (KO.tr (rfl : KO F F) hO2) hO16) hO22) hO49) hO67) hO111) hO120), (show (F 11).toInt = -2 → (F120 11).toInt = -2 by omega), trivial⟩
                · skip
                  have e_125 := mt i_eq.mpr (show ¬ ((F49 11) = (29 : Int32)) from c_117)
                  unfold cb_X4_simple_213
                  first | have e_126 : ((F49 11) - (30 : Int32)).toInt = (F49 11).toInt - (30) := i_subn (F49 11) rfl (by omega) (by omega) | have e_127 := i_rng ((F49 11) - (30 : Int32))
                  refine WP.ix (show vp_in ((F49 11) - (30 : Int32)) 13 from vp_in_iff.mpr ⟨by omega, by omega⟩) ?_
                  have q_128 := i_rng (tb_5 ((F49 11) - (30 : Int32)).toNatClampNeg)
                  refine WP.bind (cs_X1_add hfu (tb_5 ((F49 11) - (30 : Int32)).toNatClampNeg) F111 G111 hI111) ?_
                  rintro r129 F129 G129 ⟨hI129, hB129, hT129, hO129, hK129, hp129⟩
                  dsimp only
                  have q_130 := i_rng (F129 11)
                  have e_131 : (F129 11).toInt = (F111 11).toInt := congrArg Int32.toInt hK129
                  have q_132 := hI129.r 10 rfl
                  have e_133 : (F129 10).toInt = (F111 10).toInt := hO129
                  have q_134 := hI111.r 21 rfl
                  have q_135 := hI129.r 21 rfl
                  have e_136 : (F129 21).toInt = (F111 21).toInt := congrArg Int32.toInt hp129
                  unfold cb_X4_simple_229
                  refine WP.ite (fun c_137 => absurd c_137 (by decide)) (fun _ => ?_)
                  unfold cb_X4_simple_234
                  refine WP.bind (cs_X3_keep hfu r16 F129 G129 hI129) ?_
                  rintro r138 F138 G138 ⟨hI138, hB138, hT138, hO138, hK138, hp138⟩
                  dsimp only
                  have q_139 := i_rng (F138 11)
                  have e_140 : (F138 11).toInt = (F129 11).toInt := congrArg Int32.toInt hK138
                  have q_141 := hI138.r 10 rfl
                  have e_142 : (F138 10).toInt = (F129 10).toInt := hO138
                  unfold cb_X4_simple_242
                  unfold cb_X4_simple_253
                  refine WP.ret ?_
                  exact ⟨hI138, (KB.tr (KB.tr (KB.tr (KB.tr (KB.tr (KB.tr (KB.tr (KB.tr (KB.rf : KB F G F G) hB2) hB16) hB22) hB49) hB67) hB111) hB129) hB138), (KT.tr (KT.tr (KT.tr (KT.tr (KT.tr (KT.tr (KT.tr (KT.tr (rfl : KT F F) hT2) hT16) hT22) hT49) hT67) hT111) hT129) hT138), (KO.tr (KO.tr (KO.tr (KO.tr (KO.tr (KO.tr (KO.tr (KO.tr (rfl : KO F F) hO2) hO16) hO22) hO49) hO67) hO111) hO129) hO138), (show (F 11).toInt = -2 → (F138 11).toInt = -2 by omega), trivial⟩
            · skip
              have e_143 := mt i_eq.mpr (show ¬ ((F49 11) = (29 : Int32)) from c_70)
              unfold cb_X4_simple_172
              have l_144 : (1 : Int32).toInt = 1 := rfl
              refine WP.bind (cs_X4_oldValue hfu r16 (1 : Int32) F67 G67 hI67 (by decide)) ?_
              rintro r145 F145 G145 ⟨hI145, hB145, hT145, hO145, hK145, hp145⟩
              dsimp only
              have q_146 := i_rng (F67 11)
              have q_147 := i_rng (F145 11)
              have e_148 : (F145 11).toInt = (F67 11).toInt := congrArg Int32.toInt hK145
              have q_149 := hI145.r 10 rfl
              have e_150 : (F145 10).toInt = (F67 10).toInt := hO145
              unfold cb_X4_simple_179
              refine WP.ite (fun c_151 => ?_) (fun c_151 => ?_)
              · skip
                have l_152 : (41 : Int32).toInt = 41 := rfl
                have e_153 := i_le.mp (show (41 : Int32) ≤ (F49 11) from c_151)
                unfold cb_X4_simple_196
                have l_154 : (66 : Int32).toInt = 66 := rfl
                refine WP.bind (cs_X1_addPair hfu (66 : Int32) (1 : Int32) F145 G145 hI145) ?_
                rintro r155 F155 G155 ⟨hI155, hB155, hT155, hO155, hK155, hp155⟩
                dsimp only
                have q_156 := i_rng (F155 11)
                have e_157 : (F155 11).toInt = (F145 11).toInt := congrArg Int32.toInt hK155
                have q_158 := hI155.r 10 rfl
                have e_159 : (F155 10).toInt = (F145 10).toInt := hO155
                unfold cb_X4_simple_206
                refine WP.ite (fun c_160 => ?_) (fun c_160 => ?_)
                · skip
                  have e_161 := i_eq.mp (show (F49 11) = (29 : Int32) from c_160)
                  unfold cb_X4_simple_229
                  refine WP.ite (fun c_162 => absurd c_162 (by decide)) (fun _ => ?_)
                  unfold cb_X4_simple_234
                  refine WP.bind (cs_X3_keep hfu r16 F155 G155 hI155) ?_
                  rintro r163 F163 G163 ⟨hI163, hB163, hT163, hO163, hK163, hp163⟩
                  dsimp only
                  have q_164 := i_rng (F163 11)
                  have e_165 : (F163 11).toInt = (F155 11).toInt := congrArg Int32.toInt hK163
                  have q_166 := hI163.r 10 rfl
                  have e_167 : (F163 10).toInt = (F155 10).toInt := hO163
                  unfold cb_X4_simple_242
                  unfold cb_X4_simple_253
                  refine WP.ret ?_
                  exact ⟨hI163, (KB.tr (KB.tr (KB.tr (KB.tr (KB.tr (KB.tr (KB.tr (KB.tr (KB.rf : KB F G F G) hB2) hB16) hB22) hB49) hB67) hB145) hB155) hB163), (KT.tr (KT.tr (KT.tr (KT.tr (KT.tr (KT.tr (KT.tr (KT.tr (rfl : KT F F) hT2) hT16) hT22) hT49) hT67) hT145) hT155) hT163), (KO.tr (KO.tr (KO.tr (KO.tr (KO.tr (KO.tr (KO.tr (KO.tr (rfl : KO F F) hO2) hO16) hO22) hO49) hO67) hO145) hO155) hO163), (show (F 11).toInt = -2 → (F163 11).toInt = -2 by omega), trivial⟩
                · skip
                  have e_168 := mt i_eq.mpr (show ¬ ((F49 11) = (29 : Int32)) from c_160)
                  unfold cb_X4_simple_213
                  first | have e_169 : ((F49 11) - (30 : Int32)).toInt = (F49 11).toInt - (30) := i_subn (F49 11) rfl (by omega) (by omega) | have e_170 := i_rng ((F49 11) - (30 : Int32))
                  refine WP.ix (show vp_in ((F49 11) - (30 : Int32)) 13 from vp_in_iff.mpr ⟨by omega, by omega⟩) ?_
                  have q_171 := i_rng (tb_5 ((F49 11) - (30 : Int32)).toNatClampNeg)
                  refine WP.bind (cs_X1_add hfu (tb_5 ((F49 11) - (30 : Int32)).toNatClampNeg) F155 G155 hI155) ?_
                  rintro r172 F172 G172 ⟨hI172, hB172, hT172, hO172, hK172, hp172⟩
                  dsimp only
                  have q_173 := i_rng (F172 11)
                  have e_174 : (F172 11).toInt = (F155 11).toInt := congrArg Int32.toInt hK172
                  have q_175 := hI172.r 10 rfl
                  have e_176 : (F172 10).toInt = (F155 10).toInt := hO172
                  have q_177 := hI155.r 21 rfl
                  have q_178 := hI172.r 21 rfl
                  have e_179 : (F172 21).toInt = (F155 21).toInt := congrArg Int32.toInt hp172
                  unfold cb_X4_simple_229
                  refine WP.ite (fun c_180 => absurd c_180 (by decide)) (fun _ => ?_)
                  unfold cb_X4_simple_234
                  refine WP.bind (cs_X3_keep hfu r16 F172 G172 hI172) ?_
                  rintro r181 F181 G181 ⟨hI181, hB181, hT181, hO181, hK181, hp181⟩
                  dsimp only
                  have q_182 := i_rng (F181 11)
                  have e_183 : (F181 11).toInt = (F172 11).toInt := congrArg Int32.toInt hK181
                  have q_184 := hI181.r 10 rfl
                  have e_185 : (F181 10).toInt = (F172 10).toInt := hO181
                  unfold cb_X4_simple_242
                  unfold cb_X4_simple_253
                  refine WP.ret ?_
                  exact ⟨hI181, (KB.tr (KB.tr (KB.tr (KB.tr (KB.tr (KB.tr (KB.tr (KB.tr (KB.tr (KB.rf : KB F G F G) hB2) hB16) hB22) hB49) hB67) hB145) hB155) hB172) hB181), (KT.tr (KT.tr (KT.tr (KT.tr (KT.tr (KT.tr (KT.tr (KT.tr (KT.tr (rfl : KT F F) hT2) hT16) hT22) hT49) hT67) hT145) hT155) hT172) hT181), (KO.tr (KO.tr (KO.tr (KO.tr (KO.tr (KO.tr (KO.tr (KO.tr (KO.tr (rfl : KO F F) hO2) hO16) hO22) hO49) hO67) hO145) hO155) hO172) hO181), (show (F 11).toInt = -2 → (F181 11).toInt = -2 by omega), trivial⟩
              · skip
                have l_186 : (41 : Int32).toInt = 41 := rfl
                have e_187 := mt i_le.mpr (show ¬ ((41 : Int32) ≤ (F49 11)) from c_151)
                unfold cb_X4_simple_186
                refine WP.bind (cs_X3_expression hfu F145 G145 hI145) ?_
                rintro r188 F188 G188 ⟨hI188, hB188, hT188, hO188, hS188, hp188⟩
                dsimp only
                have q_189 := i_rng (F188 11)
                have e_190 : (F145 11).toInt = -2 → (F188 11).toInt = -2 := hS188
                have q_191 := hI188.r 10 rfl
                have e_192 : (F188 10).toInt = (F145 10).toInt := hO188
                unfold cb_X4_simple_193
                unfold cb_X4_simple_206
                refine WP.ite (fun c_193 => ?_) (fun c_193 => ?_)
                · skip
                  have e_194 := i_eq.mp (show (F49 11) = (29 : Int32) from c_193)
                  unfold cb_X4_simple_229
                  refine WP.ite (fun c_195 => absurd c_195 (by decide)) (fun _ => ?_)
                  unfold cb_X4_simple_234
                  refine WP.bind (cs_X3_keep hfu r16 F188 G188 hI188) ?_
                  rintro r196 F196 G196 ⟨hI196, hB196, hT196, hO196, hK196, hp196⟩
                  dsimp only
                  have q_197 := i_rng (F196 11)
                  have e_198 : (F196 11).toInt = (F188 11).toInt := congrArg Int32.toInt hK196
                  have q_199 := hI196.r 10 rfl
                  have e_200 : (F196 10).toInt = (F188 10).toInt := hO196
                  unfold cb_X4_simple_242
                  unfold cb_X4_simple_253
                  refine WP.ret ?_
                  exact ⟨hI196, (KB.tr (KB.tr (KB.tr (KB.tr (KB.tr (KB.tr (KB.tr (KB.tr (KB.rf : KB F G F G) hB2) hB16) hB22) hB49) hB67) hB145) hB188) hB196), (KT.tr (KT.tr (KT.tr (KT.tr (KT.tr (KT.tr (KT.tr (KT.tr (rfl : KT F F) hT2) hT16) hT22) hT49) hT67) hT145) hT188) hT196), (KO.tr (KO.tr (KO.tr (KO.tr (KO.tr (KO.tr (KO.tr (KO.tr (rfl : KO F F) hO2) hO16) hO22) hO49) hO67) hO145) hO188) hO196), (show (F 11).toInt = -2 → (F196 11).toInt = -2 by omega), trivial⟩
                · skip
                  have e_201 := mt i_eq.mpr (show ¬ ((F49 11) = (29 : Int32)) from c_193)
                  unfold cb_X4_simple_213
                  first | have e_202 : ((F49 11) - (30 : Int32)).toInt = (F49 11).toInt - (30) := i_subn (F49 11) rfl (by omega) (by omega) | have e_203 := i_rng ((F49 11) - (30 : Int32))
                  refine WP.ix (show vp_in ((F49 11) - (30 : Int32)) 13 from vp_in_iff.mpr ⟨by omega, by omega⟩) ?_
                  have q_204 := i_rng (tb_5 ((F49 11) - (30 : Int32)).toNatClampNeg)
                  refine WP.bind (cs_X1_add hfu (tb_5 ((F49 11) - (30 : Int32)).toNatClampNeg) F188 G188 hI188) ?_
                  rintro r205 F205 G205 ⟨hI205, hB205, hT205, hO205, hK205, hp205⟩
                  dsimp only
                  have q_206 := i_rng (F205 11)
                  have e_207 : (F205 11).toInt = (F188 11).toInt := congrArg Int32.toInt hK205
                  have q_208 := hI205.r 10 rfl
                  have e_209 : (F205 10).toInt = (F188 10).toInt := hO205
                  have q_210 := hI188.r 21 rfl
                  have q_211 := hI205.r 21 rfl
                  have e_212 : (F205 21).toInt = (F188 21).toInt := congrArg Int32.toInt hp205
                  unfold cb_X4_simple_229
                  refine WP.ite (fun c_213 => absurd c_213 (by decide)) (fun _ => ?_)
                  unfold cb_X4_simple_234
                  refine WP.bind (cs_X3_keep hfu r16 F205 G205 hI205) ?_
                  rintro r214 F214 G214 ⟨hI214, hB214, hT214, hO214, hK214, hp214⟩
                  dsimp only
                  have q_215 := i_rng (F214 11)
                  have e_216 : (F214 11).toInt = (F205 11).toInt := congrArg Int32.toInt hK214
                  have q_217 := hI214.r 10 rfl
                  have e_218 : (F214 10).toInt = (F205 10).toInt := hO214
                  unfold cb_X4_simple_242
                  unfold cb_X4_simple_253
                  refine WP.ret ?_
                  exact ⟨hI214, (KB.tr (KB.tr (KB.tr (KB.tr (KB.tr (KB.tr (KB.tr (KB.tr (KB.tr (KB.rf : KB F G F G) hB2) hB16) hB22) hB49) hB67) hB145) hB188) hB205) hB214), (KT.tr (KT.tr (KT.tr (KT.tr (KT.tr (KT.tr (KT.tr (KT.tr (KT.tr (rfl : KT F F) hT2) hT16) hT22) hT49) hT67) hT145) hT188) hT205) hT214), (KO.tr (KO.tr (KO.tr (KO.tr (KO.tr (KO.tr (KO.tr (KO.tr (KO.tr (rfl : KO F F) hO2) hO16) hO22) hO49) hO67) hO145) hO188) hO205) hO214), (show (F 11).toInt = -2 → (F214 11).toInt = -2 by omega), trivial⟩
          · skip
            have l_219 : (42 : Int32).toInt = 42 := rfl
            have e_220 := mt i_le.mpr (show ¬ ((F49 11) ≤ (42 : Int32)) from c_64)
            unfold cb_X4_simple_149
            refine WP.bind (cs_X2_fail hfu (2 : Int32) F49 G49 hI49) ?_
            rintro r221 F221 G221 ⟨hI221, hB221, hT221, hO221, hp221⟩
            dsimp only
            have q_222 := hI221.r 10 rfl
            have e_223 : (F221 10).toInt = (F49 10).toInt := hO221
            have q_224 := i_rng (F221 11)
            have e_225 : (F221 11).toInt = -2 := hp221
            unfold cb_X4_simple_157
            refine WP.ret ?_
            exact ⟨hI221, (KB.tr (KB.tr (KB.tr (KB.tr (KB.tr (KB.rf : KB F G F G) hB2) hB16) hB22) hB49) hB221), (KT.tr (KT.tr (KT.tr (KT.tr (KT.tr (rfl : KT F F) hT2) hT16) hT22) hT49) hT221), (KO.tr (KO.tr (KO.tr (KO.tr (KO.tr (rfl : KO F F) hO2) hO16) hO22) hO49) hO221), (show (F 11).toInt = -2 → (F221 11).toInt = -2 by omega), trivial⟩
      · skip
        have l_226 : (21 : Int32).toInt = 21 := rfl
        have e_227 := mt i_eq.mpr (show ¬ ((F22 11) = (21 : Int32)) from c_45)
        unfold cb_X4_simple_110
        unfold cb_X4_simple_111
        refine WP.ite (fun _ => ?_) (fun c_228 => absurd (by decide) c_228)
        unfold cb_X4_simple_126
        refine WP.ite (fun c_229 => ?_) (fun c_229 => ?_)
        · skip
          have l_230 : (29 : Int32).toInt = 29 := rfl
          have e_231 := i_lt.mp (show (F22 11) < (29 : Int32) from c_229)
          unfold cb_X4_simple_149
          refine WP.bind (cs_X2_fail hfu (2 : Int32) F22 G22 hI22) ?_
          rintro r232 F232 G232 ⟨hI232, hB232, hT232, hO232, hp232⟩
          dsimp only
          have q_233 := hI232.r 10 rfl
          have e_234 : (F232 10).toInt = (F22 10).toInt := hO232
          have q_235 := i_rng (F232 11)
          have e_236 : (F232 11).toInt = -2 := hp232
          unfold cb_X4_simple_157
          refine WP.ret ?_
          exact ⟨hI232, (KB.tr (KB.tr (KB.tr (KB.tr (KB.rf : KB F G F G) hB2) hB16) hB22) hB232), (KT.tr (KT.tr (KT.tr (KT.tr (rfl : KT F F) hT2) hT16) hT22) hT232), (KO.tr (KO.tr (KO.tr (KO.tr (rfl : KO F F) hO2) hO16) hO22) hO232), (show (F 11).toInt = -2 → (F232 11).toInt = -2 by omega), trivial⟩
        · skip
          have l_237 : (29 : Int32).toInt = 29 := rfl
          have e_238 := mt i_lt.mpr (show ¬ ((F22 11) < (29 : Int32)) from c_229)
          unfold cb_X4_simple_142
          refine WP.ite (fun c_239 => ?_) (fun c_239 => ?_)
          · skip
            have l_240 : (42 : Int32).toInt = 42 := rfl
            have e_241 := i_le.mp (show (F22 11) ≤ (42 : Int32) from c_239)
            unfold cb_X4_simple_158
            refine WP.bind (cs_X2_next hfu F22 G22 hI22) ?_
            rintro r242 F242 G242 ⟨hI242, hB242, hT242, hO242, hp242⟩
            dsimp only
            have q_243 := hI242.r 10 rfl
            have e_244 : (F242 10).toInt = (F22 10).toInt := hO242
            unfold cb_X4_simple_165
            refine WP.ite (fun c_245 => ?_) (fun c_245 => ?_)
            · skip
              have e_246 := i_eq.mp (show (F22 11) = (29 : Int32) from c_245)
              unfold cb_X4_simple_179
              refine WP.ite (fun c_247 => ?_) (fun c_247 => ?_)
              · skip
                have l_248 : (41 : Int32).toInt = 41 := rfl
                have e_249 := i_le.mp (show (41 : Int32) ≤ (F22 11) from c_247)
                unfold cb_X4_simple_196
                have l_250 : (66 : Int32).toInt = 66 := rfl
                have l_251 : (1 : Int32).toInt = 1 := rfl
                refine WP.bind (cs_X1_addPair hfu (66 : Int32) (1 : Int32) F242 G242 hI242) ?_
                rintro r252 F252 G252 ⟨hI252, hB252, hT252, hO252, hK252, hp252⟩
                dsimp only
                have q_253 := i_rng (F242 11)
                have q_254 := i_rng (F252 11)
                have e_255 : (F252 11).toInt = (F242 11).toInt := congrArg Int32.toInt hK252
                have q_256 := hI252.r 10 rfl
                have e_257 : (F252 10).toInt = (F242 10).toInt := hO252
                unfold cb_X4_simple_206
                refine WP.ite (fun c_258 => ?_) (fun c_258 => ?_)
                · skip
                  have e_259 := i_eq.mp (show (F22 11) = (29 : Int32) from c_258)
                  unfold cb_X4_simple_229
                  refine WP.ite (fun _ => ?_) (fun c_260 => absurd (by decide) c_260)
                  unfold cb_X4_simple_245
                  refine WP.bind (cs_X3_store hfu r16 F252 G252 hI252) ?_
                  rintro r261 F261 G261 ⟨hI261, hB261, hT261, hO261, hK261, hp261⟩
                  dsimp only
                  have q_262 := i_rng (F261 11)
                  have e_263 : (F261 11).toInt = (F252 11).toInt := congrArg Int32.toInt hK261
                  have q_264 := hI261.r 10 rfl
                  have e_265 : (F261 10).toInt = (F252 10).toInt := hO261
                  unfold cb_X4_simple_253
                  refine WP.ret ?_
                  exact ⟨hI261, (KB.tr (KB.tr (KB.tr (KB.tr (KB.tr (KB.tr (KB.rf : KB F G F G) hB2) hB16) hB22) hB242) hB252) hB261), (KT.tr (KT.tr (KT.tr (KT.tr (KT.tr (KT.tr (rfl : KT F F) hT2) hT16) hT22) hT242) hT252) hT261), (KO.tr (KO.tr (KO.tr (KO.tr (KO.tr (KO.tr (rfl : KO F F) hO2) hO16) hO22) hO242) hO252) hO261), (show (F 11).toInt = -2 → (F261 11).toInt = -2 by omega), trivial⟩
                · skip
                  have e_266 := mt i_eq.mpr (show ¬ ((F22 11) = (29 : Int32)) from c_258)
                  unfold cb_X4_simple_213
                  first | have e_267 : ((F22 11) - (30 : Int32)).toInt = (F22 11).toInt - (30) := i_subn (F22 11) rfl (by omega) (by omega) | have e_268 := i_rng ((F22 11) - (30 : Int32))
                  refine WP.ix (show vp_in ((F22 11) - (30 : Int32)) 13 from vp_in_iff.mpr ⟨by omega, by omega⟩) ?_
                  have q_269 := i_rng (tb_5 ((F22 11) - (30 : Int32)).toNatClampNeg)
                  refine WP.bind (cs_X1_add hfu (tb_5 ((F22 11) - (30 : Int32)).toNatClampNeg) F252 G252 hI252) ?_
                  rintro r270 F270 G270 ⟨hI270, hB270, hT270, hO270, hK270, hp270⟩
                  dsimp only
                  have q_271 := i_rng (F270 11)
                  have e_272 : (F270 11).toInt = (F252 11).toInt := congrArg Int32.toInt hK270
                  have q_273 := hI270.r 10 rfl
                  have e_274 : (F270 10).toInt = (F252 10).toInt := hO270
                  have q_275 := hI252.r 21 rfl
                  have q_276 := hI270.r 21 rfl
                  have e_277 : (F270 21).toInt = (F252 21).toInt := congrArg Int32.toInt hp270
                  unfold cb_X4_simple_229
                  refine WP.ite (fun _ => ?_) (fun c_278 => absurd (by decide) c_278)
                  unfold cb_X4_simple_245
                  refine WP.bind (cs_X3_store hfu r16 F270 G270 hI270) ?_
                  rintro r279 F279 G279 ⟨hI279, hB279, hT279, hO279, hK279, hp279⟩
                  dsimp only
                  have q_280 := i_rng (F279 11)
                  have e_281 : (F279 11).toInt = (F270 11).toInt := congrArg Int32.toInt hK279
                  have q_282 := hI279.r 10 rfl
                  have e_283 : (F279 10).toInt = (F270 10).toInt := hO279
                  unfold cb_X4_simple_253
                  refine WP.ret ?_
                  exact ⟨hI279, (KB.tr (KB.tr (KB.tr (KB.tr (KB.tr (KB.tr (KB.tr (KB.rf : KB F G F G) hB2) hB16) hB22) hB242) hB252) hB270) hB279), (KT.tr (KT.tr (KT.tr (KT.tr (KT.tr (KT.tr (KT.tr (rfl : KT F F) hT2) hT16) hT22) hT242) hT252) hT270) hT279), (KO.tr (KO.tr (KO.tr (KO.tr (KO.tr (KO.tr (KO.tr (rfl : KO F F) hO2) hO16) hO22) hO242) hO252) hO270) hO279), (show (F 11).toInt = -2 → (F279 11).toInt = -2 by omega), trivial⟩
              · skip
                have l_284 : (41 : Int32).toInt = 41 := rfl
                have e_285 := mt i_le.mpr (show ¬ ((41 : Int32) ≤ (F22 11)) from c_247)
                unfold cb_X4_simple_186
                refine WP.bind (cs_X3_expression hfu F242 G242 hI242) ?_
                rintro r286 F286 G286 ⟨hI286, hB286, hT286, hO286, hS286, hp286⟩
                dsimp only
                have q_287 := i_rng (F242 11)
                have q_288 := i_rng (F286 11)
                have e_289 : (F242 11).toInt = -2 → (F286 11).toInt = -2 := hS286
                have q_290 := hI286.r 10 rfl
                have e_291 : (F286 10).toInt = (F242 10).toInt := hO286
                unfold cb_X4_simple_193
                unfold cb_X4_simple_206
                refine WP.ite (fun c_292 => ?_) (fun c_292 => ?_)
                · skip
                  have e_293 := i_eq.mp (show (F22 11) = (29 : Int32) from c_292)
                  unfold cb_X4_simple_229
                  refine WP.ite (fun _ => ?_) (fun c_294 => absurd (by decide) c_294)
                  unfold cb_X4_simple_245
                  refine WP.bind (cs_X3_store hfu r16 F286 G286 hI286) ?_
                  rintro r295 F295 G295 ⟨hI295, hB295, hT295, hO295, hK295, hp295⟩
                  dsimp only
                  have q_296 := i_rng (F295 11)
                  have e_297 : (F295 11).toInt = (F286 11).toInt := congrArg Int32.toInt hK295
                  have q_298 := hI295.r 10 rfl
                  have e_299 : (F295 10).toInt = (F286 10).toInt := hO295
                  unfold cb_X4_simple_253
                  refine WP.ret ?_
                  exact ⟨hI295, (KB.tr (KB.tr (KB.tr (KB.tr (KB.tr (KB.tr (KB.rf : KB F G F G) hB2) hB16) hB22) hB242) hB286) hB295), (KT.tr (KT.tr (KT.tr (KT.tr (KT.tr (KT.tr (rfl : KT F F) hT2) hT16) hT22) hT242) hT286) hT295), (KO.tr (KO.tr (KO.tr (KO.tr (KO.tr (KO.tr (rfl : KO F F) hO2) hO16) hO22) hO242) hO286) hO295), (show (F 11).toInt = -2 → (F295 11).toInt = -2 by omega), trivial⟩
                · skip
                  have e_300 := mt i_eq.mpr (show ¬ ((F22 11) = (29 : Int32)) from c_292)
                  unfold cb_X4_simple_213
                  first | have e_301 : ((F22 11) - (30 : Int32)).toInt = (F22 11).toInt - (30) := i_subn (F22 11) rfl (by omega) (by omega) | have e_302 := i_rng ((F22 11) - (30 : Int32))
                  refine WP.ix (show vp_in ((F22 11) - (30 : Int32)) 13 from vp_in_iff.mpr ⟨by omega, by omega⟩) ?_
                  have q_303 := i_rng (tb_5 ((F22 11) - (30 : Int32)).toNatClampNeg)
                  refine WP.bind (cs_X1_add hfu (tb_5 ((F22 11) - (30 : Int32)).toNatClampNeg) F286 G286 hI286) ?_
                  rintro r304 F304 G304 ⟨hI304, hB304, hT304, hO304, hK304, hp304⟩
                  dsimp only
                  have q_305 := i_rng (F304 11)
                  have e_306 : (F304 11).toInt = (F286 11).toInt := congrArg Int32.toInt hK304
                  have q_307 := hI304.r 10 rfl
                  have e_308 : (F304 10).toInt = (F286 10).toInt := hO304
                  have q_309 := hI286.r 21 rfl
                  have q_310 := hI304.r 21 rfl
                  have e_311 : (F304 21).toInt = (F286 21).toInt := congrArg Int32.toInt hp304
                  unfold cb_X4_simple_229
                  refine WP.ite (fun _ => ?_) (fun c_312 => absurd (by decide) c_312)
                  unfold cb_X4_simple_245
                  refine WP.bind (cs_X3_store hfu r16 F304 G304 hI304) ?_
                  rintro r313 F313 G313 ⟨hI313, hB313, hT313, hO313, hK313, hp313⟩
                  dsimp only
                  have q_314 := i_rng (F313 11)
                  have e_315 : (F313 11).toInt = (F304 11).toInt := congrArg Int32.toInt hK313
                  have q_316 := hI313.r 10 rfl
                  have e_317 : (F313 10).toInt = (F304 10).toInt := hO313
                  unfold cb_X4_simple_253
                  refine WP.ret ?_
                  exact ⟨hI313, (KB.tr (KB.tr (KB.tr (KB.tr (KB.tr (KB.tr (KB.tr (KB.rf : KB F G F G) hB2) hB16) hB22) hB242) hB286) hB304) hB313), (KT.tr (KT.tr (KT.tr (KT.tr (KT.tr (KT.tr (KT.tr (rfl : KT F F) hT2) hT16) hT22) hT242) hT286) hT304) hT313), (KO.tr (KO.tr (KO.tr (KO.tr (KO.tr (KO.tr (KO.tr (rfl : KO F F) hO2) hO16) hO22) hO242) hO286) hO304) hO313), (show (F 11).toInt = -2 → (F313 11).toInt = -2 by omega), trivial⟩
            · skip
              have e_318 := mt i_eq.mpr (show ¬ ((F22 11) = (29 : Int32)) from c_245)
              unfold cb_X4_simple_172
              have l_319 : (0 : Int32).toInt = 0 := rfl
              refine WP.bind (cs_X4_oldValue hfu r16 (0 : Int32) F242 G242 hI242 (by decide)) ?_
              rintro r320 F320 G320 ⟨hI320, hB320, hT320, hO320, hK320, hp320⟩
              dsimp only
              have q_321 := i_rng (F242 11)
              have q_322 := i_rng (F320 11)
              have e_323 : (F320 11).toInt = (F242 11).toInt := congrArg Int32.toInt hK320
              have q_324 := hI320.r 10 rfl
              have e_325 : (F320 10).toInt = (F242 10).toInt := hO320
              unfold cb_X4_simple_179
              refine WP.ite (fun c_326 => ?_) (fun c_326 => ?_)
              · skip
                have l_327 : (41 : Int32).toInt = 41 := rfl
                have e_328 := i_le.mp (show (41 : Int32) ≤ (F22 11) from c_326)
                unfold cb_X4_simple_196
                have l_329 : (66 : Int32).toInt = 66 := rfl
                have l_330 : (1 : Int32).toInt = 1 := rfl
                refine WP.bind (cs_X1_addPair hfu (66 : Int32) (1 : Int32) F320 G320 hI320) ?_
                rintro r331 F331 G331 ⟨hI331, hB331, hT331, hO331, hK331, hp331⟩
                dsimp only
                have q_332 := i_rng (F331 11)
                have e_333 : (F331 11).toInt = (F320 11).toInt := congrArg Int32.toInt hK331
                have q_334 := hI331.r 10 rfl
                have e_335 : (F331 10).toInt = (F320 10).toInt := hO331
                unfold cb_X4_simple_206
                refine WP.ite (fun c_336 => ?_) (fun c_336 => ?_)
                · skip
                  have e_337 := i_eq.mp (show (F22 11) = (29 : Int32) from c_336)
                  unfold cb_X4_simple_229
                  refine WP.ite (fun _ => ?_) (fun c_338 => absurd (by decide) c_338)
                  unfold cb_X4_simple_245
                  refine WP.bind (cs_X3_store hfu r16 F331 G331 hI331) ?_
                  rintro r339 F339 G339 ⟨hI339, hB339, hT339, hO339, hK339, hp339⟩
                  dsimp only
                  have q_340 := i_rng (F339 11)
                  have e_341 : (F339 11).toInt = (F331 11).toInt := congrArg Int32.toInt hK339
                  have q_342 := hI339.r 10 rfl
                  have e_343 : (F339 10).toInt = (F331 10).toInt := hO339
                  unfold cb_X4_simple_253
                  refine WP.ret ?_
                  exact ⟨hI339, (KB.tr (KB.tr (KB.tr (KB.tr (KB.tr (KB.tr (KB.tr (KB.rf : KB F G F G) hB2) hB16) hB22) hB242) hB320) hB331) hB339), (KT.tr (KT.tr (KT.tr (KT.tr (KT.tr (KT.tr (KT.tr (rfl : KT F F) hT2) hT16) hT22) hT242) hT320) hT331) hT339), (KO.tr (KO.tr (KO.tr (KO.tr (KO.tr (KO.tr (KO.tr (rfl : KO F F) hO2) hO16) hO22) hO242) hO320) hO331) hO339), (show (F 11).toInt = -2 → (F339 11).toInt = -2 by omega), trivial⟩
                · skip
                  have e_344 := mt i_eq.mpr (show ¬ ((F22 11) = (29 : Int32)) from c_336)
                  unfold cb_X4_simple_213
                  first | have e_345 : ((F22 11) - (30 : Int32)).toInt = (F22 11).toInt - (30) := i_subn (F22 11) rfl (by omega) (by omega) | have e_346 := i_rng ((F22 11) - (30 : Int32))
                  refine WP.ix (show vp_in ((F22 11) - (30 : Int32)) 13 from vp_in_iff.mpr ⟨by omega, by omega⟩) ?_
                  have q_347 := i_rng (tb_5 ((F22 11) - (30 : Int32)).toNatClampNeg)
                  refine WP.bind (cs_X1_add hfu (tb_5 ((F22 11) - (30 : Int32)).toNatClampNeg) F331 G331 hI331) ?_
                  rintro r348 F348 G348 ⟨hI348, hB348, hT348, hO348, hK348, hp348⟩
                  dsimp only
                  have q_349 := i_rng (F348 11)
                  have e_350 : (F348 11).toInt = (F331 11).toInt := congrArg Int32.toInt hK348
                  have q_351 := hI348.r 10 rfl
                  have e_352 : (F348 10).toInt = (F331 10).toInt := hO348
                  have q_353 := hI331.r 21 rfl
                  have q_354 := hI348.r 21 rfl
                  have e_355 : (F348 21).toInt = (F331 21).toInt := congrArg Int32.toInt hp348
                  unfold cb_X4_simple_229
                  refine WP.ite (fun _ => ?_) (fun c_356 => absurd (by decide) c_356)
                  unfold cb_X4_simple_245
                  refine WP.bind (cs_X3_store hfu r16 F348 G348 hI348) ?_
                  rintro r357 F357 G357 ⟨hI357, hB357, hT357, hO357, hK357, hp357⟩
                  dsimp only
                  have q_358 := i_rng (F357 11)
                  have e_359 : (F357 11).toInt = (F348 11).toInt := congrArg Int32.toInt hK357
                  have q_360 := hI357.r 10 rfl
                  have e_361 : (F357 10).toInt = (F348 10).toInt := hO357
                  unfold cb_X4_simple_253
                  refine WP.ret ?_
                  exact ⟨hI357, (KB.tr (KB.tr (KB.tr (KB.tr (KB.tr (KB.tr (KB.tr (KB.tr (KB.rf : KB F G F G) hB2) hB16) hB22) hB242) hB320) hB331) hB348) hB357), (KT.tr (KT.tr (KT.tr (KT.tr (KT.tr (KT.tr (KT.tr (KT.tr (rfl : KT F F) hT2) hT16) hT22) hT242) hT320) hT331) hT348) hT357), (KO.tr (KO.tr (KO.tr (KO.tr (KO.tr (KO.tr (KO.tr (KO.tr (rfl : KO F F) hO2) hO16) hO22) hO242) hO320) hO331) hO348) hO357), (show (F 11).toInt = -2 → (F357 11).toInt = -2 by omega), trivial⟩
              · skip
                have l_362 : (41 : Int32).toInt = 41 := rfl
                have e_363 := mt i_le.mpr (show ¬ ((41 : Int32) ≤ (F22 11)) from c_326)
                unfold cb_X4_simple_186
                refine WP.bind (cs_X3_expression hfu F320 G320 hI320) ?_
                rintro r364 F364 G364 ⟨hI364, hB364, hT364, hO364, hS364, hp364⟩
                dsimp only
                have q_365 := i_rng (F364 11)
                have e_366 : (F320 11).toInt = -2 → (F364 11).toInt = -2 := hS364
                have q_367 := hI364.r 10 rfl
                have e_368 : (F364 10).toInt = (F320 10).toInt := hO364
                unfold cb_X4_simple_193
                unfold cb_X4_simple_206
                refine WP.ite (fun c_369 => ?_) (fun c_369 => ?_)
                · skip
                  have e_370 := i_eq.mp (show (F22 11) = (29 : Int32) from c_369)
                  unfold cb_X4_simple_229
                  refine WP.ite (fun _ => ?_) (fun c_371 => absurd (by decide) c_371)
                  unfold cb_X4_simple_245
                  refine WP.bind (cs_X3_store hfu r16 F364 G364 hI364) ?_
                  rintro r372 F372 G372 ⟨hI372, hB372, hT372, hO372, hK372, hp372⟩
                  dsimp only
                  have q_373 := i_rng (F372 11)
                  have e_374 : (F372 11).toInt = (F364 11).toInt := congrArg Int32.toInt hK372
                  have q_375 := hI372.r 10 rfl
                  have e_376 : (F372 10).toInt = (F364 10).toInt := hO372
                  unfold cb_X4_simple_253
                  refine WP.ret ?_
                  exact ⟨hI372, (KB.tr (KB.tr (KB.tr (KB.tr (KB.tr (KB.tr (KB.tr (KB.rf : KB F G F G) hB2) hB16) hB22) hB242) hB320) hB364) hB372), (KT.tr (KT.tr (KT.tr (KT.tr (KT.tr (KT.tr (KT.tr (rfl : KT F F) hT2) hT16) hT22) hT242) hT320) hT364) hT372), (KO.tr (KO.tr (KO.tr (KO.tr (KO.tr (KO.tr (KO.tr (rfl : KO F F) hO2) hO16) hO22) hO242) hO320) hO364) hO372), (show (F 11).toInt = -2 → (F372 11).toInt = -2 by omega), trivial⟩
                · skip
                  have e_377 := mt i_eq.mpr (show ¬ ((F22 11) = (29 : Int32)) from c_369)
                  unfold cb_X4_simple_213
                  first | have e_378 : ((F22 11) - (30 : Int32)).toInt = (F22 11).toInt - (30) := i_subn (F22 11) rfl (by omega) (by omega) | have e_379 := i_rng ((F22 11) - (30 : Int32))
                  refine WP.ix (show vp_in ((F22 11) - (30 : Int32)) 13 from vp_in_iff.mpr ⟨by omega, by omega⟩) ?_
                  have q_380 := i_rng (tb_5 ((F22 11) - (30 : Int32)).toNatClampNeg)
                  refine WP.bind (cs_X1_add hfu (tb_5 ((F22 11) - (30 : Int32)).toNatClampNeg) F364 G364 hI364) ?_
                  rintro r381 F381 G381 ⟨hI381, hB381, hT381, hO381, hK381, hp381⟩
                  dsimp only
                  have q_382 := i_rng (F381 11)
                  have e_383 : (F381 11).toInt = (F364 11).toInt := congrArg Int32.toInt hK381
                  have q_384 := hI381.r 10 rfl
                  have e_385 : (F381 10).toInt = (F364 10).toInt := hO381
                  have q_386 := hI364.r 21 rfl
                  have q_387 := hI381.r 21 rfl
                  have e_388 : (F381 21).toInt = (F364 21).toInt := congrArg Int32.toInt hp381
                  unfold cb_X4_simple_229
                  refine WP.ite (fun _ => ?_) (fun c_389 => absurd (by decide) c_389)
                  unfold cb_X4_simple_245
                  refine WP.bind (cs_X3_store hfu r16 F381 G381 hI381) ?_
                  rintro r390 F390 G390 ⟨hI390, hB390, hT390, hO390, hK390, hp390⟩
                  dsimp only
                  have q_391 := i_rng (F390 11)
                  have e_392 : (F390 11).toInt = (F381 11).toInt := congrArg Int32.toInt hK390
                  have q_393 := hI390.r 10 rfl
                  have e_394 : (F390 10).toInt = (F381 10).toInt := hO390
                  unfold cb_X4_simple_253
                  refine WP.ret ?_
                  exact ⟨hI390, (KB.tr (KB.tr (KB.tr (KB.tr (KB.tr (KB.tr (KB.tr (KB.tr (KB.rf : KB F G F G) hB2) hB16) hB22) hB242) hB320) hB364) hB381) hB390), (KT.tr (KT.tr (KT.tr (KT.tr (KT.tr (KT.tr (KT.tr (KT.tr (rfl : KT F F) hT2) hT16) hT22) hT242) hT320) hT364) hT381) hT390), (KO.tr (KO.tr (KO.tr (KO.tr (KO.tr (KO.tr (KO.tr (KO.tr (rfl : KO F F) hO2) hO16) hO22) hO242) hO320) hO364) hO381) hO390), (show (F 11).toInt = -2 → (F390 11).toInt = -2 by omega), trivial⟩
          · skip
            have l_395 : (42 : Int32).toInt = 42 := rfl
            have e_396 := mt i_le.mpr (show ¬ ((F22 11) ≤ (42 : Int32)) from c_239)
            unfold cb_X4_simple_149
            refine WP.bind (cs_X2_fail hfu (2 : Int32) F22 G22 hI22) ?_
            rintro r397 F397 G397 ⟨hI397, hB397, hT397, hO397, hp397⟩
            dsimp only
            have q_398 := hI397.r 10 rfl
            have e_399 : (F397 10).toInt = (F22 10).toInt := hO397
            have q_400 := i_rng (F397 11)
            have e_401 : (F397 11).toInt = -2 := hp397
            unfold cb_X4_simple_157
            refine WP.ret ?_
            exact ⟨hI397, (KB.tr (KB.tr (KB.tr (KB.tr (KB.rf : KB F G F G) hB2) hB16) hB22) hB397), (KT.tr (KT.tr (KT.tr (KT.tr (rfl : KT F F) hT2) hT16) hT22) hT397), (KO.tr (KO.tr (KO.tr (KO.tr (rfl : KO F F) hO2) hO16) hO22) hO397), (show (F 11).toInt = -2 → (F397 11).toInt = -2 by omega), trivial⟩
