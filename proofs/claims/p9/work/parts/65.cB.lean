theorem cs_X3_strength {fu : Nat} (hfu : 8589934592 ≤ fu) (x0 : Int32) (F : PF) (G : PG) (hI : CI F G) : WP (cf_X3_strength fu x0 F G) (fun r' F' G' => F = F' ∧ G = G' ∧ True) := by
  unfold cf_X3_strength
  unfold cb_X3_strength_0
  refine WP.ite (fun c_1 => ?_) (fun c_1 => ?_)
  · skip
    have q_2 := i_rng x0
    first | have e_3 : (x0 - (43 : Int32)).toInt = x0.toInt - (43) := i_subn x0 rfl (by omega) (by omega) | have e_4 := i_rng (x0 - (43 : Int32))
    have l_5 : (0 : Int32).toInt = 0 := rfl
    have e_6 := i_lt.mp (show (x0 - (43 : Int32)) < (0 : Int32) from c_1)
    unfold cb_X3_strength_17
    unfold cb_X3_strength_27
    refine WP.ret ?_
    exact ⟨rfl, rfl, trivial⟩
  · skip
    have q_7 := i_rng x0
    first | have e_8 : (x0 - (43 : Int32)).toInt = x0.toInt - (43) := i_subn x0 rfl (by omega) (by omega) | have e_9 := i_rng (x0 - (43 : Int32))
    have l_10 : (0 : Int32).toInt = 0 := rfl
    have e_11 := mt i_lt.mpr (show ¬ ((x0 - (43 : Int32)) < (0 : Int32)) from c_1)
    unfold cb_X3_strength_9
    refine WP.ite (fun c_12 => ?_) (fun c_12 => ?_)
    · skip
      have l_13 : (19 : Int32).toInt = 19 := rfl
      have e_14 := i_lt.mp (show (x0 - (43 : Int32)) < (19 : Int32) from c_12)
      unfold cb_X3_strength_22
      refine WP.ix (show vp_in (x0 - (43 : Int32)) 19 from vp_in_iff.mpr ⟨by omega, by omega⟩) ?_
      unfold cb_X3_strength_27
      refine WP.ret ?_
      exact ⟨rfl, rfl, trivial⟩
    · skip
      have l_15 : (19 : Int32).toInt = 19 := rfl
      have e_16 := mt i_lt.mpr (show ¬ ((x0 - (43 : Int32)) < (19 : Int32)) from c_12)
      unfold cb_X3_strength_17
      unfold cb_X3_strength_27
      refine WP.ret ?_
      exact ⟨rfl, rfl, trivial⟩
theorem cz_X3_settle_2 {fu : Nat} (hfu : 8589934592 ≤ fu) {F0 : PF} {G0 : PG} : ∀ (n : Nat) (x1 : Int32) (x2 : Int32) (x3 : Int32) (F : PF) (G : PG) (hI : CI F G) (hB : KB F0 G0 F G) (hT : KT F0 F) (hO : KO F0 F) (hK : KK F0 F) (hn : (2147483647 - x3.toInt).toNat < n), WP (cl_X3_settle_2 fu n x1 x2 x3 F G) (fun r' F' G' => CI F' G' ∧ KB F0 G0 F' G' ∧ KT F0 F' ∧ KO F0 F' ∧ KK F0 F' ∧ True) := by
  intro n
  induction n with
  | zero =>
    intro x1 x2 x3 F G hI hB hT hO hK hn
    exact absurd hn (Nat.not_lt_zero _)
  | succ n ihn =>
    intro x1 x2 x3 F G hI hB hT hO hK hn
    show WP (cb_X3_settle_2 fu (cl_X3_settle_2 fu n)  x1 x2 x3 F G) _
    unfold cb_X3_settle_2
    refine WP.ite (fun c_1 => ?_) (fun c_1 => ?_)
    · skip
      have l_2 : (4001 : Int32).toInt = 4001 := rfl
      have q_3 := i_rng x3
      have e_4 := i_le.mp (show (4001 : Int32) ≤ x3 from c_1)
      unfold cb_X3_settle_138
      refine WP.ret ?_
      exact ⟨hI, hB, hT, hO, hK, trivial⟩
    · skip
      have l_5 : (4001 : Int32).toInt = 4001 := rfl
      have q_6 := i_rng x3
      have e_7 := mt i_le.mpr (show ¬ ((4001 : Int32) ≤ x3) from c_1)
      unfold cb_X3_settle_9
      refine WP.ite (fun c_8 => ?_) (fun c_8 => ?_)
      · skip
        have q_9 := hI.r 21 rfl
        have q_10 := i_rng x1
        have e_11 := i_le.mp (show (F 21) ≤ x1 from c_8)
        unfold cb_X3_settle_138
        refine WP.ret ?_
        exact ⟨hI, hB, hT, hO, hK, trivial⟩
      · skip
        have q_12 := hI.r 21 rfl
        have q_13 := i_rng x1
        have e_14 := mt i_le.mpr (show ¬ ((F 21) ≤ x1) from c_8)
        unfold cb_X3_settle_17
        refine WP.ite (fun c_15 => ?_) (fun c_15 => ?_)
        · skip
          have l_16 : (0 : Int32).toInt = 0 := rfl
          have e_17 := i_le.mp (show (F 21) ≤ (0 : Int32) from c_15)
          unfold cb_X3_settle_138
          refine WP.ret ?_
          exact ⟨hI, hB, hT, hO, hK, trivial⟩
        · skip
          have l_18 : (0 : Int32).toInt = 0 := rfl
          have e_19 := mt i_le.mpr (show ¬ ((F 21) ≤ (0 : Int32)) from c_15)
          unfold cb_X3_settle_24
          first | have e_20 : ((F 21) - (1 : Int32)).toInt = (F 21).toInt - (1) := i_subn (F 21) rfl (by omega) (by omega) | have e_21 := i_rng ((F 21) - (1 : Int32))
          refine WP.ix (show vp_in ((F 21) - (1 : Int32)) 4001 from vp_in_iff.mpr ⟨by omega, by omega⟩) ?_
          have q_22 := i_rng (G 20 ((F 21) - (1 : Int32)).toNatClampNeg)
          refine WP.bind (cs_X3_strength hfu (G 20 ((F 21) - (1 : Int32)).toNatClampNeg) F G hI) ?_
          rintro r23 _ _ ⟨rfl, rfl, hp23⟩
          dsimp only
          unfold cb_X3_settle_42
          refine WP.ite (fun c_24 => ?_) (fun c_24 => ?_)
          · skip
            have q_25 := i_rng x2
            have q_26 := i_rng r23
            have e_27 := i_le.mp (show x2 ≤ r23 from c_24)
            unfold cb_X3_settle_47
            have j_28 : CI (fup F 21 ((F 21) - (1 : Int32))) G := CI.rg (k := 21) (x := ((F 21) - (1 : Int32))) rfl (by decide) (by decide) hI ⟨by omega, by omega⟩
            unfold cb_X3_settle_57
            refine WP.ite (fun c_29 => ?_) (fun c_29 => ?_)
            · skip
              have l_30 : (43 : Int32).toInt = 43 := rfl
              have e_31 := i_eq.mp (show (G 20 ((F 21) - (1 : Int32)).toNatClampNeg) = (43 : Int32) from c_29)
              unfold cb_X3_settle_71
              refine WP.ite (fun c_32 => ?_) (fun c_32 => ?_)
              · skip
                have e_33 := i_le.mp (show ((F 21) - (1 : Int32)) ≤ (0 : Int32) from c_32)
                unfold cb_X3_settle_123
                refine WP.bind (cs_X1_add hfu (G 20 ((F 21) - (1 : Int32)).toNatClampNeg) (fup F 21 ((F 21) - (1 : Int32))) G j_28) ?_
                rintro r34 F34 G34 ⟨hI34, hB34, hT34, hO34, hK34, hp34⟩
                dsimp only
                have q_35 := hI.r 10 rfl
                have q_36 := hI34.r 10 rfl
                have e_37 : (F34 10).toInt = (F 10).toInt := hO34
                have q_38 := hI34.r 21 rfl
                have e_39 : (F34 21).toInt = ((F 21) - (1 : Int32)).toInt := congrArg Int32.toInt hp34
                unfold cb_X3_settle_132
                first | have e_40 : (x3 + (1 : Int32)).toInt = x3.toInt + (1) := i_addn x3 rfl (by omega) (by omega) | have e_41 := i_rng (x3 + (1 : Int32))
                exact ihn x1 x2 (x3 + (1 : Int32)) F34 G34 hI34 (KB.tr (KB.f (by decide) hB) hB34) (KT.tr (KT.f (by decide) hT) hT34) (KO.tr (KO.f (by decide) hO) hO34) (KK.tr (KK.f (by decide) hK) hK34) (by omega)
              · skip
                have e_42 := mt i_le.mpr (show ¬ (((F 21) - (1 : Int32)) ≤ (0 : Int32)) from c_32)
                unfold cb_X3_settle_78
                first | have e_43 : (((F 21) - (1 : Int32)) - (1 : Int32)).toInt = ((F 21) - (1 : Int32)).toInt - (1) := i_subn ((F 21) - (1 : Int32)) rfl (by omega) (by omega) | have e_44 := i_rng (((F 21) - (1 : Int32)) - (1 : Int32))
                have j_45 : CI (fup (fup F 21 ((F 21) - (1 : Int32))) 21 (((F 21) - (1 : Int32)) - (1 : Int32))) G := CI.rg (k := 21) (x := (((F 21) - (1 : Int32)) - (1 : Int32))) rfl (by decide) (by decide) j_28 ⟨by omega, by omega⟩
                unfold cb_X3_settle_88
                have l_46 : (65 : Int32).toInt = 65 := rfl
                refine WP.bind (cs_X1_add hfu (65 : Int32) (fup (fup F 21 ((F 21) - (1 : Int32))) 21 (((F 21) - (1 : Int32)) - (1 : Int32))) G j_45) ?_
                rintro r47 F47 G47 ⟨hI47, hB47, hT47, hO47, hK47, hp47⟩
                dsimp only
                have q_48 := hI.r 10 rfl
                have q_49 := hI47.r 10 rfl
                have e_50 : (F47 10).toInt = (F 10).toInt := hO47
                have q_51 := hI47.r 21 rfl
                have e_52 : (F47 21).toInt = (((F 21) - (1 : Int32)) - (1 : Int32)).toInt := congrArg Int32.toInt hp47
                unfold cb_X3_settle_97
                refine WP.ix (show vp_in (F47 21) 4001 from vp_in_iff.mpr ⟨by omega, by omega⟩) ?_
                have q_53 := i_rng (G47 20 (F47 21).toNatClampNeg)
                have q_54 := hI47.r 6 rfl
                refine WP.bind (cs_X1_aim hfu (G47 20 (F47 21).toNatClampNeg) (F47 6) F47 G47 hI47) ?_
                rintro r55 F55 G55 ⟨hI55, hB55, hT55, hO55, hK55, hp55⟩
                dsimp only
                have q_56 := hI55.r 10 rfl
                have e_57 : (F55 10).toInt = (F47 10).toInt := hO55
                unfold cb_X3_settle_120
                unfold cb_X3_settle_132
                first | have e_58 : (x3 + (1 : Int32)).toInt = x3.toInt + (1) := i_addn x3 rfl (by omega) (by omega) | have e_59 := i_rng (x3 + (1 : Int32))
                exact ihn x1 x2 (x3 + (1 : Int32)) F55 G55 hI55 (KB.tr (KB.tr (KB.f (by decide) (KB.f (by decide) hB)) hB47) hB55) (KT.tr (KT.tr (KT.f (by decide) (KT.f (by decide) hT)) hT47) hT55) (KO.tr (KO.tr (KO.f (by decide) (KO.f (by decide) hO)) hO47) hO55) (KK.tr (KK.tr (KK.f (by decide) (KK.f (by decide) hK)) hK47) hK55) (by omega)
            · skip
              have l_60 : (43 : Int32).toInt = 43 := rfl
              have e_61 := mt i_eq.mpr (show ¬ ((G 20 ((F 21) - (1 : Int32)).toNatClampNeg) = (43 : Int32)) from c_29)
              unfold cb_X3_settle_64
              refine WP.ite (fun c_62 => ?_) (fun c_62 => ?_)
              · skip
                have l_63 : (44 : Int32).toInt = 44 := rfl
                have e_64 := i_eq.mp (show (G 20 ((F 21) - (1 : Int32)).toNatClampNeg) = (44 : Int32) from c_62)
                unfold cb_X3_settle_71
                refine WP.ite (fun c_65 => ?_) (fun c_65 => ?_)
                · skip
                  have e_66 := i_le.mp (show ((F 21) - (1 : Int32)) ≤ (0 : Int32) from c_65)
                  unfold cb_X3_settle_123
                  refine WP.bind (cs_X1_add hfu (G 20 ((F 21) - (1 : Int32)).toNatClampNeg) (fup F 21 ((F 21) - (1 : Int32))) G j_28) ?_
                  rintro r67 F67 G67 ⟨hI67, hB67, hT67, hO67, hK67, hp67⟩
                  dsimp only
                  have q_68 := hI.r 10 rfl
                  have q_69 := hI67.r 10 rfl
                  have e_70 : (F67 10).toInt = (F 10).toInt := hO67
                  have q_71 := hI67.r 21 rfl
                  have e_72 : (F67 21).toInt = ((F 21) - (1 : Int32)).toInt := congrArg Int32.toInt hp67
                  unfold cb_X3_settle_132
                  first | have e_73 : (x3 + (1 : Int32)).toInt = x3.toInt + (1) := i_addn x3 rfl (by omega) (by omega) | have e_74 := i_rng (x3 + (1 : Int32))
                  exact ihn x1 x2 (x3 + (1 : Int32)) F67 G67 hI67 (KB.tr (KB.f (by decide) hB) hB67) (KT.tr (KT.f (by decide) hT) hT67) (KO.tr (KO.f (by decide) hO) hO67) (KK.tr (KK.f (by decide) hK) hK67) (by omega)
                · skip
                  have e_75 := mt i_le.mpr (show ¬ (((F 21) - (1 : Int32)) ≤ (0 : Int32)) from c_65)
                  unfold cb_X3_settle_78
                  first | have e_76 : (((F 21) - (1 : Int32)) - (1 : Int32)).toInt = ((F 21) - (1 : Int32)).toInt - (1) := i_subn ((F 21) - (1 : Int32)) rfl (by omega) (by omega) | have e_77 := i_rng (((F 21) - (1 : Int32)) - (1 : Int32))
                  have j_78 : CI (fup (fup F 21 ((F 21) - (1 : Int32))) 21 (((F 21) - (1 : Int32)) - (1 : Int32))) G := CI.rg (k := 21) (x := (((F 21) - (1 : Int32)) - (1 : Int32))) rfl (by decide) (by decide) j_28 ⟨by omega, by omega⟩
                  unfold cb_X3_settle_88
                  have l_79 : (65 : Int32).toInt = 65 := rfl
                  refine WP.bind (cs_X1_add hfu (65 : Int32) (fup (fup F 21 ((F 21) - (1 : Int32))) 21 (((F 21) - (1 : Int32)) - (1 : Int32))) G j_78) ?_
                  rintro r80 F80 G80 ⟨hI80, hB80, hT80, hO80, hK80, hp80⟩
                  dsimp only
                  have q_81 := hI.r 10 rfl
                  have q_82 := hI80.r 10 rfl
                  have e_83 : (F80 10).toInt = (F 10).toInt := hO80
                  have q_84 := hI80.r 21 rfl
                  have e_85 : (F80 21).toInt = (((F 21) - (1 : Int32)) - (1 : Int32)).toInt := congrArg Int32.toInt hp80
                  unfold cb_X3_settle_97
                  refine WP.ix (show vp_in (F80 21) 4001 from vp_in_iff.mpr ⟨by omega, by omega⟩) ?_
                  have q_86 := i_rng (G80 20 (F80 21).toNatClampNeg)
                  have q_87 := hI80.r 6 rfl
                  refine WP.bind (cs_X1_aim hfu (G80 20 (F80 21).toNatClampNeg) (F80 6) F80 G80 hI80) ?_
                  rintro r88 F88 G88 ⟨hI88, hB88, hT88, hO88, hK88, hp88⟩
                  dsimp only
                  have q_89 := hI88.r 10 rfl
                  have e_90 : (F88 10).toInt = (F80 10).toInt := hO88
                  unfold cb_X3_settle_120
                  unfold cb_X3_settle_132
                  first | have e_91 : (x3 + (1 : Int32)).toInt = x3.toInt + (1) := i_addn x3 rfl (by omega) (by omega) | have e_92 := i_rng (x3 + (1 : Int32))
                  exact ihn x1 x2 (x3 + (1 : Int32)) F88 G88 hI88 (KB.tr (KB.tr (KB.f (by decide) (KB.f (by decide) hB)) hB80) hB88) (KT.tr (KT.tr (KT.f (by decide) (KT.f (by decide) hT)) hT80) hT88) (KO.tr (KO.tr (KO.f (by decide) (KO.f (by decide) hO)) hO80) hO88) (KK.tr (KK.tr (KK.f (by decide) (KK.f (by decide) hK)) hK80) hK88) (by omega)
              · skip
                have l_93 : (44 : Int32).toInt = 44 := rfl
                have e_94 := mt i_eq.mpr (show ¬ ((G 20 ((F 21) - (1 : Int32)).toNatClampNeg) = (44 : Int32)) from c_62)
                unfold cb_X3_settle_123
                refine WP.bind (cs_X1_add hfu (G 20 ((F 21) - (1 : Int32)).toNatClampNeg) (fup F 21 ((F 21) - (1 : Int32))) G j_28) ?_
                rintro r95 F95 G95 ⟨hI95, hB95, hT95, hO95, hK95, hp95⟩
                dsimp only
                have q_96 := hI.r 10 rfl
                have q_97 := hI95.r 10 rfl
                have e_98 : (F95 10).toInt = (F 10).toInt := hO95
                have q_99 := hI95.r 21 rfl
                have e_100 : (F95 21).toInt = ((F 21) - (1 : Int32)).toInt := congrArg Int32.toInt hp95
                unfold cb_X3_settle_132
                first | have e_101 : (x3 + (1 : Int32)).toInt = x3.toInt + (1) := i_addn x3 rfl (by omega) (by omega) | have e_102 := i_rng (x3 + (1 : Int32))
                exact ihn x1 x2 (x3 + (1 : Int32)) F95 G95 hI95 (KB.tr (KB.f (by decide) hB) hB95) (KT.tr (KT.f (by decide) hT) hT95) (KO.tr (KO.f (by decide) hO) hO95) (KK.tr (KK.f (by decide) hK) hK95) (by omega)
          · skip
            have q_103 := i_rng x2
            have q_104 := i_rng r23
            have e_105 := mt i_le.mpr (show ¬ (x2 ≤ r23) from c_24)
            unfold cb_X3_settle_46
            refine WP.ret ?_
            exact ⟨hI, hB, hT, hO, hK, trivial⟩
theorem cs_X3_settle {fu : Nat} (hfu : 8589934592 ≤ fu) (x1 : Int32) (x2 : Int32) (F : PF) (G : PG) (hI : CI F G) : WP (cf_X3_settle fu x1 x2 F G) (fun r' F' G' => CI F' G' ∧ KB F G F' G' ∧ KT F F' ∧ KO F F' ∧ KK F F' ∧ True) := by
  unfold cf_X3_settle
  unfold cb_X3_settle_0
  have q_1 := i_rng x1
  have q_2 := i_rng x2
  have l_3 : (0 : Int32).toInt = 0 := rfl
  exact cz_X3_settle_2 (F0 := F) (G0 := G) hfu fu x1 x2 (0 : Int32) F G hI (KB.rf : KB F G F G) (rfl : KT F F) (rfl : KO F F) (rfl : KK F F) (by omega)
theorem cs_X3_waits {fu : Nat} (hfu : 8589934592 ≤ fu) (x1 : Int32) (F : PF) (G : PG) (hI : CI F G) : WP (cf_X3_waits fu x1 F G) (fun r' F' G' => CI F' G' ∧ KB F G F' G' ∧ KT F F' ∧ KO F F' ∧ KK F F' ∧ True) := by
  unfold cf_X3_waits
  unfold cb_X3_waits_0
  refine WP.ite (fun c_1 => ?_) (fun c_1 => ?_)
  · skip
    have q_2 := hI.r 21 rfl
    have l_3 : (4000 : Int32).toInt = 4000 := rfl
    have e_4 := i_lt.mp (show (F 21) < (4000 : Int32) from c_1)
    unfold cb_X3_waits_11
    refine WP.ite (fun c_5 => ?_) (fun c_5 => ?_)
    · skip
      have q_6 := i_rng x1
      have l_7 : (43 : Int32).toInt = 43 := rfl
      have e_8 := i_eq.mp (show x1 = (43 : Int32) from c_5)
      unfold cb_X3_waits_23
      refine WP.ite (fun c_9 => ?_) (fun c_9 => ?_)
      · skip
        have e_10 := i_eq.mp (show x1 = (43 : Int32) from c_9)
        unfold cb_X3_waits_41
        unfold cb_X3_waits_48
        have l_11 : (87 : Int32).toInt = 87 := rfl
        have l_12 : (-1 : Int32).toInt = -1 := rfl
        refine WP.bind (cs_X1_addJump hfu (87 : Int32) (-1 : Int32) F G hI) ?_
        rintro r13 F13 G13 ⟨hI13, hB13, hT13, hO13, hK13, hp13⟩
        dsimp only
        have q_14 := hI.r 10 rfl
        have q_15 := hI13.r 10 rfl
        have e_16 : (F13 10).toInt = (F 10).toInt := hO13
        have q_17 := hI13.r 21 rfl
        have e_18 : (F13 21).toInt = (F 21).toInt := congrArg Int32.toInt hp13
        unfold cb_X3_waits_52
        refine WP.ix (show vp_in (F 21) 4001 from vp_in_iff.mpr ⟨by omega, by omega⟩) ?_
        have j_19 : CI F13 (gup G13 20 (F 21).toNatClampNeg r13) := CI.g (by decide) hI13
        unfold cb_X3_waits_53
        first | have e_20 : ((F13 21) + (1 : Int32)).toInt = (F13 21).toInt + (1) := i_addn (F13 21) rfl (by omega) (by omega) | have e_21 := i_rng ((F13 21) + (1 : Int32))
        have j_22 : CI (fup F13 21 ((F13 21) + (1 : Int32))) (gup G13 20 (F 21).toNatClampNeg r13) := CI.rg (k := 21) (x := ((F13 21) + (1 : Int32))) rfl (by decide) (by decide) j_19 ⟨by omega, by omega⟩
        unfold cb_X3_waits_63
        refine WP.ix (show vp_in ((F13 21) + (1 : Int32)) 4001 from vp_in_iff.mpr ⟨by omega, by omega⟩) ?_
        have j_23 : CI (fup F13 21 ((F13 21) + (1 : Int32))) (gup (gup G13 20 (F 21).toNatClampNeg r13) 20 ((F13 21) + (1 : Int32)).toNatClampNeg x1) := CI.g (by decide) j_22
        unfold cb_X3_waits_73
        first | have e_24 : (((F13 21) + (1 : Int32)) + (1 : Int32)).toInt = ((F13 21) + (1 : Int32)).toInt + (1) := i_addn ((F13 21) + (1 : Int32)) rfl (by omega) (by omega) | have e_25 := i_rng (((F13 21) + (1 : Int32)) + (1 : Int32))
        have j_26 : CI (fup (fup F13 21 ((F13 21) + (1 : Int32))) 21 (((F13 21) + (1 : Int32)) + (1 : Int32))) (gup (gup G13 20 (F 21).toNatClampNeg r13) 20 ((F13 21) + (1 : Int32)).toNatClampNeg x1) := CI.rg (k := 21) (x := (((F13 21) + (1 : Int32)) + (1 : Int32))) rfl (by decide) (by decide) j_23 ⟨by omega, by omega⟩
        unfold cb_X3_waits_83
        refine WP.ret ?_
        exact ⟨j_26, (KB.f (by decide) (KB.g (by decide) (KB.f (by decide) (KB.g (by decide) (KB.tr (KB.rf : KB F G F G) hB13))))), (KT.f (by decide) (KT.f (by decide) (KT.tr (rfl : KT F F) hT13))), (KO.f (by decide) (KO.f (by decide) (KO.tr (rfl : KO F F) hO13))), (KK.f (by decide) (KK.f (by decide) (KK.tr (rfl : KK F F) hK13))), trivial⟩
      · skip
        have e_27 := mt i_eq.mpr (show ¬ (x1 = (43 : Int32)) from c_9)
        unfold cb_X3_waits_46
        unfold cb_X3_waits_48
        have l_28 : (88 : Int32).toInt = 88 := rfl
        have l_29 : (-1 : Int32).toInt = -1 := rfl
        refine WP.bind (cs_X1_addJump hfu (88 : Int32) (-1 : Int32) F G hI) ?_
        rintro r30 F30 G30 ⟨hI30, hB30, hT30, hO30, hK30, hp30⟩
        dsimp only
        have q_31 := hI.r 10 rfl
        have q_32 := hI30.r 10 rfl
        have e_33 : (F30 10).toInt = (F 10).toInt := hO30
        have q_34 := hI30.r 21 rfl
        have e_35 : (F30 21).toInt = (F 21).toInt := congrArg Int32.toInt hp30
        unfold cb_X3_waits_52
        refine WP.ix (show vp_in (F 21) 4001 from vp_in_iff.mpr ⟨by omega, by omega⟩) ?_
        have j_36 : CI F30 (gup G30 20 (F 21).toNatClampNeg r30) := CI.g (by decide) hI30
        unfold cb_X3_waits_53
        first | have e_37 : ((F30 21) + (1 : Int32)).toInt = (F30 21).toInt + (1) := i_addn (F30 21) rfl (by omega) (by omega) | have e_38 := i_rng ((F30 21) + (1 : Int32))
        have j_39 : CI (fup F30 21 ((F30 21) + (1 : Int32))) (gup G30 20 (F 21).toNatClampNeg r30) := CI.rg (k := 21) (x := ((F30 21) + (1 : Int32))) rfl (by decide) (by decide) j_36 ⟨by omega, by omega⟩
        unfold cb_X3_waits_63
        refine WP.ix (show vp_in ((F30 21) + (1 : Int32)) 4001 from vp_in_iff.mpr ⟨by omega, by omega⟩) ?_
        have j_40 : CI (fup F30 21 ((F30 21) + (1 : Int32))) (gup (gup G30 20 (F 21).toNatClampNeg r30) 20 ((F30 21) + (1 : Int32)).toNatClampNeg x1) := CI.g (by decide) j_39
        unfold cb_X3_waits_73
        first | have e_41 : (((F30 21) + (1 : Int32)) + (1 : Int32)).toInt = ((F30 21) + (1 : Int32)).toInt + (1) := i_addn ((F30 21) + (1 : Int32)) rfl (by omega) (by omega) | have e_42 := i_rng (((F30 21) + (1 : Int32)) + (1 : Int32))
        have j_43 : CI (fup (fup F30 21 ((F30 21) + (1 : Int32))) 21 (((F30 21) + (1 : Int32)) + (1 : Int32))) (gup (gup G30 20 (F 21).toNatClampNeg r30) 20 ((F30 21) + (1 : Int32)).toNatClampNeg x1) := CI.rg (k := 21) (x := (((F30 21) + (1 : Int32)) + (1 : Int32))) rfl (by decide) (by decide) j_40 ⟨by omega, by omega⟩
        unfold cb_X3_waits_83
        refine WP.ret ?_
        exact ⟨j_43, (KB.f (by decide) (KB.g (by decide) (KB.f (by decide) (KB.g (by decide) (KB.tr (KB.rf : KB F G F G) hB30))))), (KT.f (by decide) (KT.f (by decide) (KT.tr (rfl : KT F F) hT30))), (KO.f (by decide) (KO.f (by decide) (KO.tr (rfl : KO F F) hO30))), (KK.f (by decide) (KK.f (by decide) (KK.tr (rfl : KK F F) hK30))), trivial⟩
    · skip
      have q_44 := i_rng x1
      have l_45 : (43 : Int32).toInt = 43 := rfl
      have e_46 := mt i_eq.mpr (show ¬ (x1 = (43 : Int32)) from c_5)
      unfold cb_X3_waits_17
      refine WP.ite (fun c_47 => ?_) (fun c_47 => ?_)
      · skip
        have l_48 : (44 : Int32).toInt = 44 := rfl
        have e_49 := i_eq.mp (show x1 = (44 : Int32) from c_47)
        unfold cb_X3_waits_23
        refine WP.ite (fun c_50 => ?_) (fun c_50 => ?_)
        · skip
          have e_51 := i_eq.mp (show x1 = (43 : Int32) from c_50)
          unfold cb_X3_waits_41
          unfold cb_X3_waits_48
          have l_52 : (87 : Int32).toInt = 87 := rfl
          have l_53 : (-1 : Int32).toInt = -1 := rfl
          refine WP.bind (cs_X1_addJump hfu (87 : Int32) (-1 : Int32) F G hI) ?_
          rintro r54 F54 G54 ⟨hI54, hB54, hT54, hO54, hK54, hp54⟩
          dsimp only
          have q_55 := hI.r 10 rfl
          have q_56 := hI54.r 10 rfl
          have e_57 : (F54 10).toInt = (F 10).toInt := hO54
          have q_58 := hI54.r 21 rfl
          have e_59 : (F54 21).toInt = (F 21).toInt := congrArg Int32.toInt hp54
          unfold cb_X3_waits_52
          refine WP.ix (show vp_in (F 21) 4001 from vp_in_iff.mpr ⟨by omega, by omega⟩) ?_
          have j_60 : CI F54 (gup G54 20 (F 21).toNatClampNeg r54) := CI.g (by decide) hI54
          unfold cb_X3_waits_53
          first | have e_61 : ((F54 21) + (1 : Int32)).toInt = (F54 21).toInt + (1) := i_addn (F54 21) rfl (by omega) (by omega) | have e_62 := i_rng ((F54 21) + (1 : Int32))
          have j_63 : CI (fup F54 21 ((F54 21) + (1 : Int32))) (gup G54 20 (F 21).toNatClampNeg r54) := CI.rg (k := 21) (x := ((F54 21) + (1 : Int32))) rfl (by decide) (by decide) j_60 ⟨by omega, by omega⟩
          unfold cb_X3_waits_63
          refine WP.ix (show vp_in ((F54 21) + (1 : Int32)) 4001 from vp_in_iff.mpr ⟨by omega, by omega⟩) ?_
          have j_64 : CI (fup F54 21 ((F54 21) + (1 : Int32))) (gup (gup G54 20 (F 21).toNatClampNeg r54) 20 ((F54 21) + (1 : Int32)).toNatClampNeg x1) := CI.g (by decide) j_63
          unfold cb_X3_waits_73
          first | have e_65 : (((F54 21) + (1 : Int32)) + (1 : Int32)).toInt = ((F54 21) + (1 : Int32)).toInt + (1) := i_addn ((F54 21) + (1 : Int32)) rfl (by omega) (by omega) | have e_66 := i_rng (((F54 21) + (1 : Int32)) + (1 : Int32))
          have j_67 : CI (fup (fup F54 21 ((F54 21) + (1 : Int32))) 21 (((F54 21) + (1 : Int32)) + (1 : Int32))) (gup (gup G54 20 (F 21).toNatClampNeg r54) 20 ((F54 21) + (1 : Int32)).toNatClampNeg x1) := CI.rg (k := 21) (x := (((F54 21) + (1 : Int32)) + (1 : Int32))) rfl (by decide) (by decide) j_64 ⟨by omega, by omega⟩
          unfold cb_X3_waits_83
          refine WP.ret ?_
          exact ⟨j_67, (KB.f (by decide) (KB.g (by decide) (KB.f (by decide) (KB.g (by decide) (KB.tr (KB.rf : KB F G F G) hB54))))), (KT.f (by decide) (KT.f (by decide) (KT.tr (rfl : KT F F) hT54))), (KO.f (by decide) (KO.f (by decide) (KO.tr (rfl : KO F F) hO54))), (KK.f (by decide) (KK.f (by decide) (KK.tr (rfl : KK F F) hK54))), trivial⟩
        · skip
          have e_68 := mt i_eq.mpr (show ¬ (x1 = (43 : Int32)) from c_50)
          unfold cb_X3_waits_46
          unfold cb_X3_waits_48
          have l_69 : (88 : Int32).toInt = 88 := rfl
          have l_70 : (-1 : Int32).toInt = -1 := rfl
          refine WP.bind (cs_X1_addJump hfu (88 : Int32) (-1 : Int32) F G hI) ?_
          rintro r71 F71 G71 ⟨hI71, hB71, hT71, hO71, hK71, hp71⟩
          dsimp only
          have q_72 := hI.r 10 rfl
          have q_73 := hI71.r 10 rfl
          have e_74 : (F71 10).toInt = (F 10).toInt := hO71
          have q_75 := hI71.r 21 rfl
          have e_76 : (F71 21).toInt = (F 21).toInt := congrArg Int32.toInt hp71
          unfold cb_X3_waits_52
          refine WP.ix (show vp_in (F 21) 4001 from vp_in_iff.mpr ⟨by omega, by omega⟩) ?_
          have j_77 : CI F71 (gup G71 20 (F 21).toNatClampNeg r71) := CI.g (by decide) hI71
          unfold cb_X3_waits_53
          first | have e_78 : ((F71 21) + (1 : Int32)).toInt = (F71 21).toInt + (1) := i_addn (F71 21) rfl (by omega) (by omega) | have e_79 := i_rng ((F71 21) + (1 : Int32))
          have j_80 : CI (fup F71 21 ((F71 21) + (1 : Int32))) (gup G71 20 (F 21).toNatClampNeg r71) := CI.rg (k := 21) (x := ((F71 21) + (1 : Int32))) rfl (by decide) (by decide) j_77 ⟨by omega, by omega⟩
          unfold cb_X3_waits_63
          refine WP.ix (show vp_in ((F71 21) + (1 : Int32)) 4001 from vp_in_iff.mpr ⟨by omega, by omega⟩) ?_
          have j_81 : CI (fup F71 21 ((F71 21) + (1 : Int32))) (gup (gup G71 20 (F 21).toNatClampNeg r71) 20 ((F71 21) + (1 : Int32)).toNatClampNeg x1) := CI.g (by decide) j_80
          unfold cb_X3_waits_73
          first | have e_82 : (((F71 21) + (1 : Int32)) + (1 : Int32)).toInt = ((F71 21) + (1 : Int32)).toInt + (1) := i_addn ((F71 21) + (1 : Int32)) rfl (by omega) (by omega) | have e_83 := i_rng (((F71 21) + (1 : Int32)) + (1 : Int32))
          have j_84 : CI (fup (fup F71 21 ((F71 21) + (1 : Int32))) 21 (((F71 21) + (1 : Int32)) + (1 : Int32))) (gup (gup G71 20 (F 21).toNatClampNeg r71) 20 ((F71 21) + (1 : Int32)).toNatClampNeg x1) := CI.rg (k := 21) (x := (((F71 21) + (1 : Int32)) + (1 : Int32))) rfl (by decide) (by decide) j_81 ⟨by omega, by omega⟩
          unfold cb_X3_waits_83
          refine WP.ret ?_
          exact ⟨j_84, (KB.f (by decide) (KB.g (by decide) (KB.f (by decide) (KB.g (by decide) (KB.tr (KB.rf : KB F G F G) hB71))))), (KT.f (by decide) (KT.f (by decide) (KT.tr (rfl : KT F F) hT71))), (KO.f (by decide) (KO.f (by decide) (KO.tr (rfl : KO F F) hO71))), (KK.f (by decide) (KK.f (by decide) (KK.tr (rfl : KK F F) hK71))), trivial⟩
      · skip
        have l_85 : (44 : Int32).toInt = 44 := rfl
        have e_86 := mt i_eq.mpr (show ¬ (x1 = (44 : Int32)) from c_47)
        unfold cb_X3_waits_63
        refine WP.ix (show vp_in (F 21) 4001 from vp_in_iff.mpr ⟨by omega, by omega⟩) ?_
        have j_87 : CI F (gup G 20 (F 21).toNatClampNeg x1) := CI.g (by decide) hI
        unfold cb_X3_waits_73
        first | have e_88 : ((F 21) + (1 : Int32)).toInt = (F 21).toInt + (1) := i_addn (F 21) rfl (by omega) (by omega) | have e_89 := i_rng ((F 21) + (1 : Int32))
        have j_90 : CI (fup F 21 ((F 21) + (1 : Int32))) (gup G 20 (F 21).toNatClampNeg x1) := CI.rg (k := 21) (x := ((F 21) + (1 : Int32))) rfl (by decide) (by decide) j_87 ⟨by omega, by omega⟩
        unfold cb_X3_waits_83
        refine WP.ret ?_
        exact ⟨j_90, (KB.f (by decide) (KB.g (by decide) (KB.rf : KB F G F G))), (KT.f (by decide) (rfl : KT F F)), (KO.f (by decide) (rfl : KO F F)), (KK.f (by decide) (rfl : KK F F)), trivial⟩
  · skip
    have q_91 := hI.r 21 rfl
    have l_92 : (4000 : Int32).toInt = 4000 := rfl
    have e_93 := mt i_lt.mpr (show ¬ ((F 21) < (4000 : Int32)) from c_1)
    unfold cb_X3_waits_10
    refine WP.ret ?_
    exact ⟨hI, (KB.rf : KB F G F G), (rfl : KT F F), (rfl : KO F F), (rfl : KK F F), trivial⟩
theorem cs_X3_isAhead {fu : Nat} (hfu : 8589934592 ≤ fu) (x0 : Int32) (F : PF) (G : PG) (hI : CI F G) : WP (cf_X3_isAhead fu x0 F G) (fun r' F' G' => F = F' ∧ G = G' ∧ ((r' = 0 ∨ r' = 1) ∧ (r'.toInt = 1 → x0.toInt ≠ -2))) := by
  unfold cf_X3_isAhead
  unfold cb_X3_isAhead_0
  refine WP.ite (fun c_1 => ?_) (fun c_1 => ?_)
  · skip
    have q_2 := i_rng x0
    have l_3 : (58 : Int32).toInt = 58 := rfl
    have e_4 := i_eq.mp (show x0 = (58 : Int32) from c_1)
    unfold cb_X3_isAhead_18
    unfold cb_X3_isAhead_23
    have l_5 : (1 : Int32).toInt = 1 := rfl
    refine WP.bz (show (1 : Int32) = 0 ∨ (1 : Int32) = 1 from (by decide)) ?_
    refine WP.ret ?_
    exact ⟨rfl, rfl, (by decide), (show (1 : Int32).toInt = 1 → x0.toInt ≠ -2 by omega)⟩
  · skip
    have q_6 := i_rng x0
    have l_7 : (58 : Int32).toInt = 58 := rfl
    have e_8 := mt i_eq.mpr (show ¬ (x0 = (58 : Int32)) from c_1)
    unfold cb_X3_isAhead_6
    refine WP.ite (fun c_9 => ?_) (fun c_9 => ?_)
    · skip
      have l_10 : (62 : Int32).toInt = 62 := rfl
      have e_11 := i_eq.mp (show x0 = (62 : Int32) from c_9)
      unfold cb_X3_isAhead_18
      unfold cb_X3_isAhead_23
      have l_12 : (1 : Int32).toInt = 1 := rfl
      refine WP.bz (show (1 : Int32) = 0 ∨ (1 : Int32) = 1 from (by decide)) ?_
      refine WP.ret ?_
      exact ⟨rfl, rfl, (by decide), (show (1 : Int32).toInt = 1 → x0.toInt ≠ -2 by omega)⟩
    · skip
      have l_13 : (62 : Int32).toInt = 62 := rfl
      have e_14 := mt i_eq.mpr (show ¬ (x0 = (62 : Int32)) from c_9)
      unfold cb_X3_isAhead_12
      refine WP.ite (fun c_15 => ?_) (fun c_15 => ?_)
      · skip
        have l_16 : (63 : Int32).toInt = 63 := rfl
        have e_17 := i_eq.mp (show x0 = (63 : Int32) from c_15)
        unfold cb_X3_isAhead_18
        unfold cb_X3_isAhead_23
        have l_18 : (1 : Int32).toInt = 1 := rfl
        refine WP.bz (show (1 : Int32) = 0 ∨ (1 : Int32) = 1 from (by decide)) ?_
        refine WP.ret ?_
        exact ⟨rfl, rfl, (by decide), (show (1 : Int32).toInt = 1 → x0.toInt ≠ -2 by omega)⟩
      · skip
        have l_19 : (63 : Int32).toInt = 63 := rfl
        have e_20 := mt i_eq.mpr (show ¬ (x0 = (63 : Int32)) from c_15)
        unfold cb_X3_isAhead_22
        unfold cb_X3_isAhead_23
        have l_21 : (0 : Int32).toInt = 0 := rfl
        refine WP.bz (show (0 : Int32) = 0 ∨ (0 : Int32) = 1 from (by decide)) ?_
        refine WP.ret ?_
        exact ⟨rfl, rfl, (by decide), (show (0 : Int32).toInt = 1 → x0.toInt ≠ -2 by omega)⟩
theorem cs_X5_note {fu : Nat} (hfu : 8589934592 ≤ fu) (x1 : Int32) (x2 : Int32) (F : PF) (G : PG) (hI : CI F G) : WP (cf_X5_note fu x1 x2 F G) (fun r' F' G' => CI F' G' ∧ KB F G F' G' ∧ KT F F' ∧ KO F F' ∧ KK F F' ∧ True) := by
  unfold cf_X5_note
  unfold cb_X5_note_0
  refine WP.ite (fun c_1 => ?_) (fun c_1 => ?_)
  · skip
    have q_2 := hI.r 45 rfl
    have l_3 : (0 : Int32).toInt = 0 := rfl
    have e_4 := i_eq.mp (show (F 45) = (0 : Int32) from c_1)
    unfold cb_X5_note_19
    refine WP.ret ?_
    exact ⟨hI, (KB.rf : KB F G F G), (rfl : KT F F), (rfl : KO F F), (rfl : KK F F), trivial⟩
  · skip
    have q_5 := hI.r 45 rfl
    have l_6 : (0 : Int32).toInt = 0 := rfl
    have e_7 := mt i_eq.mpr (show ¬ ((F 45) = (0 : Int32)) from c_1)
    unfold cb_X5_note_7
    refine WP.ite (fun c_8 => ?_) (fun c_8 => ?_)
    · skip
      have q_9 := i_rng x1
      have e_10 := i_lt.mp (show x1 < (0 : Int32) from c_8)
      unfold cb_X5_note_19
      refine WP.ret ?_
      exact ⟨hI, (KB.rf : KB F G F G), (rfl : KT F F), (rfl : KO F F), (rfl : KK F F), trivial⟩
    · skip
      have q_11 := i_rng x1
      have e_12 := mt i_lt.mpr (show ¬ (x1 < (0 : Int32)) from c_8)
      unfold cb_X5_note_11
      refine WP.ite (fun c_13 => ?_) (fun c_13 => ?_)
      · skip
        have l_14 : (10 : Int32).toInt = 10 := rfl
        have e_15 := i_lt.mp (show x1 < (10 : Int32) from c_13)
        unfold cb_X5_note_20
        have j_16 : CI (fup F 47 (0 : Int32)) G := CI.rg (k := 47) (x := (0 : Int32)) rfl (by decide) (by decide) hI ⟨by omega, by omega⟩
        unfold cb_X5_note_25
        refine WP.ite (fun c_17 => ?_) (fun c_17 => ?_)
        · skip
          have q_18 := i_rng x2
          have q_19 := i_rng (F 43)
          have e_20 := i_lt.mp (show x2 < (F 43) from c_17)
          unfold cb_X5_note_49
          have j_21 : CI (fup (fup F 47 (0 : Int32)) 43 x2) G := CI.fr rfl j_16
          unfold cb_X5_note_54
          have j_22 : CI (fup (fup (fup F 47 (0 : Int32)) 43 x2) 44 x1) G := CI.rg (k := 44) (x := x1) rfl (by decide) (by decide) j_21 ⟨by omega, by omega⟩
          unfold cb_X5_note_59
          refine WP.ret ?_
          exact ⟨j_22, (KB.f (by decide) (KB.f (by decide) (KB.f (by decide) (KB.rf : KB F G F G)))), (KT.f (by decide) (KT.f (by decide) (KT.f (by decide) (rfl : KT F F)))), (KO.f (by decide) (KO.f (by decide) (KO.f (by decide) (rfl : KO F F)))), (KK.f (by decide) (KK.f (by decide) (KK.f (by decide) (rfl : KK F F)))), trivial⟩
        · skip
          have q_23 := i_rng x2
          have q_24 := i_rng (F 43)
          have e_25 := mt i_lt.mpr (show ¬ (x2 < (F 43)) from c_17)
          unfold cb_X5_note_33
          refine WP.ite (fun c_26 => ?_) (fun c_26 => ?_)
          · skip
            have e_27 := i_eq.mp (show x2 = (F 43) from c_26)
            unfold cb_X5_note_41
            refine WP.ite (fun c_28 => ?_) (fun c_28 => ?_)
            · skip
              have q_29 := hI.r 44 rfl
              have e_30 := i_le.mp (show (F 44) ≤ x1 from c_28)
              unfold cb_X5_note_59
              refine WP.ret ?_
              exact ⟨j_16, (KB.f (by decide) (KB.rf : KB F G F G)), (KT.f (by decide) (rfl : KT F F)), (KO.f (by decide) (rfl : KO F F)), (KK.f (by decide) (rfl : KK F F)), trivial⟩
            · skip
              have q_31 := hI.r 44 rfl
              have e_32 := mt i_le.mpr (show ¬ ((F 44) ≤ x1) from c_28)
              unfold cb_X5_note_49
              have j_33 : CI (fup (fup F 47 (0 : Int32)) 43 x2) G := CI.fr rfl j_16
              unfold cb_X5_note_54
              have j_34 : CI (fup (fup (fup F 47 (0 : Int32)) 43 x2) 44 x1) G := CI.rg (k := 44) (x := x1) rfl (by decide) (by decide) j_33 ⟨by omega, by omega⟩
              unfold cb_X5_note_59
              refine WP.ret ?_
              exact ⟨j_34, (KB.f (by decide) (KB.f (by decide) (KB.f (by decide) (KB.rf : KB F G F G)))), (KT.f (by decide) (KT.f (by decide) (KT.f (by decide) (rfl : KT F F)))), (KO.f (by decide) (KO.f (by decide) (KO.f (by decide) (rfl : KO F F)))), (KK.f (by decide) (KK.f (by decide) (KK.f (by decide) (rfl : KK F F)))), trivial⟩
          · skip
            have e_35 := mt i_eq.mpr (show ¬ (x2 = (F 43)) from c_26)
            unfold cb_X5_note_59
            refine WP.ret ?_
            exact ⟨j_16, (KB.f (by decide) (KB.rf : KB F G F G)), (KT.f (by decide) (rfl : KT F F)), (KO.f (by decide) (rfl : KO F F)), (KK.f (by decide) (rfl : KK F F)), trivial⟩
      · skip
        have l_36 : (10 : Int32).toInt = 10 := rfl
        have e_37 := mt i_lt.mpr (show ¬ (x1 < (10 : Int32)) from c_13)
        unfold cb_X5_note_19
        refine WP.ret ?_
        exact ⟨hI, (KB.rf : KB F G F G), (rfl : KT F F), (rfl : KO F F), (rfl : KK F F), trivial⟩
theorem cs_X8_has {fu : Nat} (hfu : 8589934592 ≤ fu) (x1 : Int32) (F : PF) (G : PG) (hI : CI F G) : WP (cf_X8_has fu x1 F G) (fun r' F' G' => F = F' ∧ G = G' ∧ ((r' = 0 ∨ r' = 1) ∧ (r'.toInt = 1 → 0 ≤ x1.toInt ∧ x1.toInt < 450))) := by
  unfold cf_X8_has
  unfold cb_X8_has_0
  refine WP.ite (fun c_1 => ?_) (fun c_1 => ?_)
  · skip
    have q_2 := i_rng x1
    have l_3 : (0 : Int32).toInt = 0 := rfl
    have e_4 := i_lt.mp (show x1 < (0 : Int32) from c_1)
    unfold cb_X8_has_16
    unfold cb_X8_has_17
    refine WP.bz (show (0 : Int32) = 0 ∨ (0 : Int32) = 1 from (by decide)) ?_
    refine WP.ret ?_
    exact ⟨rfl, rfl, (by decide), (show (0 : Int32).toInt = 1 → 0 ≤ x1.toInt ∧ x1.toInt < 450 by omega)⟩
  · skip
    have q_5 := i_rng x1
    have l_6 : (0 : Int32).toInt = 0 := rfl
    have e_7 := mt i_lt.mpr (show ¬ (x1 < (0 : Int32)) from c_1)
    unfold cb_X8_has_4
    refine WP.ite (fun c_8 => ?_) (fun c_8 => ?_)
    · skip
      have q_9 := hI.r 74 rfl
      have e_10 := i_le.mp (show (F 74) ≤ x1 from c_8)
      unfold cb_X8_has_16
      unfold cb_X8_has_17
      refine WP.bz (show (0 : Int32) = 0 ∨ (0 : Int32) = 1 from (by decide)) ?_
      refine WP.ret ?_
      exact ⟨rfl, rfl, (by decide), (show (0 : Int32).toInt = 1 → 0 ≤ x1.toInt ∧ x1.toInt < 450 by omega)⟩
    · skip
      have q_11 := hI.r 74 rfl
      have e_12 := mt i_le.mpr (show ¬ ((F 74) ≤ x1) from c_8)
      unfold cb_X8_has_12
      unfold cb_X8_has_17
      have l_13 : (1 : Int32).toInt = 1 := rfl
      refine WP.bz (show (1 : Int32) = 0 ∨ (1 : Int32) = 1 from (by decide)) ?_
      refine WP.ret ?_
      exact ⟨rfl, rfl, (by decide), (show (1 : Int32).toInt = 1 → 0 ≤ x1.toInt ∧ x1.toInt < 450 by omega)⟩
theorem cs_X8_formalKind {fu : Nat} (hfu : 8589934592 ≤ fu) (x1 : Int32) (x2 : Int32) (F : PF) (G : PG) (hI : CI F G) (hc : x2.toInt ≤ 4001) : WP (cf_X8_formalKind fu x1 x2 F G) (fun r' F' G' => F = F' ∧ G = G' ∧ True) := by
  unfold cf_X8_formalKind
  unfold cb_X8_formalKind_0
  have q_1 := i_rng x1
  refine WP.bind (cs_X8_has hfu x1 F G hI) ?_
  rintro r2 _ _ ⟨rfl, rfl, hp2⟩
  dsimp only
  have q_3 := b_rng (hp2.1)
  unfold cb_X8_formalKind_5
  refine WP.ite (fun c_4 => ?_) (fun c_4 => ?_)
  · skip
    have l_5 : (0 : Int32).toInt = 0 := rfl
    have e_6 := i_eq.mp (show r2 = (0 : Int32) from c_4)
    unfold cb_X8_formalKind_22
    refine WP.ret ?_
    exact ⟨rfl, rfl, trivial⟩
  · skip
    have l_7 : (0 : Int32).toInt = 0 := rfl
    have e_8 := mt i_eq.mpr (show ¬ (r2 = (0 : Int32)) from c_4)
    unfold cb_X8_formalKind_8
    refine WP.ite (fun c_9 => ?_) (fun c_9 => ?_)
    · skip
      have q_10 := i_rng x2
      have e_11 := i_lt.mp (show x2 < (0 : Int32) from c_9)
      unfold cb_X8_formalKind_22
      refine WP.ret ?_
      exact ⟨rfl, rfl, trivial⟩
    · skip
      have q_12 := i_rng x2
      have e_13 := mt i_lt.mpr (show ¬ (x2 < (0 : Int32)) from c_9)
      unfold cb_X8_formalKind_12
      refine WP.ix (show vp_in x1 450 from vp_in_iff.mpr ⟨by omega, by omega⟩) ?_
      refine WP.ite (fun c_14 => ?_) (fun c_14 => ?_)
      · skip
        have q_15 := i_rng (G 78 x1.toNatClampNeg)
        have e_16 := i_lt.mp (show x2 < (G 78 x1.toNatClampNeg) from c_14)
        unfold cb_X8_formalKind_24
        refine WP.ix (show vp_in x1 450 from vp_in_iff.mpr ⟨by omega, by omega⟩) ?_
        refine WP.ite (fun c_17 => ?_) (fun c_17 => ?_)
        · skip
          have l_18 : (700 : Int32).toInt = 700 := rfl
          have q_19 := hI.2.2 (x1.toNatClampNeg)
          first | have e_20 : ((G 83 x1.toNatClampNeg) + x2).toInt = (G 83 x1.toNatClampNeg).toInt + (x2.toInt) := i_addn (G 83 x1.toNatClampNeg) rfl (by omega) (by omega) | have e_21 := i_rng ((G 83 x1.toNatClampNeg) + x2)
          have e_22 := i_le.mp (show (700 : Int32) ≤ ((G 83 x1.toNatClampNeg) + x2) from c_17)
          unfold cb_X8_formalKind_49
          unfold cb_X8_formalKind_50
          refine WP.ret ?_
          exact ⟨rfl, rfl, trivial⟩
        · skip
          have l_23 : (700 : Int32).toInt = 700 := rfl
          have q_24 := hI.2.2 (x1.toNatClampNeg)
          first | have e_25 : ((G 83 x1.toNatClampNeg) + x2).toInt = (G 83 x1.toNatClampNeg).toInt + (x2.toInt) := i_addn (G 83 x1.toNatClampNeg) rfl (by omega) (by omega) | have e_26 := i_rng ((G 83 x1.toNatClampNeg) + x2)
          have e_27 := mt i_le.mpr (show ¬ ((700 : Int32) ≤ ((G 83 x1.toNatClampNeg) + x2)) from c_17)
          unfold cb_X8_formalKind_40
          refine WP.ix (show vp_in ((G 83 x1.toNatClampNeg) + x2) 700 from vp_in_iff.mpr ⟨by omega, by omega⟩) ?_
          unfold cb_X8_formalKind_50
          refine WP.ret ?_
          exact ⟨rfl, rfl, trivial⟩
      · skip
        have q_28 := i_rng (G 78 x1.toNatClampNeg)
        have e_29 := mt i_lt.mpr (show ¬ (x2 < (G 78 x1.toNatClampNeg)) from c_14)
        unfold cb_X8_formalKind_22
        refine WP.ret ?_
        exact ⟨rfl, rfl, trivial⟩
theorem cs_X5_kind {fu : Nat} (hfu : 8589934592 ≤ fu) (x1 : Int32) (F : PF) (G : PG) (hI : CI F G) : WP (cf_X5_kind fu x1 F G) (fun r' F' G' => F = F' ∧ G = G' ∧ ((r'.toInt = -1 ∨ (0 ≤ x1.toInt ∧ x1.toInt < 700)))) := by
  unfold cf_X5_kind
  unfold cb_X5_kind_0
  refine WP.ite (fun c_1 => ?_) (fun c_1 => ?_)
  · skip
    have q_2 := i_rng x1
    have l_3 : (0 : Int32).toInt = 0 := rfl
    have e_4 := i_lt.mp (show x1 < (0 : Int32) from c_1)
    unfold cb_X5_kind_12
    unfold cb_X5_kind_22
    refine WP.ret ?_
    have l_5 : (-1 : Int32).toInt = -1 := rfl
    exact ⟨rfl, rfl, (show (-1 : Int32).toInt = -1 ∨ (0 ≤ x1.toInt ∧ x1.toInt < 700) by omega)⟩
  · skip
    have q_6 := i_rng x1
    have l_7 : (0 : Int32).toInt = 0 := rfl
    have e_8 := mt i_lt.mpr (show ¬ (x1 < (0 : Int32)) from c_1)
    unfold cb_X5_kind_4
    refine WP.ite (fun c_9 => ?_) (fun c_9 => ?_)
    · skip
      have q_10 := hI.r 41 rfl
      have e_11 := i_lt.mp (show x1 < (F 41) from c_9)
      unfold cb_X5_kind_16
      refine WP.ix (show vp_in x1 700 from vp_in_iff.mpr ⟨by omega, by omega⟩) ?_
      unfold cb_X5_kind_22
      refine WP.ret ?_
      have q_12 := i_rng (G 35 x1.toNatClampNeg)
      exact ⟨rfl, rfl, (show (G 35 x1.toNatClampNeg).toInt = -1 ∨ (0 ≤ x1.toInt ∧ x1.toInt < 700) by omega)⟩
    · skip
      have q_13 := hI.r 41 rfl
      have e_14 := mt i_lt.mpr (show ¬ (x1 < (F 41)) from c_9)
      unfold cb_X5_kind_12
      unfold cb_X5_kind_22
      refine WP.ret ?_
      have l_15 : (-1 : Int32).toInt = -1 := rfl
      exact ⟨rfl, rfl, (show (-1 : Int32).toInt = -1 ∨ (0 ≤ x1.toInt ∧ x1.toInt < 700) by omega)⟩
theorem cs_X5_value {fu : Nat} (hfu : 8589934592 ≤ fu) (x1 : Int32) (F : PF) (G : PG) (hI : CI F G) : WP (cf_X5_value fu x1 F G) (fun r' F' G' => F = F' ∧ G = G' ∧ True) := by
  unfold cf_X5_value
  unfold cb_X5_value_0
  refine WP.ite (fun c_1 => ?_) (fun c_1 => ?_)
  · skip
    have q_2 := i_rng x1
    have l_3 : (0 : Int32).toInt = 0 := rfl
    have e_4 := i_lt.mp (show x1 < (0 : Int32) from c_1)
    unfold cb_X5_value_12
    unfold cb_X5_value_22
    refine WP.ret ?_
    exact ⟨rfl, rfl, trivial⟩
  · skip
    have q_5 := i_rng x1
    have l_6 : (0 : Int32).toInt = 0 := rfl
    have e_7 := mt i_lt.mpr (show ¬ (x1 < (0 : Int32)) from c_1)
    unfold cb_X5_value_4
    refine WP.ite (fun c_8 => ?_) (fun c_8 => ?_)
    · skip
      have q_9 := hI.r 41 rfl
      have e_10 := i_lt.mp (show x1 < (F 41) from c_8)
      unfold cb_X5_value_16
      refine WP.ix (show vp_in x1 700 from vp_in_iff.mpr ⟨by omega, by omega⟩) ?_
      unfold cb_X5_value_22
      refine WP.ret ?_
      exact ⟨rfl, rfl, trivial⟩
    · skip
      have q_11 := hI.r 41 rfl
      have e_12 := mt i_lt.mpr (show ¬ (x1 < (F 41)) from c_8)
      unfold cb_X5_value_12
      unfold cb_X5_value_22
      refine WP.ret ?_
      exact ⟨rfl, rfl, trivial⟩
theorem cs_X5_isGlobal {fu : Nat} (hfu : 8589934592 ≤ fu) (x1 : Int32) (F : PF) (G : PG) (hI : CI F G) : WP (cf_X5_isGlobal fu x1 F G) (fun r' F' G' => F = F' ∧ G = G' ∧ (r' = 0 ∨ r' = 1)) := by
  unfold cf_X5_isGlobal
  unfold cb_X5_isGlobal_0
  refine WP.ite (fun c_1 => ?_) (fun c_1 => ?_)
  · skip
    have q_2 := i_rng x1
    have l_3 : (0 : Int32).toInt = 0 := rfl
    have e_4 := i_lt.mp (show x1 < (0 : Int32) from c_1)
    unfold cb_X5_isGlobal_25
    unfold cb_X5_isGlobal_26
    refine WP.bz (show (0 : Int32) = 0 ∨ (0 : Int32) = 1 from (by decide)) ?_
    refine WP.ret ?_
    exact ⟨rfl, rfl, (by decide)⟩
  · skip
    have q_5 := i_rng x1
    have l_6 : (0 : Int32).toInt = 0 := rfl
    have e_7 := mt i_lt.mpr (show ¬ (x1 < (0 : Int32)) from c_1)
    unfold cb_X5_isGlobal_4
    refine WP.ite (fun c_8 => ?_) (fun c_8 => ?_)
    · skip
      have q_9 := hI.r 41 rfl
      have e_10 := i_le.mp (show (F 41) ≤ x1 from c_8)
      unfold cb_X5_isGlobal_25
      unfold cb_X5_isGlobal_26
      refine WP.bz (show (0 : Int32) = 0 ∨ (0 : Int32) = 1 from (by decide)) ?_
      refine WP.ret ?_
      exact ⟨rfl, rfl, (by decide)⟩
    · skip
      have q_11 := hI.r 41 rfl
      have e_12 := mt i_le.mpr (show ¬ ((F 41) ≤ x1) from c_8)
      unfold cb_X5_isGlobal_12
      refine WP.ix (show vp_in x1 700 from vp_in_iff.mpr ⟨by omega, by omega⟩) ?_
      refine WP.ite (fun c_13 => ?_) (fun c_13 => ?_)
      · skip
        have q_14 := i_rng (G 34 x1.toNatClampNeg)
        have e_15 := i_eq.mp (show (G 34 x1.toNatClampNeg) = (0 : Int32) from c_13)
        unfold cb_X5_isGlobal_21
        unfold cb_X5_isGlobal_26
        have l_16 : (1 : Int32).toInt = 1 := rfl
        refine WP.bz (show (1 : Int32) = 0 ∨ (1 : Int32) = 1 from (by decide)) ?_
        refine WP.ret ?_
        exact ⟨rfl, rfl, (by decide)⟩
      · skip
        have q_17 := i_rng (G 34 x1.toNatClampNeg)
        have e_18 := mt i_eq.mpr (show ¬ ((G 34 x1.toNatClampNeg) = (0 : Int32)) from c_13)
        unfold cb_X5_isGlobal_25
        unfold cb_X5_isGlobal_26
        refine WP.bz (show (0 : Int32) = 0 ∨ (0 : Int32) = 1 from (by decide)) ?_
        refine WP.ret ?_
        exact ⟨rfl, rfl, (by decide)⟩
theorem cs_X5_size {fu : Nat} (hfu : 8589934592 ≤ fu) (x1 : Int32) (F : PF) (G : PG) (hI : CI F G) : WP (cf_X5_size fu x1 F G) (fun r' F' G' => F = F' ∧ G = G' ∧ True) := by
  unfold cf_X5_size
  unfold cb_X5_size_0
  refine WP.ite (fun c_1 => ?_) (fun c_1 => ?_)
  · skip
    have q_2 := i_rng x1
    have l_3 : (0 : Int32).toInt = 0 := rfl
    have e_4 := i_lt.mp (show x1 < (0 : Int32) from c_1)
    unfold cb_X5_size_12
    unfold cb_X5_size_22
    refine WP.ret ?_
    exact ⟨rfl, rfl, trivial⟩
  · skip
    have q_5 := i_rng x1
    have l_6 : (0 : Int32).toInt = 0 := rfl
    have e_7 := mt i_lt.mpr (show ¬ (x1 < (0 : Int32)) from c_1)
    unfold cb_X5_size_4
    refine WP.ite (fun c_8 => ?_) (fun c_8 => ?_)
    · skip
      have q_9 := hI.r 41 rfl
      have e_10 := i_lt.mp (show x1 < (F 41) from c_8)
      unfold cb_X5_size_16
      refine WP.ix (show vp_in x1 700 from vp_in_iff.mpr ⟨by omega, by omega⟩) ?_
      unfold cb_X5_size_22
      refine WP.ret ?_
      exact ⟨rfl, rfl, trivial⟩
    · skip
      have q_11 := hI.r 41 rfl
      have e_12 := mt i_lt.mpr (show ¬ (x1 < (F 41)) from c_8)
      unfold cb_X5_size_12
      unfold cb_X5_size_22
      refine WP.ret ?_
      exact ⟨rfl, rfl, trivial⟩
theorem cs_X3_pass {fu : Nat} (hfu : 8589934592 ≤ fu) (x1 : Int32) (F : PF) (G : PG) (hI : CI F G) : WP (cf_X3_pass fu x1 F G) (fun r' F' G' => CI F' G' ∧ KB F G F' G' ∧ KT F F' ∧ KO F F' ∧ KK F F' ∧ True) := by
  unfold cf_X3_pass
  unfold cb_X3_pass_0
  have q_1 := i_rng x1
  refine WP.bind (cs_X5_size hfu x1 F G hI) ?_
  rintro r2 _ _ ⟨rfl, rfl, hp2⟩
  dsimp only
  unfold cb_X3_pass_8
  refine WP.ite (fun c_3 => ?_) (fun c_3 => ?_)
  · skip
    have q_4 := i_rng r2
    have l_5 : (0 : Int32).toInt = 0 := rfl
    have e_6 := i_eq.mp (show r2 = (0 : Int32) from c_3)
    unfold cb_X3_pass_11
    unfold cb_X3_pass_16
    refine WP.ite (fun c_7 => absurd c_7 (by decide)) (fun _ => ?_)
    unfold cb_X3_pass_25
    unfold cb_X3_pass_48
    refine WP.bind (cs_X5_value hfu x1 F G hI) ?_
    rintro r8 _ _ ⟨rfl, rfl, hp8⟩
    dsimp only
    unfold cb_X3_pass_56
    have l_9 : (83 : Int32).toInt = 83 := rfl
    have q_10 := i_rng r8
    refine WP.bind (cs_X1_addPair hfu (83 : Int32) r8 F G hI) ?_
    rintro r11 F11 G11 ⟨hI11, hB11, hT11, hO11, hK11, hp11⟩
    dsimp only
    have q_12 := hI.r 10 rfl
    have q_13 := hI11.r 10 rfl
    have e_14 : (F11 10).toInt = (F 10).toInt := hO11
    unfold cb_X3_pass_59
    refine WP.bind (cs_X5_size hfu x1 F11 G11 hI11) ?_
    rintro r15 _ _ ⟨rfl, rfl, hp15⟩
    dsimp only
    unfold cb_X3_pass_71
    have q_16 := i_rng r15
    refine WP.bind (cs_X1_add hfu r15 F11 G11 hI11) ?_
    rintro r17 F17 G17 ⟨hI17, hB17, hT17, hO17, hK17, hp17⟩
    dsimp only
    have q_18 := hI17.r 10 rfl
    have e_19 : (F17 10).toInt = (F11 10).toInt := hO17
    have q_20 := hI11.r 21 rfl
    have q_21 := hI17.r 21 rfl
    have e_22 : (F17 21).toInt = (F11 21).toInt := congrArg Int32.toInt hp17
    unfold cb_X3_pass_74
    refine WP.ret ?_
    exact ⟨hI17, (KB.tr (KB.tr (KB.rf : KB F G F G) hB11) hB17), (KT.tr (KT.tr (rfl : KT F F) hT11) hT17), (KO.tr (KO.tr (rfl : KO F F) hO11) hO17), (KK.tr (KK.tr (rfl : KK F F) hK11) hK17), trivial⟩
  · skip
    have q_23 := i_rng r2
    have l_24 : (0 : Int32).toInt = 0 := rfl
    have e_25 := mt i_eq.mpr (show ¬ (r2 = (0 : Int32)) from c_3)
    unfold cb_X3_pass_15
    unfold cb_X3_pass_16
    refine WP.ite (fun _ => ?_) (fun c_26 => absurd (by decide) c_26)
    unfold cb_X3_pass_30
    refine WP.bind (cs_X5_isGlobal hfu x1 F G hI) ?_
    rintro r27 _ _ ⟨rfl, rfl, hp27⟩
    dsimp only
    have q_28 := b_rng hp27
    unfold cb_X3_pass_38
    refine WP.ite (fun c_29 => ?_) (fun c_29 => ?_)
    · skip
      have e_30 := i_eq.mp (show r27 = (0 : Int32) from c_29)
      unfold cb_X3_pass_46
      unfold cb_X3_pass_48
      refine WP.bind (cs_X5_value hfu x1 F G hI) ?_
      rintro r31 _ _ ⟨rfl, rfl, hp31⟩
      dsimp only
      unfold cb_X3_pass_56
      have l_32 : (82 : Int32).toInt = 82 := rfl
      have q_33 := i_rng r31
      refine WP.bind (cs_X1_addPair hfu (82 : Int32) r31 F G hI) ?_
      rintro r34 F34 G34 ⟨hI34, hB34, hT34, hO34, hK34, hp34⟩
      dsimp only
      have q_35 := hI.r 10 rfl
      have q_36 := hI34.r 10 rfl
      have e_37 : (F34 10).toInt = (F 10).toInt := hO34
      unfold cb_X3_pass_59
      refine WP.bind (cs_X5_size hfu x1 F34 G34 hI34) ?_
      rintro r38 _ _ ⟨rfl, rfl, hp38⟩
      dsimp only
      unfold cb_X3_pass_71
      have q_39 := i_rng r38
      refine WP.bind (cs_X1_add hfu r38 F34 G34 hI34) ?_
      rintro r40 F40 G40 ⟨hI40, hB40, hT40, hO40, hK40, hp40⟩
      dsimp only
      have q_41 := hI40.r 10 rfl
      have e_42 : (F40 10).toInt = (F34 10).toInt := hO40
      have q_43 := hI34.r 21 rfl
      have q_44 := hI40.r 21 rfl
      have e_45 : (F40 21).toInt = (F34 21).toInt := congrArg Int32.toInt hp40
      unfold cb_X3_pass_74
      refine WP.ret ?_
      exact ⟨hI40, (KB.tr (KB.tr (KB.rf : KB F G F G) hB34) hB40), (KT.tr (KT.tr (rfl : KT F F) hT34) hT40), (KO.tr (KO.tr (rfl : KO F F) hO34) hO40), (KK.tr (KK.tr (rfl : KK F F) hK34) hK40), trivial⟩
    · skip
      have e_46 := mt i_eq.mpr (show ¬ (r27 = (0 : Int32)) from c_29)
      unfold cb_X3_pass_41
      unfold cb_X3_pass_48
      refine WP.bind (cs_X5_value hfu x1 F G hI) ?_
      rintro r47 _ _ ⟨rfl, rfl, hp47⟩
      dsimp only
      unfold cb_X3_pass_56
      have l_48 : (81 : Int32).toInt = 81 := rfl
      have q_49 := i_rng r47
      refine WP.bind (cs_X1_addPair hfu (81 : Int32) r47 F G hI) ?_
      rintro r50 F50 G50 ⟨hI50, hB50, hT50, hO50, hK50, hp50⟩
      dsimp only
      have q_51 := hI.r 10 rfl
      have q_52 := hI50.r 10 rfl
      have e_53 : (F50 10).toInt = (F 10).toInt := hO50
      unfold cb_X3_pass_59
      refine WP.bind (cs_X5_size hfu x1 F50 G50 hI50) ?_
      rintro r54 _ _ ⟨rfl, rfl, hp54⟩
      dsimp only
      unfold cb_X3_pass_71
      have q_55 := i_rng r54
      refine WP.bind (cs_X1_add hfu r54 F50 G50 hI50) ?_
      rintro r56 F56 G56 ⟨hI56, hB56, hT56, hO56, hK56, hp56⟩
      dsimp only
      have q_57 := hI56.r 10 rfl
      have e_58 : (F56 10).toInt = (F50 10).toInt := hO56
      have q_59 := hI50.r 21 rfl
      have q_60 := hI56.r 21 rfl
      have e_61 : (F56 21).toInt = (F50 21).toInt := congrArg Int32.toInt hp56
      unfold cb_X3_pass_74
      refine WP.ret ?_
      exact ⟨hI56, (KB.tr (KB.tr (KB.rf : KB F G F G) hB50) hB56), (KT.tr (KT.tr (rfl : KT F F) hT50) hT56), (KO.tr (KO.tr (rfl : KO F F) hO50) hO56), (KK.tr (KK.tr (rfl : KK F F) hK50) hK56), trivial⟩
theorem cs_X5_wantArray {fu : Nat} (hfu : 8589934592 ≤ fu) (x1 : Int32) (x2 : Int32) (x3 : Int32) (F : PF) (G : PG) (hI : CI F G) : WP (cf_X5_wantArray fu x1 x2 x3 F G) (fun r' F' G' => CI F' G' ∧ KB F G F' G' ∧ KT F F' ∧ KO F F' ∧ KK F F' ∧ True) := by
  unfold cf_X5_wantArray
  unfold cb_X5_wantArray_0
  have q_1 := i_rng x1
  refine WP.bind (cs_X5_kind hfu x1 F G hI) ?_
  rintro r2 _ _ ⟨rfl, rfl, hp2⟩
  dsimp only
  have q_3 := i_rng r2
  unfold cb_X5_wantArray_5
  refine WP.ite (fun c_4 => ?_) (fun c_4 => ?_)
  · skip
    have q_5 := i_rng x3
    have e_6 := i_eq.mp (show r2 = x3 from c_4)
    unfold cb_X5_wantArray_15
    refine WP.ret ?_
    exact ⟨hI, (KB.rf : KB F G F G), (rfl : KT F F), (rfl : KO F F), (rfl : KK F F), trivial⟩
  · skip
    have q_7 := i_rng x3
    have e_8 := mt i_eq.mpr (show ¬ (r2 = x3) from c_4)
    unfold cb_X5_wantArray_9
    have l_9 : (2 : Int32).toInt = 2 := rfl
    have q_10 := i_rng x2
    refine WP.bind (cs_X5_note hfu (2 : Int32) x2 F G hI) ?_
    rintro r11 F11 G11 ⟨hI11, hB11, hT11, hO11, hK11, hp11⟩
    dsimp only
    have q_12 := hI.r 10 rfl
    have q_13 := hI11.r 10 rfl
    have e_14 : (F11 10).toInt = (F 10).toInt := hO11
    unfold cb_X5_wantArray_15
    refine WP.ret ?_
    exact ⟨hI11, (KB.tr (KB.rf : KB F G F G) hB11), (KT.tr (rfl : KT F F) hT11), (KO.tr (rfl : KO F F) hO11), (KK.tr (rfl : KK F F) hK11), trivial⟩
theorem cs_X5_known {fu : Nat} (hfu : 8589934592 ≤ fu) (x1 : Int32) (F : PF) (G : PG) (hI : CI F G) : WP (cf_X5_known fu x1 F G) (fun r' F' G' => F = F' ∧ G = G' ∧ True) := by
  unfold cf_X5_known
  unfold cb_X5_known_0
  refine WP.ite (fun c_1 => ?_) (fun c_1 => ?_)
  · skip
    have q_2 := i_rng x1
    have l_3 : (0 : Int32).toInt = 0 := rfl
    have e_4 := i_lt.mp (show x1 < (0 : Int32) from c_1)
    unfold cb_X5_known_11
    unfold cb_X5_known_21
    refine WP.ret ?_
    exact ⟨rfl, rfl, trivial⟩
  · skip
    have q_5 := i_rng x1
    have l_6 : (0 : Int32).toInt = 0 := rfl
    have e_7 := mt i_lt.mpr (show ¬ (x1 < (0 : Int32)) from c_1)
    unfold cb_X5_known_4
    refine WP.ite (fun c_8 => ?_) (fun c_8 => ?_)
    · skip
      have l_9 : (1408 : Int32).toInt = 1408 := rfl
      have e_10 := i_lt.mp (show x1 < (1408 : Int32) from c_8)
      unfold cb_X5_known_15
      refine WP.ix (show vp_in x1 1408 from vp_in_iff.mpr ⟨by omega, by omega⟩) ?_
      unfold cb_X5_known_21
      refine WP.ret ?_
      exact ⟨rfl, rfl, trivial⟩
    · skip
      have l_11 : (1408 : Int32).toInt = 1408 := rfl
      have e_12 := mt i_lt.mpr (show ¬ (x1 < (1408 : Int32)) from c_8)
      unfold cb_X5_known_11
      unfold cb_X5_known_21
      refine WP.ret ?_
      exact ⟨rfl, rfl, trivial⟩
theorem cs_X5_meant {fu : Nat} (hfu : 8589934592 ≤ fu) (x1 : Int32) (x2 : Int32) (F : PF) (G : PG) (hI : CI F G) : WP (cf_X5_meant fu x1 x2 F G) (fun r' F' G' => CI F' G' ∧ KB F G F' G' ∧ KT F F' ∧ KO F F' ∧ KK F F' ∧ True) := by
  unfold cf_X5_meant
  unfold cb_X5_meant_0
  refine WP.ite (fun c_1 => ?_) (fun c_1 => ?_)
  · skip
    have q_2 := hI.r 45 rfl
    have l_3 : (0 : Int32).toInt = 0 := rfl
    have e_4 := i_eq.mp (show (F 45) = (0 : Int32) from c_1)
    unfold cb_X5_meant_7
    refine WP.ret ?_
    exact ⟨hI, (KB.rf : KB F G F G), (rfl : KT F F), (rfl : KO F F), (rfl : KK F F), trivial⟩
  · skip
    have q_5 := hI.r 45 rfl
    have l_6 : (0 : Int32).toInt = 0 := rfl
    have e_7 := mt i_eq.mpr (show ¬ ((F 45) = (0 : Int32)) from c_1)
    unfold cb_X5_meant_9
    have q_8 := i_rng x1
    refine WP.bind (cs_X5_known hfu x1 F G hI) ?_
    rintro r9 _ _ ⟨rfl, rfl, hp9⟩
    dsimp only
    unfold cb_X5_meant_14
    refine WP.ite (fun c_10 => ?_) (fun c_10 => ?_)
    · skip
      have q_11 := i_rng r9
      have l_12 : (-1 : Int32).toInt = -1 := rfl
      have e_13 := i_eq.mp (show r9 = (-1 : Int32) from c_10)
      unfold cb_X5_meant_20
      have q_14 := i_rng x2
      refine WP.bind (cs_X5_note hfu (0 : Int32) x2 F G hI) ?_
      rintro r15 F15 G15 ⟨hI15, hB15, hT15, hO15, hK15, hp15⟩
      dsimp only
      have q_16 := hI.r 10 rfl
      have q_17 := hI15.r 10 rfl
      have e_18 : (F15 10).toInt = (F 10).toInt := hO15
      unfold cb_X5_meant_26
      refine WP.ret ?_
      exact ⟨hI15, (KB.tr (KB.rf : KB F G F G) hB15), (KT.tr (rfl : KT F F) hT15), (KO.tr (rfl : KO F F) hO15), (KK.tr (rfl : KK F F) hK15), trivial⟩
    · skip
      have q_19 := i_rng r9
      have l_20 : (-1 : Int32).toInt = -1 := rfl
      have e_21 := mt i_eq.mpr (show ¬ (r9 = (-1 : Int32)) from c_10)
      unfold cb_X5_meant_26
      refine WP.ret ?_
      exact ⟨hI, (KB.rf : KB F G F G), (rfl : KT F F), (rfl : KO F F), (rfl : KK F F), trivial⟩
theorem cs_X8_gives {fu : Nat} (hfu : 8589934592 ≤ fu) (x1 : Int32) (F : PF) (G : PG) (hI : CI F G) : WP (cf_X8_gives fu x1 F G) (fun r' F' G' => F = F' ∧ G = G' ∧ (r' = 0 ∨ r' = 1)) := by
  unfold cf_X8_gives
  unfold cb_X8_gives_0
  refine WP.ite (fun c_1 => ?_) (fun c_1 => ?_)
  · skip
    have q_2 := i_rng x1
    have l_3 : (0 : Int32).toInt = 0 := rfl
    have e_4 := i_lt.mp (show x1 < (0 : Int32) from c_1)
    unfold cb_X8_gives_26
    unfold cb_X8_gives_27
    refine WP.bz (show (0 : Int32) = 0 ∨ (0 : Int32) = 1 from (by decide)) ?_
    refine WP.ret ?_
    exact ⟨rfl, rfl, (by decide)⟩
  · skip
    have q_5 := i_rng x1
    have l_6 : (0 : Int32).toInt = 0 := rfl
    have e_7 := mt i_lt.mpr (show ¬ (x1 < (0 : Int32)) from c_1)
    unfold cb_X8_gives_4
    refine WP.ite (fun c_8 => ?_) (fun c_8 => ?_)
    · skip
      have q_9 := hI.r 74 rfl
      have e_10 := i_le.mp (show (F 74) ≤ x1 from c_8)
      unfold cb_X8_gives_26
      unfold cb_X8_gives_27
      refine WP.bz (show (0 : Int32) = 0 ∨ (0 : Int32) = 1 from (by decide)) ?_
      refine WP.ret ?_
      exact ⟨rfl, rfl, (by decide)⟩
    · skip
      have q_11 := hI.r 74 rfl
      have e_12 := mt i_le.mpr (show ¬ ((F 74) ≤ x1) from c_8)
      unfold cb_X8_gives_12
      refine WP.ix (show vp_in x1 450 from vp_in_iff.mpr ⟨by omega, by omega⟩) ?_
      refine WP.ite (fun c_13 => ?_) (fun c_13 => ?_)
      · skip
        have q_14 := i_rng (G 82 x1.toNatClampNeg)
        have l_15 : (1 : Int32).toInt = 1 := rfl
        have e_16 := i_eq.mp (show (G 82 x1.toNatClampNeg) = (1 : Int32) from c_13)
        unfold cb_X8_gives_22
        unfold cb_X8_gives_27
        refine WP.bz (show (1 : Int32) = 0 ∨ (1 : Int32) = 1 from (by decide)) ?_
        refine WP.ret ?_
        exact ⟨rfl, rfl, (by decide)⟩
      · skip
        have q_17 := i_rng (G 82 x1.toNatClampNeg)
        have l_18 : (1 : Int32).toInt = 1 := rfl
        have e_19 := mt i_eq.mpr (show ¬ ((G 82 x1.toNatClampNeg) = (1 : Int32)) from c_13)
        unfold cb_X8_gives_26
        unfold cb_X8_gives_27
        refine WP.bz (show (0 : Int32) = 0 ∨ (0 : Int32) = 1 from (by decide)) ?_
        refine WP.ret ?_
        exact ⟨rfl, rfl, (by decide)⟩
theorem cs_X5_fits {fu : Nat} (hfu : 8589934592 ≤ fu) (x0 : Int32) (x1 : Int32) (F : PF) (G : PG) (hI : CI F G) : WP (cf_X5_fits fu x0 x1 F G) (fun r' F' G' => F = F' ∧ G = G' ∧ (r' = 0 ∨ r' = 1)) := by
  unfold cf_X5_fits
  unfold cb_X5_fits_0
  refine WP.ite (fun c_1 => ?_) (fun c_1 => ?_)
  · skip
    have q_2 := i_rng x1
    have l_3 : (19 : Int32).toInt = 19 := rfl
    have e_4 := i_eq.mp (show x1 = (19 : Int32) from c_1)
    unfold cb_X5_fits_6
    refine WP.ite (fun c_5 => ?_) (fun c_5 => ?_)
    · skip
      have q_6 := i_rng x0
      have l_7 : (4 : Int32).toInt = 4 := rfl
      have e_8 := i_eq.mp (show x0 = (4 : Int32) from c_5)
      unfold cb_X5_fits_11
      unfold cb_X5_fits_16
      have l_9 : (1 : Int32).toInt = 1 := rfl
      refine WP.bz (show (1 : Int32) = 0 ∨ (1 : Int32) = 1 from (by decide)) ?_
      refine WP.ret ?_
      exact ⟨rfl, rfl, (by decide)⟩
    · skip
      have q_10 := i_rng x0
      have l_11 : (4 : Int32).toInt = 4 := rfl
      have e_12 := mt i_eq.mpr (show ¬ (x0 = (4 : Int32)) from c_5)
      unfold cb_X5_fits_15
      unfold cb_X5_fits_16
      have l_13 : (0 : Int32).toInt = 0 := rfl
      refine WP.bz (show (0 : Int32) = 0 ∨ (0 : Int32) = 1 from (by decide)) ?_
      refine WP.ret ?_
      exact ⟨rfl, rfl, (by decide)⟩
  · skip
    have q_14 := i_rng x1
    have l_15 : (19 : Int32).toInt = 19 := rfl
    have e_16 := mt i_eq.mpr (show ¬ (x1 = (19 : Int32)) from c_1)
    unfold cb_X5_fits_17
    refine WP.ite (fun c_17 => ?_) (fun c_17 => ?_)
    · skip
      have l_18 : (21 : Int32).toInt = 21 := rfl
      have e_19 := i_eq.mp (show x1 = (21 : Int32) from c_17)
      unfold cb_X5_fits_23
      refine WP.ite (fun c_20 => ?_) (fun c_20 => ?_)
      · skip
        have q_21 := i_rng x0
        have l_22 : (2 : Int32).toInt = 2 := rfl
        have e_23 := i_eq.mp (show x0 = (2 : Int32) from c_20)
        unfold cb_X5_fits_33
        unfold cb_X5_fits_51
        have l_24 : (1 : Int32).toInt = 1 := rfl
        refine WP.bz (show (1 : Int32) = 0 ∨ (1 : Int32) = 1 from (by decide)) ?_
        refine WP.ret ?_
        exact ⟨rfl, rfl, (by decide)⟩
      · skip
        have q_25 := i_rng x0
        have l_26 : (2 : Int32).toInt = 2 := rfl
        have e_27 := mt i_eq.mpr (show ¬ (x0 = (2 : Int32)) from c_20)
        unfold cb_X5_fits_28
        refine WP.ite (fun c_28 => ?_) (fun c_28 => ?_)
        · skip
          have l_29 : (3 : Int32).toInt = 3 := rfl
          have e_30 := i_eq.mp (show x0 = (3 : Int32) from c_28)
          unfold cb_X5_fits_33
          unfold cb_X5_fits_51
          have l_31 : (1 : Int32).toInt = 1 := rfl
          refine WP.bz (show (1 : Int32) = 0 ∨ (1 : Int32) = 1 from (by decide)) ?_
          refine WP.ret ?_
          exact ⟨rfl, rfl, (by decide)⟩
        · skip
          have l_32 : (3 : Int32).toInt = 3 := rfl
          have e_33 := mt i_eq.mpr (show ¬ (x0 = (3 : Int32)) from c_28)
          unfold cb_X5_fits_37
          unfold cb_X5_fits_51
          have l_34 : (0 : Int32).toInt = 0 := rfl
          refine WP.bz (show (0 : Int32) = 0 ∨ (0 : Int32) = 1 from (by decide)) ?_
          refine WP.ret ?_
          exact ⟨rfl, rfl, (by decide)⟩
    · skip
      have l_35 : (21 : Int32).toInt = 21 := rfl
      have e_36 := mt i_eq.mpr (show ¬ (x1 = (21 : Int32)) from c_17)
      unfold cb_X5_fits_41
      refine WP.ite (fun c_37 => ?_) (fun c_37 => ?_)
      · skip
        have q_38 := i_rng x0
        have l_39 : (1 : Int32).toInt = 1 := rfl
        have e_40 := i_eq.mp (show x0 = (1 : Int32) from c_37)
        unfold cb_X5_fits_46
        unfold cb_X5_fits_51
        refine WP.bz (show (1 : Int32) = 0 ∨ (1 : Int32) = 1 from (by decide)) ?_
        refine WP.ret ?_
        exact ⟨rfl, rfl, (by decide)⟩
      · skip
        have q_41 := i_rng x0
        have l_42 : (1 : Int32).toInt = 1 := rfl
        have e_43 := mt i_eq.mpr (show ¬ (x0 = (1 : Int32)) from c_37)
        unfold cb_X5_fits_50
        unfold cb_X5_fits_51
        have l_44 : (0 : Int32).toInt = 0 := rfl
        refine WP.bz (show (0 : Int32) = 0 ∨ (0 : Int32) = 1 from (by decide)) ?_
        refine WP.ret ?_
        exact ⟨rfl, rfl, (by decide)⟩
theorem cs_X5_wantValue {fu : Nat} (hfu : 8589934592 ≤ fu) (x1 : Int32) (x2 : Int32) (x3 : Int32) (F : PF) (G : PG) (hI : CI F G) : WP (cf_X5_wantValue fu x1 x2 x3 F G) (fun r' F' G' => CI F' G' ∧ KB F G F' G' ∧ KT F F' ∧ KO F F' ∧ KK F F' ∧ True) := by
  unfold cf_X5_wantValue
  unfold cb_X5_wantValue_0
  have q_1 := i_rng x1
  refine WP.bind (cs_X5_kind hfu x1 F G hI) ?_
  rintro r2 _ _ ⟨rfl, rfl, hp2⟩
  dsimp only
  have q_3 := i_rng r2
  unfold cb_X5_wantValue_5
  refine WP.ite (fun c_4 => ?_) (fun c_4 => ?_)
  · skip
    have l_5 : (-1 : Int32).toInt = -1 := rfl
    have e_6 := i_eq.mp (show r2 = (-1 : Int32) from c_4)
    unfold cb_X5_wantValue_13
    refine WP.ret ?_
    exact ⟨hI, (KB.rf : KB F G F G), (rfl : KT F F), (rfl : KO F F), (rfl : KK F F), trivial⟩
  · skip
    have l_7 : (-1 : Int32).toInt = -1 := rfl
    have e_8 := mt i_eq.mpr (show ¬ (r2 = (-1 : Int32)) from c_4)
    unfold cb_X5_wantValue_14
    refine WP.ite (fun c_9 => ?_) (fun c_9 => ?_)
    · skip
      have q_10 := hI.r 46 rfl
      have l_11 : (0 : Int32).toInt = 0 := rfl
      have e_12 := i_eq.mp (show (F 46) = (0 : Int32) from c_9)
      unfold cb_X5_wantValue_45
      refine WP.ite (fun c_13 => ?_) (fun c_13 => ?_)
      · skip
        have e_14 := i_eq.mp (show (F 46) = (0 : Int32) from c_13)
        unfold cb_X5_wantValue_52
        refine WP.ite (fun c_15 => ?_) (fun c_15 => ?_)
        · skip
          have e_16 := i_eq.mp (show r2 = (0 : Int32) from c_15)
          unfold cb_X5_wantValue_57
          unfold cb_X5_wantValue_63
          have l_17 : (1 : Int32).toInt = 1 := rfl
          have q_18 := i_rng x3
          refine WP.bind (cs_X5_fits hfu (1 : Int32) x3 F G hI) ?_
          rintro r19 _ _ ⟨rfl, rfl, hp19⟩
          dsimp only
          have q_20 := b_rng hp19
          unfold cb_X5_wantValue_67
          refine WP.ite (fun c_21 => ?_) (fun c_21 => ?_)
          · skip
            have e_22 := i_eq.mp (show r19 = (0 : Int32) from c_21)
            unfold cb_X5_wantValue_70
            have l_23 : (4 : Int32).toInt = 4 := rfl
            have q_24 := i_rng x2
            refine WP.bind (cs_X5_note hfu (4 : Int32) x2 F G hI) ?_
            rintro r25 F25 G25 ⟨hI25, hB25, hT25, hO25, hK25, hp25⟩
            dsimp only
            have q_26 := hI.r 10 rfl
            have q_27 := hI25.r 10 rfl
            have e_28 : (F25 10).toInt = (F 10).toInt := hO25
            unfold cb_X5_wantValue_76
            refine WP.ite (fun c_29 => ?_) (fun c_29 => ?_)
            · skip
              have e_30 := i_eq.mp (show r2 = (4 : Int32) from c_29)
              unfold cb_X5_wantValue_82
              refine WP.ix (show vp_in x1 700 from vp_in_iff.mpr ⟨by omega, by omega⟩) ?_
              have q_31 := i_rng (G25 37 x1.toNatClampNeg)
              refine WP.bind (cs_X8_gives hfu (G25 37 x1.toNatClampNeg) F25 G25 hI25) ?_
              rintro r32 _ _ ⟨rfl, rfl, hp32⟩
              dsimp only
              have q_33 := b_rng hp32
              unfold cb_X5_wantValue_95
              refine WP.ite (fun c_34 => ?_) (fun c_34 => ?_)
              · skip
                have e_35 := i_eq.mp (show r32 = (0 : Int32) from c_34)
                unfold cb_X5_wantValue_98
                have l_36 : (5 : Int32).toInt = 5 := rfl
                refine WP.bind (cs_X5_note hfu (5 : Int32) x2 F25 G25 hI25) ?_
                rintro r37 F37 G37 ⟨hI37, hB37, hT37, hO37, hK37, hp37⟩
                dsimp only
                have q_38 := hI37.r 10 rfl
                have e_39 : (F37 10).toInt = (F25 10).toInt := hO37
                unfold cb_X5_wantValue_104
                refine WP.ret ?_
                exact ⟨hI37, (KB.tr (KB.tr (KB.rf : KB F G F G) hB25) hB37), (KT.tr (KT.tr (rfl : KT F F) hT25) hT37), (KO.tr (KO.tr (rfl : KO F F) hO25) hO37), (KK.tr (KK.tr (rfl : KK F F) hK25) hK37), trivial⟩
              · skip
                have e_40 := mt i_eq.mpr (show ¬ (r32 = (0 : Int32)) from c_34)
                unfold cb_X5_wantValue_104
                refine WP.ret ?_
                exact ⟨hI25, (KB.tr (KB.rf : KB F G F G) hB25), (KT.tr (rfl : KT F F) hT25), (KO.tr (rfl : KO F F) hO25), (KK.tr (rfl : KK F F) hK25), trivial⟩
            · skip
              have e_41 := mt i_eq.mpr (show ¬ (r2 = (4 : Int32)) from c_29)
              unfold cb_X5_wantValue_104
              refine WP.ret ?_
              exact ⟨hI25, (KB.tr (KB.rf : KB F G F G) hB25), (KT.tr (rfl : KT F F) hT25), (KO.tr (rfl : KO F F) hO25), (KK.tr (rfl : KK F F) hK25), trivial⟩
          · skip
            have e_42 := mt i_eq.mpr (show ¬ (r19 = (0 : Int32)) from c_21)
            unfold cb_X5_wantValue_76
            refine WP.ite (fun c_43 => ?_) (fun c_43 => ?_)
            · skip
              have l_44 : (4 : Int32).toInt = 4 := rfl
              have e_45 := i_eq.mp (show r2 = (4 : Int32) from c_43)
              unfold cb_X5_wantValue_82
              refine WP.ix (show vp_in x1 700 from vp_in_iff.mpr ⟨by omega, by omega⟩) ?_
              have q_46 := i_rng (G 37 x1.toNatClampNeg)
              refine WP.bind (cs_X8_gives hfu (G 37 x1.toNatClampNeg) F G hI) ?_
              rintro r47 _ _ ⟨rfl, rfl, hp47⟩
              dsimp only
              have q_48 := b_rng hp47
              unfold cb_X5_wantValue_95
              refine WP.ite (fun c_49 => ?_) (fun c_49 => ?_)
              · skip
                have e_50 := i_eq.mp (show r47 = (0 : Int32) from c_49)
                unfold cb_X5_wantValue_98
                have l_51 : (5 : Int32).toInt = 5 := rfl
                have q_52 := i_rng x2
                refine WP.bind (cs_X5_note hfu (5 : Int32) x2 F G hI) ?_
                rintro r53 F53 G53 ⟨hI53, hB53, hT53, hO53, hK53, hp53⟩
                dsimp only
                have q_54 := hI.r 10 rfl
                have q_55 := hI53.r 10 rfl
                have e_56 : (F53 10).toInt = (F 10).toInt := hO53
                unfold cb_X5_wantValue_104
                refine WP.ret ?_
                exact ⟨hI53, (KB.tr (KB.rf : KB F G F G) hB53), (KT.tr (rfl : KT F F) hT53), (KO.tr (rfl : KO F F) hO53), (KK.tr (rfl : KK F F) hK53), trivial⟩
              · skip
                have e_57 := mt i_eq.mpr (show ¬ (r47 = (0 : Int32)) from c_49)
                unfold cb_X5_wantValue_104
                refine WP.ret ?_
                exact ⟨hI, (KB.rf : KB F G F G), (rfl : KT F F), (rfl : KO F F), (rfl : KK F F), trivial⟩
            · skip
              have l_58 : (4 : Int32).toInt = 4 := rfl
              have e_59 := mt i_eq.mpr (show ¬ (r2 = (4 : Int32)) from c_43)
              unfold cb_X5_wantValue_104
              refine WP.ret ?_
              exact ⟨hI, (KB.rf : KB F G F G), (rfl : KT F F), (rfl : KO F F), (rfl : KK F F), trivial⟩
        · skip
          have e_60 := mt i_eq.mpr (show ¬ (r2 = (0 : Int32)) from c_15)
          unfold cb_X5_wantValue_61
          unfold cb_X5_wantValue_63
          have q_61 := i_rng x3
          refine WP.bind (cs_X5_fits hfu r2 x3 F G hI) ?_
          rintro r62 _ _ ⟨rfl, rfl, hp62⟩
          dsimp only
          have q_63 := b_rng hp62
          unfold cb_X5_wantValue_67
          refine WP.ite (fun c_64 => ?_) (fun c_64 => ?_)
          · skip
            have e_65 := i_eq.mp (show r62 = (0 : Int32) from c_64)
            unfold cb_X5_wantValue_70
            have l_66 : (4 : Int32).toInt = 4 := rfl
            have q_67 := i_rng x2
            refine WP.bind (cs_X5_note hfu (4 : Int32) x2 F G hI) ?_
            rintro r68 F68 G68 ⟨hI68, hB68, hT68, hO68, hK68, hp68⟩
            dsimp only
            have q_69 := hI.r 10 rfl
            have q_70 := hI68.r 10 rfl
            have e_71 : (F68 10).toInt = (F 10).toInt := hO68
            unfold cb_X5_wantValue_76
            refine WP.ite (fun c_72 => ?_) (fun c_72 => ?_)
            · skip
              have e_73 := i_eq.mp (show r2 = (4 : Int32) from c_72)
              unfold cb_X5_wantValue_82
              refine WP.ix (show vp_in x1 700 from vp_in_iff.mpr ⟨by omega, by omega⟩) ?_
              have q_74 := i_rng (G68 37 x1.toNatClampNeg)
              refine WP.bind (cs_X8_gives hfu (G68 37 x1.toNatClampNeg) F68 G68 hI68) ?_
              rintro r75 _ _ ⟨rfl, rfl, hp75⟩
              dsimp only
              have q_76 := b_rng hp75
              unfold cb_X5_wantValue_95
              refine WP.ite (fun c_77 => ?_) (fun c_77 => ?_)
              · skip
                have e_78 := i_eq.mp (show r75 = (0 : Int32) from c_77)
                unfold cb_X5_wantValue_98
                have l_79 : (5 : Int32).toInt = 5 := rfl
                refine WP.bind (cs_X5_note hfu (5 : Int32) x2 F68 G68 hI68) ?_
                rintro r80 F80 G80 ⟨hI80, hB80, hT80, hO80, hK80, hp80⟩
                dsimp only
                have q_81 := hI80.r 10 rfl
                have e_82 : (F80 10).toInt = (F68 10).toInt := hO80
                unfold cb_X5_wantValue_104
                refine WP.ret ?_
                exact ⟨hI80, (KB.tr (KB.tr (KB.rf : KB F G F G) hB68) hB80), (KT.tr (KT.tr (rfl : KT F F) hT68) hT80), (KO.tr (KO.tr (rfl : KO F F) hO68) hO80), (KK.tr (KK.tr (rfl : KK F F) hK68) hK80), trivial⟩
              · skip
                have e_83 := mt i_eq.mpr (show ¬ (r75 = (0 : Int32)) from c_77)
                unfold cb_X5_wantValue_104
                refine WP.ret ?_
                exact ⟨hI68, (KB.tr (KB.rf : KB F G F G) hB68), (KT.tr (rfl : KT F F) hT68), (KO.tr (rfl : KO F F) hO68), (KK.tr (rfl : KK F F) hK68), trivial⟩
            · skip
              have e_84 := mt i_eq.mpr (show ¬ (r2 = (4 : Int32)) from c_72)
              unfold cb_X5_wantValue_104
              refine WP.ret ?_
              exact ⟨hI68, (KB.tr (KB.rf : KB F G F G) hB68), (KT.tr (rfl : KT F F) hT68), (KO.tr (rfl : KO F F) hO68), (KK.tr (rfl : KK F F) hK68), trivial⟩
          · skip
            have e_85 := mt i_eq.mpr (show ¬ (r62 = (0 : Int32)) from c_64)
            unfold cb_X5_wantValue_76
            refine WP.ite (fun c_86 => ?_) (fun c_86 => ?_)
            · skip
              have l_87 : (4 : Int32).toInt = 4 := rfl
              have e_88 := i_eq.mp (show r2 = (4 : Int32) from c_86)
              unfold cb_X5_wantValue_82
              refine WP.ix (show vp_in x1 700 from vp_in_iff.mpr ⟨by omega, by omega⟩) ?_
              have q_89 := i_rng (G 37 x1.toNatClampNeg)
              refine WP.bind (cs_X8_gives hfu (G 37 x1.toNatClampNeg) F G hI) ?_
              rintro r90 _ _ ⟨rfl, rfl, hp90⟩
              dsimp only
              have q_91 := b_rng hp90
              unfold cb_X5_wantValue_95
              refine WP.ite (fun c_92 => ?_) (fun c_92 => ?_)
              · skip
                have e_93 := i_eq.mp (show r90 = (0 : Int32) from c_92)
                unfold cb_X5_wantValue_98
                have l_94 : (5 : Int32).toInt = 5 := rfl
                have q_95 := i_rng x2
                refine WP.bind (cs_X5_note hfu (5 : Int32) x2 F G hI) ?_
                rintro r96 F96 G96 ⟨hI96, hB96, hT96, hO96, hK96, hp96⟩
                dsimp only
                have q_97 := hI.r 10 rfl
                have q_98 := hI96.r 10 rfl
                have e_99 : (F96 10).toInt = (F 10).toInt := hO96
                unfold cb_X5_wantValue_104
                refine WP.ret ?_
                exact ⟨hI96, (KB.tr (KB.rf : KB F G F G) hB96), (KT.tr (rfl : KT F F) hT96), (KO.tr (rfl : KO F F) hO96), (KK.tr (rfl : KK F F) hK96), trivial⟩
              · skip
                have e_100 := mt i_eq.mpr (show ¬ (r90 = (0 : Int32)) from c_92)
                unfold cb_X5_wantValue_104
                refine WP.ret ?_
                exact ⟨hI, (KB.rf : KB F G F G), (rfl : KT F F), (rfl : KO F F), (rfl : KK F F), trivial⟩
            · skip
              have l_101 : (4 : Int32).toInt = 4 := rfl
              have e_102 := mt i_eq.mpr (show ¬ (r2 = (4 : Int32)) from c_86)
              unfold cb_X5_wantValue_104
              refine WP.ret ?_
              exact ⟨hI, (KB.rf : KB F G F G), (rfl : KT F F), (rfl : KO F F), (rfl : KK F F), trivial⟩
      · skip
        have e_103 := mt i_eq.mpr (show ¬ ((F 46) = (0 : Int32)) from c_13)
        unfold cb_X5_wantValue_76
        refine WP.ite (fun c_104 => ?_) (fun c_104 => ?_)
        · skip
          have l_105 : (4 : Int32).toInt = 4 := rfl
          have e_106 := i_eq.mp (show r2 = (4 : Int32) from c_104)
          unfold cb_X5_wantValue_82
          refine WP.ix (show vp_in x1 700 from vp_in_iff.mpr ⟨by omega, by omega⟩) ?_
          have q_107 := i_rng (G 37 x1.toNatClampNeg)
          refine WP.bind (cs_X8_gives hfu (G 37 x1.toNatClampNeg) F G hI) ?_
          rintro r108 _ _ ⟨rfl, rfl, hp108⟩
          dsimp only
          have q_109 := b_rng hp108
          unfold cb_X5_wantValue_95
          refine WP.ite (fun c_110 => ?_) (fun c_110 => ?_)
          · skip
            have e_111 := i_eq.mp (show r108 = (0 : Int32) from c_110)
            unfold cb_X5_wantValue_98
            have l_112 : (5 : Int32).toInt = 5 := rfl
            have q_113 := i_rng x2
            refine WP.bind (cs_X5_note hfu (5 : Int32) x2 F G hI) ?_
            rintro r114 F114 G114 ⟨hI114, hB114, hT114, hO114, hK114, hp114⟩
            dsimp only
            have q_115 := hI.r 10 rfl
            have q_116 := hI114.r 10 rfl
            have e_117 : (F114 10).toInt = (F 10).toInt := hO114
            unfold cb_X5_wantValue_104
            refine WP.ret ?_
            exact ⟨hI114, (KB.tr (KB.rf : KB F G F G) hB114), (KT.tr (rfl : KT F F) hT114), (KO.tr (rfl : KO F F) hO114), (KK.tr (rfl : KK F F) hK114), trivial⟩
          · skip
            have e_118 := mt i_eq.mpr (show ¬ (r108 = (0 : Int32)) from c_110)
            unfold cb_X5_wantValue_104
            refine WP.ret ?_
            exact ⟨hI, (KB.rf : KB F G F G), (rfl : KT F F), (rfl : KO F F), (rfl : KK F F), trivial⟩
        · skip
          have l_119 : (4 : Int32).toInt = 4 := rfl
          have e_120 := mt i_eq.mpr (show ¬ (r2 = (4 : Int32)) from c_104)
          unfold cb_X5_wantValue_104
          refine WP.ret ?_
          exact ⟨hI, (KB.rf : KB F G F G), (rfl : KT F F), (rfl : KO F F), (rfl : KK F F), trivial⟩
    · skip
      have q_121 := hI.r 46 rfl
      have l_122 : (0 : Int32).toInt = 0 := rfl
      have e_123 := mt i_eq.mpr (show ¬ ((F 46) = (0 : Int32)) from c_9)
      unfold cb_X5_wantValue_21
      refine WP.ite (fun c_124 => ?_) (fun c_124 => ?_)
      · skip
        have e_125 := i_eq.mp (show r2 = (0 : Int32) from c_124)
        unfold cb_X5_wantValue_26
        refine WP.ite (fun c_126 => ?_) (fun c_126 => ?_)
        · skip
          have q_127 := i_rng x3
          have l_128 : (19 : Int32).toInt = 19 := rfl
          have e_129 := i_eq.mp (show x3 = (19 : Int32) from c_126)
          unfold cb_X5_wantValue_38
          have l_130 : (7 : Int32).toInt = 7 := rfl
          have q_131 := i_rng x2
          refine WP.bind (cs_X5_note hfu (7 : Int32) x2 F G hI) ?_
          rintro r132 F132 G132 ⟨hI132, hB132, hT132, hO132, hK132, hp132⟩
          dsimp only
          have q_133 := hI.r 10 rfl
          have q_134 := hI132.r 10 rfl
          have e_135 : (F132 10).toInt = (F 10).toInt := hO132
          unfold cb_X5_wantValue_45
          refine WP.ite (fun c_136 => ?_) (fun c_136 => ?_)
          · skip
            have q_137 := hI132.r 46 rfl
            have e_138 := i_eq.mp (show (F132 46) = (0 : Int32) from c_136)
            unfold cb_X5_wantValue_52
            refine WP.ite (fun c_139 => ?_) (fun c_139 => ?_)
            · skip
              have e_140 := i_eq.mp (show r2 = (0 : Int32) from c_139)
              unfold cb_X5_wantValue_57
              unfold cb_X5_wantValue_63
              have l_141 : (1 : Int32).toInt = 1 := rfl
              refine WP.bind (cs_X5_fits hfu (1 : Int32) x3 F132 G132 hI132) ?_
              rintro r142 _ _ ⟨rfl, rfl, hp142⟩
              dsimp only
              have q_143 := b_rng hp142
              unfold cb_X5_wantValue_67
              refine WP.ite (fun c_144 => ?_) (fun c_144 => ?_)
              · skip
                have e_145 := i_eq.mp (show r142 = (0 : Int32) from c_144)
                unfold cb_X5_wantValue_70
                have l_146 : (4 : Int32).toInt = 4 := rfl
                refine WP.bind (cs_X5_note hfu (4 : Int32) x2 F132 G132 hI132) ?_
                rintro r147 F147 G147 ⟨hI147, hB147, hT147, hO147, hK147, hp147⟩
                dsimp only
                have q_148 := hI147.r 10 rfl
                have e_149 : (F147 10).toInt = (F132 10).toInt := hO147
                unfold cb_X5_wantValue_76
                refine WP.ite (fun c_150 => ?_) (fun c_150 => ?_)
                · skip
                  have e_151 := i_eq.mp (show r2 = (4 : Int32) from c_150)
                  unfold cb_X5_wantValue_82
                  refine WP.ix (show vp_in x1 700 from vp_in_iff.mpr ⟨by omega, by omega⟩) ?_
                  have q_152 := i_rng (G147 37 x1.toNatClampNeg)
                  refine WP.bind (cs_X8_gives hfu (G147 37 x1.toNatClampNeg) F147 G147 hI147) ?_
                  rintro r153 _ _ ⟨rfl, rfl, hp153⟩
                  dsimp only
                  have q_154 := b_rng hp153
                  unfold cb_X5_wantValue_95
                  refine WP.ite (fun c_155 => ?_) (fun c_155 => ?_)
                  · skip
                    have e_156 := i_eq.mp (show r153 = (0 : Int32) from c_155)
                    unfold cb_X5_wantValue_98
                    have l_157 : (5 : Int32).toInt = 5 := rfl
                    refine WP.bind (cs_X5_note hfu (5 : Int32) x2 F147 G147 hI147) ?_
                    rintro r158 F158 G158 ⟨hI158, hB158, hT158, hO158, hK158, hp158⟩
                    dsimp only
                    have q_159 := hI158.r 10 rfl
                    have e_160 : (F158 10).toInt = (F147 10).toInt := hO158
                    unfold cb_X5_wantValue_104
                    refine WP.ret ?_
                    exact ⟨hI158, (KB.tr (KB.tr (KB.tr (KB.rf : KB F G F G) hB132) hB147) hB158), (KT.tr (KT.tr (KT.tr (rfl : KT F F) hT132) hT147) hT158), (KO.tr (KO.tr (KO.tr (rfl : KO F F) hO132) hO147) hO158), (KK.tr (KK.tr (KK.tr (rfl : KK F F) hK132) hK147) hK158), trivial⟩
                  · skip
                    have e_161 := mt i_eq.mpr (show ¬ (r153 = (0 : Int32)) from c_155)
                    unfold cb_X5_wantValue_104
                    refine WP.ret ?_
                    exact ⟨hI147, (KB.tr (KB.tr (KB.rf : KB F G F G) hB132) hB147), (KT.tr (KT.tr (rfl : KT F F) hT132) hT147), (KO.tr (KO.tr (rfl : KO F F) hO132) hO147), (KK.tr (KK.tr (rfl : KK F F) hK132) hK147), trivial⟩
                · skip
                  have e_162 := mt i_eq.mpr (show ¬ (r2 = (4 : Int32)) from c_150)
                  unfold cb_X5_wantValue_104
                  refine WP.ret ?_
                  exact ⟨hI147, (KB.tr (KB.tr (KB.rf : KB F G F G) hB132) hB147), (KT.tr (KT.tr (rfl : KT F F) hT132) hT147), (KO.tr (KO.tr (rfl : KO F F) hO132) hO147), (KK.tr (KK.tr (rfl : KK F F) hK132) hK147), trivial⟩
              · skip
                have e_163 := mt i_eq.mpr (show ¬ (r142 = (0 : Int32)) from c_144)
                unfold cb_X5_wantValue_76
                refine WP.ite (fun c_164 => ?_) (fun c_164 => ?_)
                · skip
                  have l_165 : (4 : Int32).toInt = 4 := rfl
                  have e_166 := i_eq.mp (show r2 = (4 : Int32) from c_164)
                  unfold cb_X5_wantValue_82
                  refine WP.ix (show vp_in x1 700 from vp_in_iff.mpr ⟨by omega, by omega⟩) ?_
                  have q_167 := i_rng (G132 37 x1.toNatClampNeg)
                  refine WP.bind (cs_X8_gives hfu (G132 37 x1.toNatClampNeg) F132 G132 hI132) ?_
                  rintro r168 _ _ ⟨rfl, rfl, hp168⟩
                  dsimp only
                  have q_169 := b_rng hp168
                  unfold cb_X5_wantValue_95
                  refine WP.ite (fun c_170 => ?_) (fun c_170 => ?_)
                  · skip
                    have e_171 := i_eq.mp (show r168 = (0 : Int32) from c_170)
                    unfold cb_X5_wantValue_98
                    have l_172 : (5 : Int32).toInt = 5 := rfl
                    refine WP.bind (cs_X5_note hfu (5 : Int32) x2 F132 G132 hI132) ?_
                    rintro r173 F173 G173 ⟨hI173, hB173, hT173, hO173, hK173, hp173⟩
                    dsimp only
                    have q_174 := hI173.r 10 rfl
                    have e_175 : (F173 10).toInt = (F132 10).toInt := hO173
                    unfold cb_X5_wantValue_104
                    refine WP.ret ?_
                    exact ⟨hI173, (KB.tr (KB.tr (KB.rf : KB F G F G) hB132) hB173), (KT.tr (KT.tr (rfl : KT F F) hT132) hT173), (KO.tr (KO.tr (rfl : KO F F) hO132) hO173), (KK.tr (KK.tr (rfl : KK F F) hK132) hK173), trivial⟩
                  · skip
                    have e_176 := mt i_eq.mpr (show ¬ (r168 = (0 : Int32)) from c_170)
                    unfold cb_X5_wantValue_104
                    refine WP.ret ?_
                    exact ⟨hI132, (KB.tr (KB.rf : KB F G F G) hB132), (KT.tr (rfl : KT F F) hT132), (KO.tr (rfl : KO F F) hO132), (KK.tr (rfl : KK F F) hK132), trivial⟩
                · skip
                  have l_177 : (4 : Int32).toInt = 4 := rfl
                  have e_178 := mt i_eq.mpr (show ¬ (r2 = (4 : Int32)) from c_164)
                  unfold cb_X5_wantValue_104
                  refine WP.ret ?_
                  exact ⟨hI132, (KB.tr (KB.rf : KB F G F G) hB132), (KT.tr (rfl : KT F F) hT132), (KO.tr (rfl : KO F F) hO132), (KK.tr (rfl : KK F F) hK132), trivial⟩
            · skip
              have e_179 := mt i_eq.mpr (show ¬ (r2 = (0 : Int32)) from c_139)
              unfold cb_X5_wantValue_61
              unfold cb_X5_wantValue_63
              refine WP.bind (cs_X5_fits hfu r2 x3 F132 G132 hI132) ?_
              rintro r180 _ _ ⟨rfl, rfl, hp180⟩
              dsimp only
              have q_181 := b_rng hp180
              unfold cb_X5_wantValue_67
              refine WP.ite (fun c_182 => ?_) (fun c_182 => ?_)
              · skip
                have e_183 := i_eq.mp (show r180 = (0 : Int32) from c_182)
                unfold cb_X5_wantValue_70
                have l_184 : (4 : Int32).toInt = 4 := rfl
                refine WP.bind (cs_X5_note hfu (4 : Int32) x2 F132 G132 hI132) ?_
                rintro r185 F185 G185 ⟨hI185, hB185, hT185, hO185, hK185, hp185⟩
                dsimp only
                have q_186 := hI185.r 10 rfl
                have e_187 : (F185 10).toInt = (F132 10).toInt := hO185
                unfold cb_X5_wantValue_76
                refine WP.ite (fun c_188 => ?_) (fun c_188 => ?_)
                · skip
                  have e_189 := i_eq.mp (show r2 = (4 : Int32) from c_188)
                  unfold cb_X5_wantValue_82
                  refine WP.ix (show vp_in x1 700 from vp_in_iff.mpr ⟨by omega, by omega⟩) ?_
                  have q_190 := i_rng (G185 37 x1.toNatClampNeg)
                  refine WP.bind (cs_X8_gives hfu (G185 37 x1.toNatClampNeg) F185 G185 hI185) ?_
                  rintro r191 _ _ ⟨rfl, rfl, hp191⟩
                  dsimp only
                  have q_192 := b_rng hp191
                  unfold cb_X5_wantValue_95
                  refine WP.ite (fun c_193 => ?_) (fun c_193 => ?_)
                  · skip
                    have e_194 := i_eq.mp (show r191 = (0 : Int32) from c_193)
                    unfold cb_X5_wantValue_98
                    have l_195 : (5 : Int32).toInt = 5 := rfl
                    refine WP.bind (cs_X5_note hfu (5 : Int32) x2 F185 G185 hI185) ?_
                    rintro r196 F196 G196 ⟨hI196, hB196, hT196, hO196, hK196, hp196⟩
                    dsimp only
                    have q_197 := hI196.r 10 rfl
                    have e_198 : (F196 10).toInt = (F185 10).toInt := hO196
                    unfold cb_X5_wantValue_104
                    refine WP.ret ?_
                    exact ⟨hI196, (KB.tr (KB.tr (KB.tr (KB.rf : KB F G F G) hB132) hB185) hB196), (KT.tr (KT.tr (KT.tr (rfl : KT F F) hT132) hT185) hT196), (KO.tr (KO.tr (KO.tr (rfl : KO F F) hO132) hO185) hO196), (KK.tr (KK.tr (KK.tr (rfl : KK F F) hK132) hK185) hK196), trivial⟩
                  · skip
                    have e_199 := mt i_eq.mpr (show ¬ (r191 = (0 : Int32)) from c_193)
                    unfold cb_X5_wantValue_104
                    refine WP.ret ?_
                    exact ⟨hI185, (KB.tr (KB.tr (KB.rf : KB F G F G) hB132) hB185), (KT.tr (KT.tr (rfl : KT F F) hT132) hT185), (KO.tr (KO.tr (rfl : KO F F) hO132) hO185), (KK.tr (KK.tr (rfl : KK F F) hK132) hK185), trivial⟩
                · skip
                  have e_200 := mt i_eq.mpr (show ¬ (r2 = (4 : Int32)) from c_188)
                  unfold cb_X5_wantValue_104
                  refine WP.ret ?_
                  exact ⟨hI185, (KB.tr (KB.tr (KB.rf : KB F G F G) hB132) hB185), (KT.tr (KT.tr (rfl : KT F F) hT132) hT185), (KO.tr (KO.tr (rfl : KO F F) hO132) hO185), (KK.tr (KK.tr (rfl : KK F F) hK132) hK185), trivial⟩
              · skip
                have e_201 := mt i_eq.mpr (show ¬ (r180 = (0 : Int32)) from c_182)
                unfold cb_X5_wantValue_76
                refine WP.ite (fun c_202 => ?_) (fun c_202 => ?_)
                · skip
                  have l_203 : (4 : Int32).toInt = 4 := rfl
                  have e_204 := i_eq.mp (show r2 = (4 : Int32) from c_202)
                  unfold cb_X5_wantValue_82
                  refine WP.ix (show vp_in x1 700 from vp_in_iff.mpr ⟨by omega, by omega⟩) ?_
                  have q_205 := i_rng (G132 37 x1.toNatClampNeg)
                  refine WP.bind (cs_X8_gives hfu (G132 37 x1.toNatClampNeg) F132 G132 hI132) ?_
                  rintro r206 _ _ ⟨rfl, rfl, hp206⟩
                  dsimp only
                  have q_207 := b_rng hp206
                  unfold cb_X5_wantValue_95
                  refine WP.ite (fun c_208 => ?_) (fun c_208 => ?_)
                  · skip
                    have e_209 := i_eq.mp (show r206 = (0 : Int32) from c_208)
                    unfold cb_X5_wantValue_98
                    have l_210 : (5 : Int32).toInt = 5 := rfl
                    refine WP.bind (cs_X5_note hfu (5 : Int32) x2 F132 G132 hI132) ?_
                    rintro r211 F211 G211 ⟨hI211, hB211, hT211, hO211, hK211, hp211⟩
                    dsimp only
                    have q_212 := hI211.r 10 rfl
                    have e_213 : (F211 10).toInt = (F132 10).toInt := hO211
                    unfold cb_X5_wantValue_104
                    refine WP.ret ?_
                    exact ⟨hI211, (KB.tr (KB.tr (KB.rf : KB F G F G) hB132) hB211), (KT.tr (KT.tr (rfl : KT F F) hT132) hT211), (KO.tr (KO.tr (rfl : KO F F) hO132) hO211), (KK.tr (KK.tr (rfl : KK F F) hK132) hK211), trivial⟩
                  · skip
                    have e_214 := mt i_eq.mpr (show ¬ (r206 = (0 : Int32)) from c_208)
                    unfold cb_X5_wantValue_104
                    refine WP.ret ?_
                    exact ⟨hI132, (KB.tr (KB.rf : KB F G F G) hB132), (KT.tr (rfl : KT F F) hT132), (KO.tr (rfl : KO F F) hO132), (KK.tr (rfl : KK F F) hK132), trivial⟩
                · skip
                  have l_215 : (4 : Int32).toInt = 4 := rfl
                  have e_216 := mt i_eq.mpr (show ¬ (r2 = (4 : Int32)) from c_202)
                  unfold cb_X5_wantValue_104
                  refine WP.ret ?_
                  exact ⟨hI132, (KB.tr (KB.rf : KB F G F G) hB132), (KT.tr (rfl : KT F F) hT132), (KO.tr (rfl : KO F F) hO132), (KK.tr (rfl : KK F F) hK132), trivial⟩
          · skip
            have q_217 := hI132.r 46 rfl
            have e_218 := mt i_eq.mpr (show ¬ ((F132 46) = (0 : Int32)) from c_136)
            unfold cb_X5_wantValue_76
            refine WP.ite (fun c_219 => ?_) (fun c_219 => ?_)
            · skip
              have l_220 : (4 : Int32).toInt = 4 := rfl
              have e_221 := i_eq.mp (show r2 = (4 : Int32) from c_219)
              unfold cb_X5_wantValue_82
              refine WP.ix (show vp_in x1 700 from vp_in_iff.mpr ⟨by omega, by omega⟩) ?_
              have q_222 := i_rng (G132 37 x1.toNatClampNeg)
              refine WP.bind (cs_X8_gives hfu (G132 37 x1.toNatClampNeg) F132 G132 hI132) ?_
              rintro r223 _ _ ⟨rfl, rfl, hp223⟩
              dsimp only
              have q_224 := b_rng hp223
              unfold cb_X5_wantValue_95
              refine WP.ite (fun c_225 => ?_) (fun c_225 => ?_)
              · skip
                have e_226 := i_eq.mp (show r223 = (0 : Int32) from c_225)
                unfold cb_X5_wantValue_98
                have l_227 : (5 : Int32).toInt = 5 := rfl
                refine WP.bind (cs_X5_note hfu (5 : Int32) x2 F132 G132 hI132) ?_
                rintro r228 F228 G228 ⟨hI228, hB228, hT228, hO228, hK228, hp228⟩
                dsimp only
                have q_229 := hI228.r 10 rfl
                have e_230 : (F228 10).toInt = (F132 10).toInt := hO228
                unfold cb_X5_wantValue_104
                refine WP.ret ?_
                exact ⟨hI228, (KB.tr (KB.tr (KB.rf : KB F G F G) hB132) hB228), (KT.tr (KT.tr (rfl : KT F F) hT132) hT228), (KO.tr (KO.tr (rfl : KO F F) hO132) hO228), (KK.tr (KK.tr (rfl : KK F F) hK132) hK228), trivial⟩
              · skip
                have e_231 := mt i_eq.mpr (show ¬ (r223 = (0 : Int32)) from c_225)
                unfold cb_X5_wantValue_104
                refine WP.ret ?_
                exact ⟨hI132, (KB.tr (KB.rf : KB F G F G) hB132), (KT.tr (rfl : KT F F) hT132), (KO.tr (rfl : KO F F) hO132), (KK.tr (rfl : KK F F) hK132), trivial⟩
            · skip
              have l_232 : (4 : Int32).toInt = 4 := rfl
              have e_233 := mt i_eq.mpr (show ¬ (r2 = (4 : Int32)) from c_219)
              unfold cb_X5_wantValue_104
              refine WP.ret ?_
              exact ⟨hI132, (KB.tr (KB.rf : KB F G F G) hB132), (KT.tr (rfl : KT F F) hT132), (KO.tr (rfl : KO F F) hO132), (KK.tr (rfl : KK F F) hK132), trivial⟩
        · skip
          have q_234 := i_rng x3
          have l_235 : (19 : Int32).toInt = 19 := rfl
          have e_236 := mt i_eq.mpr (show ¬ (x3 = (19 : Int32)) from c_126)
          unfold cb_X5_wantValue_32
          refine WP.ite (fun c_237 => ?_) (fun c_237 => ?_)
          · skip
            have l_238 : (21 : Int32).toInt = 21 := rfl
            have e_239 := i_eq.mp (show x3 = (21 : Int32) from c_237)
            unfold cb_X5_wantValue_38
            have l_240 : (7 : Int32).toInt = 7 := rfl
            have q_241 := i_rng x2
            refine WP.bind (cs_X5_note hfu (7 : Int32) x2 F G hI) ?_
            rintro r242 F242 G242 ⟨hI242, hB242, hT242, hO242, hK242, hp242⟩
            dsimp only
            have q_243 := hI.r 10 rfl
            have q_244 := hI242.r 10 rfl
            have e_245 : (F242 10).toInt = (F 10).toInt := hO242
            unfold cb_X5_wantValue_45
            refine WP.ite (fun c_246 => ?_) (fun c_246 => ?_)
            · skip
              have q_247 := hI242.r 46 rfl
              have e_248 := i_eq.mp (show (F242 46) = (0 : Int32) from c_246)
              unfold cb_X5_wantValue_52
              refine WP.ite (fun c_249 => ?_) (fun c_249 => ?_)
              · skip
                have e_250 := i_eq.mp (show r2 = (0 : Int32) from c_249)
                unfold cb_X5_wantValue_57
                unfold cb_X5_wantValue_63
                have l_251 : (1 : Int32).toInt = 1 := rfl
                refine WP.bind (cs_X5_fits hfu (1 : Int32) x3 F242 G242 hI242) ?_
                rintro r252 _ _ ⟨rfl, rfl, hp252⟩
                dsimp only
                have q_253 := b_rng hp252
                unfold cb_X5_wantValue_67
                refine WP.ite (fun c_254 => ?_) (fun c_254 => ?_)
                · skip
                  have e_255 := i_eq.mp (show r252 = (0 : Int32) from c_254)
                  unfold cb_X5_wantValue_70
                  have l_256 : (4 : Int32).toInt = 4 := rfl
                  refine WP.bind (cs_X5_note hfu (4 : Int32) x2 F242 G242 hI242) ?_
                  rintro r257 F257 G257 ⟨hI257, hB257, hT257, hO257, hK257, hp257⟩
                  dsimp only
                  have q_258 := hI257.r 10 rfl
                  have e_259 : (F257 10).toInt = (F242 10).toInt := hO257
                  unfold cb_X5_wantValue_76
                  refine WP.ite (fun c_260 => ?_) (fun c_260 => ?_)
                  · skip
                    have e_261 := i_eq.mp (show r2 = (4 : Int32) from c_260)
                    unfold cb_X5_wantValue_82
                    refine WP.ix (show vp_in x1 700 from vp_in_iff.mpr ⟨by omega, by omega⟩) ?_
                    have q_262 := i_rng (G257 37 x1.toNatClampNeg)
                    refine WP.bind (cs_X8_gives hfu (G257 37 x1.toNatClampNeg) F257 G257 hI257) ?_
                    rintro r263 _ _ ⟨rfl, rfl, hp263⟩
                    dsimp only
                    have q_264 := b_rng hp263
                    unfold cb_X5_wantValue_95
                    refine WP.ite (fun c_265 => ?_) (fun c_265 => ?_)
                    · skip
                      have e_266 := i_eq.mp (show r263 = (0 : Int32) from c_265)
                      unfold cb_X5_wantValue_98
                      have l_267 : (5 : Int32).toInt = 5 := rfl
                      refine WP.bind (cs_X5_note hfu (5 : Int32) x2 F257 G257 hI257) ?_
                      rintro r268 F268 G268 ⟨hI268, hB268, hT268, hO268, hK268, hp268⟩
                      dsimp only
                      have q_269 := hI268.r 10 rfl
                      have e_270 : (F268 10).toInt = (F257 10).toInt := hO268
                      unfold cb_X5_wantValue_104
                      refine WP.ret ?_
                      exact ⟨hI268, (KB.tr (KB.tr (KB.tr (KB.rf : KB F G F G) hB242) hB257) hB268), (KT.tr (KT.tr (KT.tr (rfl : KT F F) hT242) hT257) hT268), (KO.tr (KO.tr (KO.tr (rfl : KO F F) hO242) hO257) hO268), (KK.tr (KK.tr (KK.tr (rfl : KK F F) hK242) hK257) hK268), trivial⟩
                    · skip
                      have e_271 := mt i_eq.mpr (show ¬ (r263 = (0 : Int32)) from c_265)
                      unfold cb_X5_wantValue_104
                      refine WP.ret ?_
                      exact ⟨hI257, (KB.tr (KB.tr (KB.rf : KB F G F G) hB242) hB257), (KT.tr (KT.tr (rfl : KT F F) hT242) hT257), (KO.tr (KO.tr (rfl : KO F F) hO242) hO257), (KK.tr (KK.tr (rfl : KK F F) hK242) hK257), trivial⟩
                  · skip
                    have e_272 := mt i_eq.mpr (show ¬ (r2 = (4 : Int32)) from c_260)
                    unfold cb_X5_wantValue_104
                    refine WP.ret ?_
                    exact ⟨hI257, (KB.tr (KB.tr (KB.rf : KB F G F G) hB242) hB257), (KT.tr (KT.tr (rfl : KT F F) hT242) hT257), (KO.tr (KO.tr (rfl : KO F F) hO242) hO257), (KK.tr (KK.tr (rfl : KK F F) hK242) hK257), trivial⟩
                · skip
                  have e_273 := mt i_eq.mpr (show ¬ (r252 = (0 : Int32)) from c_254)
                  unfold cb_X5_wantValue_76
                  refine WP.ite (fun c_274 => ?_) (fun c_274 => ?_)
                  · skip
                    have l_275 : (4 : Int32).toInt = 4 := rfl
                    have e_276 := i_eq.mp (show r2 = (4 : Int32) from c_274)
                    unfold cb_X5_wantValue_82
                    refine WP.ix (show vp_in x1 700 from vp_in_iff.mpr ⟨by omega, by omega⟩) ?_
                    have q_277 := i_rng (G242 37 x1.toNatClampNeg)
                    refine WP.bind (cs_X8_gives hfu (G242 37 x1.toNatClampNeg) F242 G242 hI242) ?_
                    rintro r278 _ _ ⟨rfl, rfl, hp278⟩
                    dsimp only
                    have q_279 := b_rng hp278
                    unfold cb_X5_wantValue_95
                    refine WP.ite (fun c_280 => ?_) (fun c_280 => ?_)
                    · skip
                      have e_281 := i_eq.mp (show r278 = (0 : Int32) from c_280)
                      unfold cb_X5_wantValue_98
                      have l_282 : (5 : Int32).toInt = 5 := rfl
                      refine WP.bind (cs_X5_note hfu (5 : Int32) x2 F242 G242 hI242) ?_
                      rintro r283 F283 G283 ⟨hI283, hB283, hT283, hO283, hK283, hp283⟩
                      dsimp only
                      have q_284 := hI283.r 10 rfl
                      have e_285 : (F283 10).toInt = (F242 10).toInt := hO283
                      unfold cb_X5_wantValue_104
                      refine WP.ret ?_
                      exact ⟨hI283, (KB.tr (KB.tr (KB.rf : KB F G F G) hB242) hB283), (KT.tr (KT.tr (rfl : KT F F) hT242) hT283), (KO.tr (KO.tr (rfl : KO F F) hO242) hO283), (KK.tr (KK.tr (rfl : KK F F) hK242) hK283), trivial⟩
                    · skip
                      have e_286 := mt i_eq.mpr (show ¬ (r278 = (0 : Int32)) from c_280)
                      unfold cb_X5_wantValue_104
                      refine WP.ret ?_
                      exact ⟨hI242, (KB.tr (KB.rf : KB F G F G) hB242), (KT.tr (rfl : KT F F) hT242), (KO.tr (rfl : KO F F) hO242), (KK.tr (rfl : KK F F) hK242), trivial⟩
                  · skip
                    have l_287 : (4 : Int32).toInt = 4 := rfl
                    have e_288 := mt i_eq.mpr (show ¬ (r2 = (4 : Int32)) from c_274)
                    unfold cb_X5_wantValue_104
                    refine WP.ret ?_
                    exact ⟨hI242, (KB.tr (KB.rf : KB F G F G) hB242), (KT.tr (rfl : KT F F) hT242), (KO.tr (rfl : KO F F) hO242), (KK.tr (rfl : KK F F) hK242), trivial⟩
              · skip
                have e_289 := mt i_eq.mpr (show ¬ (r2 = (0 : Int32)) from c_249)
                unfold cb_X5_wantValue_61
                unfold cb_X5_wantValue_63
                refine WP.bind (cs_X5_fits hfu r2 x3 F242 G242 hI242) ?_
                rintro r290 _ _ ⟨rfl, rfl, hp290⟩
                dsimp only
                have q_291 := b_rng hp290
                unfold cb_X5_wantValue_67
                refine WP.ite (fun c_292 => ?_) (fun c_292 => ?_)
                · skip
                  have e_293 := i_eq.mp (show r290 = (0 : Int32) from c_292)
                  unfold cb_X5_wantValue_70
                  have l_294 : (4 : Int32).toInt = 4 := rfl
                  refine WP.bind (cs_X5_note hfu (4 : Int32) x2 F242 G242 hI242) ?_
                  rintro r295 F295 G295 ⟨hI295, hB295, hT295, hO295, hK295, hp295⟩
                  dsimp only
                  have q_296 := hI295.r 10 rfl
                  have e_297 : (F295 10).toInt = (F242 10).toInt := hO295
                  unfold cb_X5_wantValue_76
                  refine WP.ite (fun c_298 => ?_) (fun c_298 => ?_)
                  · skip
                    have e_299 := i_eq.mp (show r2 = (4 : Int32) from c_298)
                    unfold cb_X5_wantValue_82
                    refine WP.ix (show vp_in x1 700 from vp_in_iff.mpr ⟨by omega, by omega⟩) ?_
                    have q_300 := i_rng (G295 37 x1.toNatClampNeg)
                    refine WP.bind (cs_X8_gives hfu (G295 37 x1.toNatClampNeg) F295 G295 hI295) ?_
                    rintro r301 _ _ ⟨rfl, rfl, hp301⟩
                    dsimp only
                    have q_302 := b_rng hp301
                    unfold cb_X5_wantValue_95
                    refine WP.ite (fun c_303 => ?_) (fun c_303 => ?_)
                    · skip
                      have e_304 := i_eq.mp (show r301 = (0 : Int32) from c_303)
                      unfold cb_X5_wantValue_98
                      have l_305 : (5 : Int32).toInt = 5 := rfl
                      refine WP.bind (cs_X5_note hfu (5 : Int32) x2 F295 G295 hI295) ?_
                      rintro r306 F306 G306 ⟨hI306, hB306, hT306, hO306, hK306, hp306⟩
                      dsimp only
                      have q_307 := hI306.r 10 rfl
                      have e_308 : (F306 10).toInt = (F295 10).toInt := hO306
                      unfold cb_X5_wantValue_104
                      refine WP.ret ?_
                      exact ⟨hI306, (KB.tr (KB.tr (KB.tr (KB.rf : KB F G F G) hB242) hB295) hB306), (KT.tr (KT.tr (KT.tr (rfl : KT F F) hT242) hT295) hT306), (KO.tr (KO.tr (KO.tr (rfl : KO F F) hO242) hO295) hO306), (KK.tr (KK.tr (KK.tr (rfl : KK F F) hK242) hK295) hK306), trivial⟩
                    · skip
                      have e_309 := mt i_eq.mpr (show ¬ (r301 = (0 : Int32)) from c_303)
                      unfold cb_X5_wantValue_104
                      refine WP.ret ?_
                      exact ⟨hI295, (KB.tr (KB.tr (KB.rf : KB F G F G) hB242) hB295), (KT.tr (KT.tr (rfl : KT F F) hT242) hT295), (KO.tr (KO.tr (rfl : KO F F) hO242) hO295), (KK.tr (KK.tr (rfl : KK F F) hK242) hK295), trivial⟩
                  · skip
                    have e_310 := mt i_eq.mpr (show ¬ (r2 = (4 : Int32)) from c_298)
                    unfold cb_X5_wantValue_104
                    refine WP.ret ?_
                    exact ⟨hI295, (KB.tr (KB.tr (KB.rf : KB F G F G) hB242) hB295), (KT.tr (KT.tr (rfl : KT F F) hT242) hT295), (KO.tr (KO.tr (rfl : KO F F) hO242) hO295), (KK.tr (KK.tr (rfl : KK F F) hK242) hK295), trivial⟩
                · skip
                  have e_311 := mt i_eq.mpr (show ¬ (r290 = (0 : Int32)) from c_292)
                  unfold cb_X5_wantValue_76
                  refine WP.ite (fun c_312 => ?_) (fun c_312 => ?_)
                  · skip
                    have l_313 : (4 : Int32).toInt = 4 := rfl
                    have e_314 := i_eq.mp (show r2 = (4 : Int32) from c_312)
                    unfold cb_X5_wantValue_82
                    refine WP.ix (show vp_in x1 700 from vp_in_iff.mpr ⟨by omega, by omega⟩) ?_
                    have q_315 := i_rng (G242 37 x1.toNatClampNeg)
                    refine WP.bind (cs_X8_gives hfu (G242 37 x1.toNatClampNeg) F242 G242 hI242) ?_
                    rintro r316 _ _ ⟨rfl, rfl, hp316⟩
                    dsimp only
                    have q_317 := b_rng hp316
                    unfold cb_X5_wantValue_95
                    refine WP.ite (fun c_318 => ?_) (fun c_318 => ?_)
                    · skip
                      have e_319 := i_eq.mp (show r316 = (0 : Int32) from c_318)
                      unfold cb_X5_wantValue_98
                      have l_320 : (5 : Int32).toInt = 5 := rfl
                      refine WP.bind (cs_X5_note hfu (5 : Int32) x2 F242 G242 hI242) ?_
                      rintro r321 F321 G321 ⟨hI321, hB321, hT321, hO321, hK321, hp321⟩
                      dsimp only
                      have q_322 := hI321.r 10 rfl
                      have e_323 : (F321 10).toInt = (F242 10).toInt := hO321
                      unfold cb_X5_wantValue_104
                      refine WP.ret ?_
                      exact ⟨hI321, (KB.tr (KB.tr (KB.rf : KB F G F G) hB242) hB321), (KT.tr (KT.tr (rfl : KT F F) hT242) hT321), (KO.tr (KO.tr (rfl : KO F F) hO242) hO321), (KK.tr (KK.tr (rfl : KK F F) hK242) hK321), trivial⟩
                    · skip
                      have e_324 := mt i_eq.mpr (show ¬ (r316 = (0 : Int32)) from c_318)
                      unfold cb_X5_wantValue_104
                      refine WP.ret ?_
                      exact ⟨hI242, (KB.tr (KB.rf : KB F G F G) hB242), (KT.tr (rfl : KT F F) hT242), (KO.tr (rfl : KO F F) hO242), (KK.tr (rfl : KK F F) hK242), trivial⟩
                  · skip
                    have l_325 : (4 : Int32).toInt = 4 := rfl
                    have e_326 := mt i_eq.mpr (show ¬ (r2 = (4 : Int32)) from c_312)
                    unfold cb_X5_wantValue_104
                    refine WP.ret ?_
                    exact ⟨hI242, (KB.tr (KB.rf : KB F G F G) hB242), (KT.tr (rfl : KT F F) hT242), (KO.tr (rfl : KO F F) hO242), (KK.tr (rfl : KK F F) hK242), trivial⟩
            · skip
              have q_327 := hI242.r 46 rfl
              have e_328 := mt i_eq.mpr (show ¬ ((F242 46) = (0 : Int32)) from c_246)
              unfold cb_X5_wantValue_76
              refine WP.ite (fun c_329 => ?_) (fun c_329 => ?_)
              · skip
                have l_330 : (4 : Int32).toInt = 4 := rfl
                have e_331 := i_eq.mp (show r2 = (4 : Int32) from c_329)
                unfold cb_X5_wantValue_82
                refine WP.ix (show vp_in x1 700 from vp_in_iff.mpr ⟨by omega, by omega⟩) ?_
                have q_332 := i_rng (G242 37 x1.toNatClampNeg)
                refine WP.bind (cs_X8_gives hfu (G242 37 x1.toNatClampNeg) F242 G242 hI242) ?_
                rintro r333 _ _ ⟨rfl, rfl, hp333⟩
                dsimp only
                have q_334 := b_rng hp333
                unfold cb_X5_wantValue_95
                refine WP.ite (fun c_335 => ?_) (fun c_335 => ?_)
                · skip
                  have e_336 := i_eq.mp (show r333 = (0 : Int32) from c_335)
                  unfold cb_X5_wantValue_98
                  have l_337 : (5 : Int32).toInt = 5 := rfl
                  refine WP.bind (cs_X5_note hfu (5 : Int32) x2 F242 G242 hI242) ?_
                  rintro r338 F338 G338 ⟨hI338, hB338, hT338, hO338, hK338, hp338⟩
                  dsimp only
                  have q_339 := hI338.r 10 rfl
                  have e_340 : (F338 10).toInt = (F242 10).toInt := hO338
                  unfold cb_X5_wantValue_104
                  refine WP.ret ?_
                  exact ⟨hI338, (KB.tr (KB.tr (KB.rf : KB F G F G) hB242) hB338), (KT.tr (KT.tr (rfl : KT F F) hT242) hT338), (KO.tr (KO.tr (rfl : KO F F) hO242) hO338), (KK.tr (KK.tr (rfl : KK F F) hK242) hK338), trivial⟩
                · skip
                  have e_341 := mt i_eq.mpr (show ¬ (r333 = (0 : Int32)) from c_335)
                  unfold cb_X5_wantValue_104
                  refine WP.ret ?_
                  exact ⟨hI242, (KB.tr (KB.rf : KB F G F G) hB242), (KT.tr (rfl : KT F F) hT242), (KO.tr (rfl : KO F F) hO242), (KK.tr (rfl : KK F F) hK242), trivial⟩
              · skip
                have l_342 : (4 : Int32).toInt = 4 := rfl
                have e_343 := mt i_eq.mpr (show ¬ (r2 = (4 : Int32)) from c_329)
                unfold cb_X5_wantValue_104
                refine WP.ret ?_
                exact ⟨hI242, (KB.tr (KB.rf : KB F G F G) hB242), (KT.tr (rfl : KT F F) hT242), (KO.tr (rfl : KO F F) hO242), (KK.tr (rfl : KK F F) hK242), trivial⟩
          · skip
            have l_344 : (21 : Int32).toInt = 21 := rfl
            have e_345 := mt i_eq.mpr (show ¬ (x3 = (21 : Int32)) from c_237)
            unfold cb_X5_wantValue_45
            refine WP.ite (fun c_346 => ?_) (fun c_346 => ?_)
            · skip
              have e_347 := i_eq.mp (show (F 46) = (0 : Int32) from c_346)
              unfold cb_X5_wantValue_52
              refine WP.ite (fun c_348 => ?_) (fun c_348 => ?_)
              · skip
                have e_349 := i_eq.mp (show r2 = (0 : Int32) from c_348)
                unfold cb_X5_wantValue_57
                unfold cb_X5_wantValue_63
                have l_350 : (1 : Int32).toInt = 1 := rfl
                refine WP.bind (cs_X5_fits hfu (1 : Int32) x3 F G hI) ?_
                rintro r351 _ _ ⟨rfl, rfl, hp351⟩
                dsimp only
                have q_352 := b_rng hp351
                unfold cb_X5_wantValue_67
                refine WP.ite (fun c_353 => ?_) (fun c_353 => ?_)
                · skip
                  have e_354 := i_eq.mp (show r351 = (0 : Int32) from c_353)
                  unfold cb_X5_wantValue_70
                  have l_355 : (4 : Int32).toInt = 4 := rfl
                  have q_356 := i_rng x2
                  refine WP.bind (cs_X5_note hfu (4 : Int32) x2 F G hI) ?_
                  rintro r357 F357 G357 ⟨hI357, hB357, hT357, hO357, hK357, hp357⟩
                  dsimp only
                  have q_358 := hI.r 10 rfl
                  have q_359 := hI357.r 10 rfl
                  have e_360 : (F357 10).toInt = (F 10).toInt := hO357
                  unfold cb_X5_wantValue_76
                  refine WP.ite (fun c_361 => ?_) (fun c_361 => ?_)
                  · skip
                    have e_362 := i_eq.mp (show r2 = (4 : Int32) from c_361)
                    unfold cb_X5_wantValue_82
                    refine WP.ix (show vp_in x1 700 from vp_in_iff.mpr ⟨by omega, by omega⟩) ?_
                    have q_363 := i_rng (G357 37 x1.toNatClampNeg)
                    refine WP.bind (cs_X8_gives hfu (G357 37 x1.toNatClampNeg) F357 G357 hI357) ?_
                    rintro r364 _ _ ⟨rfl, rfl, hp364⟩
                    dsimp only
                    have q_365 := b_rng hp364
                    unfold cb_X5_wantValue_95
                    refine WP.ite (fun c_366 => ?_) (fun c_366 => ?_)
                    · skip
                      have e_367 := i_eq.mp (show r364 = (0 : Int32) from c_366)
                      unfold cb_X5_wantValue_98
                      have l_368 : (5 : Int32).toInt = 5 := rfl
                      refine WP.bind (cs_X5_note hfu (5 : Int32) x2 F357 G357 hI357) ?_
                      rintro r369 F369 G369 ⟨hI369, hB369, hT369, hO369, hK369, hp369⟩
                      dsimp only
                      have q_370 := hI369.r 10 rfl
                      have e_371 : (F369 10).toInt = (F357 10).toInt := hO369
                      unfold cb_X5_wantValue_104
                      refine WP.ret ?_
                      exact ⟨hI369, (KB.tr (KB.tr (KB.rf : KB F G F G) hB357) hB369), (KT.tr (KT.tr (rfl : KT F F) hT357) hT369), (KO.tr (KO.tr (rfl : KO F F) hO357) hO369), (KK.tr (KK.tr (rfl : KK F F) hK357) hK369), trivial⟩
                    · skip
                      have e_372 := mt i_eq.mpr (show ¬ (r364 = (0 : Int32)) from c_366)
                      unfold cb_X5_wantValue_104
                      refine WP.ret ?_
                      exact ⟨hI357, (KB.tr (KB.rf : KB F G F G) hB357), (KT.tr (rfl : KT F F) hT357), (KO.tr (rfl : KO F F) hO357), (KK.tr (rfl : KK F F) hK357), trivial⟩
                  · skip
                    have e_373 := mt i_eq.mpr (show ¬ (r2 = (4 : Int32)) from c_361)
                    unfold cb_X5_wantValue_104
                    refine WP.ret ?_
                    exact ⟨hI357, (KB.tr (KB.rf : KB F G F G) hB357), (KT.tr (rfl : KT F F) hT357), (KO.tr (rfl : KO F F) hO357), (KK.tr (rfl : KK F F) hK357), trivial⟩
                · skip
                  have e_374 := mt i_eq.mpr (show ¬ (r351 = (0 : Int32)) from c_353)
                  unfold cb_X5_wantValue_76
                  refine WP.ite (fun c_375 => ?_) (fun c_375 => ?_)
                  · skip
                    have l_376 : (4 : Int32).toInt = 4 := rfl
                    have e_377 := i_eq.mp (show r2 = (4 : Int32) from c_375)
                    unfold cb_X5_wantValue_82
                    refine WP.ix (show vp_in x1 700 from vp_in_iff.mpr ⟨by omega, by omega⟩) ?_
                    have q_378 := i_rng (G 37 x1.toNatClampNeg)
                    refine WP.bind (cs_X8_gives hfu (G 37 x1.toNatClampNeg) F G hI) ?_
                    rintro r379 _ _ ⟨rfl, rfl, hp379⟩
                    dsimp only
                    have q_380 := b_rng hp379
                    unfold cb_X5_wantValue_95
                    refine WP.ite (fun c_381 => ?_) (fun c_381 => ?_)
                    · skip
                      have e_382 := i_eq.mp (show r379 = (0 : Int32) from c_381)
                      unfold cb_X5_wantValue_98
                      have l_383 : (5 : Int32).toInt = 5 := rfl
                      have q_384 := i_rng x2
                      refine WP.bind (cs_X5_note hfu (5 : Int32) x2 F G hI) ?_
                      rintro r385 F385 G385 ⟨hI385, hB385, hT385, hO385, hK385, hp385⟩
                      dsimp only
                      have q_386 := hI.r 10 rfl
                      have q_387 := hI385.r 10 rfl
                      have e_388 : (F385 10).toInt = (F 10).toInt := hO385
                      unfold cb_X5_wantValue_104
                      refine WP.ret ?_
                      exact ⟨hI385, (KB.tr (KB.rf : KB F G F G) hB385), (KT.tr (rfl : KT F F) hT385), (KO.tr (rfl : KO F F) hO385), (KK.tr (rfl : KK F F) hK385), trivial⟩
                    · skip
                      have e_389 := mt i_eq.mpr (show ¬ (r379 = (0 : Int32)) from c_381)
                      unfold cb_X5_wantValue_104
                      refine WP.ret ?_
                      exact ⟨hI, (KB.rf : KB F G F G), (rfl : KT F F), (rfl : KO F F), (rfl : KK F F), trivial⟩
                  · skip
                    have l_390 : (4 : Int32).toInt = 4 := rfl
                    have e_391 := mt i_eq.mpr (show ¬ (r2 = (4 : Int32)) from c_375)
                    unfold cb_X5_wantValue_104
                    refine WP.ret ?_
                    exact ⟨hI, (KB.rf : KB F G F G), (rfl : KT F F), (rfl : KO F F), (rfl : KK F F), trivial⟩
              · skip
                have e_392 := mt i_eq.mpr (show ¬ (r2 = (0 : Int32)) from c_348)
                unfold cb_X5_wantValue_61
                unfold cb_X5_wantValue_63
                refine WP.bind (cs_X5_fits hfu r2 x3 F G hI) ?_
                rintro r393 _ _ ⟨rfl, rfl, hp393⟩
                dsimp only
                have q_394 := b_rng hp393
                unfold cb_X5_wantValue_67
                refine WP.ite (fun c_395 => ?_) (fun c_395 => ?_)
                · skip
                  have e_396 := i_eq.mp (show r393 = (0 : Int32) from c_395)
                  unfold cb_X5_wantValue_70
                  have l_397 : (4 : Int32).toInt = 4 := rfl
                  have q_398 := i_rng x2
                  refine WP.bind (cs_X5_note hfu (4 : Int32) x2 F G hI) ?_
                  rintro r399 F399 G399 ⟨hI399, hB399, hT399, hO399, hK399, hp399⟩
                  dsimp only
                  have q_400 := hI.r 10 rfl
                  have q_401 := hI399.r 10 rfl
                  have e_402 : (F399 10).toInt = (F 10).toInt := hO399
                  unfold cb_X5_wantValue_76
                  refine WP.ite (fun c_403 => ?_) (fun c_403 => ?_)
                  · skip
                    have e_404 := i_eq.mp (show r2 = (4 : Int32) from c_403)
                    unfold cb_X5_wantValue_82
                    refine WP.ix (show vp_in x1 700 from vp_in_iff.mpr ⟨by omega, by omega⟩) ?_
                    have q_405 := i_rng (G399 37 x1.toNatClampNeg)
                    refine WP.bind (cs_X8_gives hfu (G399 37 x1.toNatClampNeg) F399 G399 hI399) ?_
                    rintro r406 _ _ ⟨rfl, rfl, hp406⟩
                    dsimp only
                    have q_407 := b_rng hp406
                    unfold cb_X5_wantValue_95
                    refine WP.ite (fun c_408 => ?_) (fun c_408 => ?_)
                    · skip
                      have e_409 := i_eq.mp (show r406 = (0 : Int32) from c_408)
                      unfold cb_X5_wantValue_98
                      have l_410 : (5 : Int32).toInt = 5 := rfl
                      refine WP.bind (cs_X5_note hfu (5 : Int32) x2 F399 G399 hI399) ?_
                      rintro r411 F411 G411 ⟨hI411, hB411, hT411, hO411, hK411, hp411⟩
                      dsimp only
                      have q_412 := hI411.r 10 rfl
                      have e_413 : (F411 10).toInt = (F399 10).toInt := hO411
                      unfold cb_X5_wantValue_104
                      refine WP.ret ?_
                      exact ⟨hI411, (KB.tr (KB.tr (KB.rf : KB F G F G) hB399) hB411), (KT.tr (KT.tr (rfl : KT F F) hT399) hT411), (KO.tr (KO.tr (rfl : KO F F) hO399) hO411), (KK.tr (KK.tr (rfl : KK F F) hK399) hK411), trivial⟩
                    · skip
                      have e_414 := mt i_eq.mpr (show ¬ (r406 = (0 : Int32)) from c_408)
                      unfold cb_X5_wantValue_104
                      refine WP.ret ?_
                      exact ⟨hI399, (KB.tr (KB.rf : KB F G F G) hB399), (KT.tr (rfl : KT F F) hT399), (KO.tr (rfl : KO F F) hO399), (KK.tr (rfl : KK F F) hK399), trivial⟩
                  · skip
                    have e_415 := mt i_eq.mpr (show ¬ (r2 = (4 : Int32)) from c_403)
                    unfold cb_X5_wantValue_104
                    refine WP.ret ?_
                    exact ⟨hI399, (KB.tr (KB.rf : KB F G F G) hB399), (KT.tr (rfl : KT F F) hT399), (KO.tr (rfl : KO F F) hO399), (KK.tr (rfl : KK F F) hK399), trivial⟩
                · skip
                  have e_416 := mt i_eq.mpr (show ¬ (r393 = (0 : Int32)) from c_395)
                  unfold cb_X5_wantValue_76
                  refine WP.ite (fun c_417 => ?_) (fun c_417 => ?_)
                  · skip
                    have l_418 : (4 : Int32).toInt = 4 := rfl
                    have e_419 := i_eq.mp (show r2 = (4 : Int32) from c_417)
                    unfold cb_X5_wantValue_82
                    refine WP.ix (show vp_in x1 700 from vp_in_iff.mpr ⟨by omega, by omega⟩) ?_
                    have q_420 := i_rng (G 37 x1.toNatClampNeg)
                    refine WP.bind (cs_X8_gives hfu (G 37 x1.toNatClampNeg) F G hI) ?_
                    rintro r421 _ _ ⟨rfl, rfl, hp421⟩
                    dsimp only
                    have q_422 := b_rng hp421
                    unfold cb_X5_wantValue_95
                    refine WP.ite (fun c_423 => ?_) (fun c_423 => ?_)
                    · skip
                      have e_424 := i_eq.mp (show r421 = (0 : Int32) from c_423)
                      unfold cb_X5_wantValue_98
                      have l_425 : (5 : Int32).toInt = 5 := rfl
                      have q_426 := i_rng x2
                      refine WP.bind (cs_X5_note hfu (5 : Int32) x2 F G hI) ?_
                      rintro r427 F427 G427 ⟨hI427, hB427, hT427, hO427, hK427, hp427⟩
                      dsimp only
                      have q_428 := hI.r 10 rfl
                      have q_429 := hI427.r 10 rfl
                      have e_430 : (F427 10).toInt = (F 10).toInt := hO427
                      unfold cb_X5_wantValue_104
                      refine WP.ret ?_
                      exact ⟨hI427, (KB.tr (KB.rf : KB F G F G) hB427), (KT.tr (rfl : KT F F) hT427), (KO.tr (rfl : KO F F) hO427), (KK.tr (rfl : KK F F) hK427), trivial⟩
                    · skip
                      have e_431 := mt i_eq.mpr (show ¬ (r421 = (0 : Int32)) from c_423)
                      unfold cb_X5_wantValue_104
                      refine WP.ret ?_
                      exact ⟨hI, (KB.rf : KB F G F G), (rfl : KT F F), (rfl : KO F F), (rfl : KK F F), trivial⟩
                  · skip
                    have l_432 : (4 : Int32).toInt = 4 := rfl
                    have e_433 := mt i_eq.mpr (show ¬ (r2 = (4 : Int32)) from c_417)
                    unfold cb_X5_wantValue_104
                    refine WP.ret ?_
                    exact ⟨hI, (KB.rf : KB F G F G), (rfl : KT F F), (rfl : KO F F), (rfl : KK F F), trivial⟩
            · skip
              have e_434 := mt i_eq.mpr (show ¬ ((F 46) = (0 : Int32)) from c_346)
              unfold cb_X5_wantValue_76
              refine WP.ite (fun c_435 => ?_) (fun c_435 => ?_)
              · skip
                have l_436 : (4 : Int32).toInt = 4 := rfl
                have e_437 := i_eq.mp (show r2 = (4 : Int32) from c_435)
                unfold cb_X5_wantValue_82
                refine WP.ix (show vp_in x1 700 from vp_in_iff.mpr ⟨by omega, by omega⟩) ?_
                have q_438 := i_rng (G 37 x1.toNatClampNeg)
                refine WP.bind (cs_X8_gives hfu (G 37 x1.toNatClampNeg) F G hI) ?_
                rintro r439 _ _ ⟨rfl, rfl, hp439⟩
                dsimp only
                have q_440 := b_rng hp439
                unfold cb_X5_wantValue_95
                refine WP.ite (fun c_441 => ?_) (fun c_441 => ?_)
                · skip
                  have e_442 := i_eq.mp (show r439 = (0 : Int32) from c_441)
                  unfold cb_X5_wantValue_98
                  have l_443 : (5 : Int32).toInt = 5 := rfl
                  have q_444 := i_rng x2
                  refine WP.bind (cs_X5_note hfu (5 : Int32) x2 F G hI) ?_
                  rintro r445 F445 G445 ⟨hI445, hB445, hT445, hO445, hK445, hp445⟩
                  dsimp only
                  have q_446 := hI.r 10 rfl
                  have q_447 := hI445.r 10 rfl
                  have e_448 : (F445 10).toInt = (F 10).toInt := hO445
                  unfold cb_X5_wantValue_104
                  refine WP.ret ?_
                  exact ⟨hI445, (KB.tr (KB.rf : KB F G F G) hB445), (KT.tr (rfl : KT F F) hT445), (KO.tr (rfl : KO F F) hO445), (KK.tr (rfl : KK F F) hK445), trivial⟩
                · skip
                  have e_449 := mt i_eq.mpr (show ¬ (r439 = (0 : Int32)) from c_441)
                  unfold cb_X5_wantValue_104
                  refine WP.ret ?_
                  exact ⟨hI, (KB.rf : KB F G F G), (rfl : KT F F), (rfl : KO F F), (rfl : KK F F), trivial⟩
              · skip
                have l_450 : (4 : Int32).toInt = 4 := rfl
                have e_451 := mt i_eq.mpr (show ¬ (r2 = (4 : Int32)) from c_435)
                unfold cb_X5_wantValue_104
                refine WP.ret ?_
                exact ⟨hI, (KB.rf : KB F G F G), (rfl : KT F F), (rfl : KO F F), (rfl : KK F F), trivial⟩
      · skip
        have e_452 := mt i_eq.mpr (show ¬ (r2 = (0 : Int32)) from c_124)
        unfold cb_X5_wantValue_38
        have l_453 : (7 : Int32).toInt = 7 := rfl
        have q_454 := i_rng x2
        refine WP.bind (cs_X5_note hfu (7 : Int32) x2 F G hI) ?_
        rintro r455 F455 G455 ⟨hI455, hB455, hT455, hO455, hK455, hp455⟩
        dsimp only
        have q_456 := hI.r 10 rfl
        have q_457 := hI455.r 10 rfl
        have e_458 : (F455 10).toInt = (F 10).toInt := hO455
        unfold cb_X5_wantValue_45
        refine WP.ite (fun c_459 => ?_) (fun c_459 => ?_)
        · skip
          have q_460 := hI455.r 46 rfl
          have e_461 := i_eq.mp (show (F455 46) = (0 : Int32) from c_459)
          unfold cb_X5_wantValue_52
          refine WP.ite (fun c_462 => ?_) (fun c_462 => ?_)
          · skip
            have e_463 := i_eq.mp (show r2 = (0 : Int32) from c_462)
            unfold cb_X5_wantValue_57
            unfold cb_X5_wantValue_63
            have l_464 : (1 : Int32).toInt = 1 := rfl
            have q_465 := i_rng x3
            refine WP.bind (cs_X5_fits hfu (1 : Int32) x3 F455 G455 hI455) ?_
            rintro r466 _ _ ⟨rfl, rfl, hp466⟩
            dsimp only
            have q_467 := b_rng hp466
            unfold cb_X5_wantValue_67
            refine WP.ite (fun c_468 => ?_) (fun c_468 => ?_)
            · skip
              have e_469 := i_eq.mp (show r466 = (0 : Int32) from c_468)
              unfold cb_X5_wantValue_70
              have l_470 : (4 : Int32).toInt = 4 := rfl
              refine WP.bind (cs_X5_note hfu (4 : Int32) x2 F455 G455 hI455) ?_
              rintro r471 F471 G471 ⟨hI471, hB471, hT471, hO471, hK471, hp471⟩
              dsimp only
              have q_472 := hI471.r 10 rfl
              have e_473 : (F471 10).toInt = (F455 10).toInt := hO471
              unfold cb_X5_wantValue_76
              refine WP.ite (fun c_474 => ?_) (fun c_474 => ?_)
              · skip
                have e_475 := i_eq.mp (show r2 = (4 : Int32) from c_474)
                unfold cb_X5_wantValue_82
                refine WP.ix (show vp_in x1 700 from vp_in_iff.mpr ⟨by omega, by omega⟩) ?_
                have q_476 := i_rng (G471 37 x1.toNatClampNeg)
                refine WP.bind (cs_X8_gives hfu (G471 37 x1.toNatClampNeg) F471 G471 hI471) ?_
                rintro r477 _ _ ⟨rfl, rfl, hp477⟩
                dsimp only
                have q_478 := b_rng hp477
                unfold cb_X5_wantValue_95
                refine WP.ite (fun c_479 => ?_) (fun c_479 => ?_)
                · skip
                  have e_480 := i_eq.mp (show r477 = (0 : Int32) from c_479)
                  unfold cb_X5_wantValue_98
                  have l_481 : (5 : Int32).toInt = 5 := rfl
                  refine WP.bind (cs_X5_note hfu (5 : Int32) x2 F471 G471 hI471) ?_
                  rintro r482 F482 G482 ⟨hI482, hB482, hT482, hO482, hK482, hp482⟩
                  dsimp only
                  have q_483 := hI482.r 10 rfl
                  have e_484 : (F482 10).toInt = (F471 10).toInt := hO482
                  unfold cb_X5_wantValue_104
                  refine WP.ret ?_
                  exact ⟨hI482, (KB.tr (KB.tr (KB.tr (KB.rf : KB F G F G) hB455) hB471) hB482), (KT.tr (KT.tr (KT.tr (rfl : KT F F) hT455) hT471) hT482), (KO.tr (KO.tr (KO.tr (rfl : KO F F) hO455) hO471) hO482), (KK.tr (KK.tr (KK.tr (rfl : KK F F) hK455) hK471) hK482), trivial⟩
                · skip
                  have e_485 := mt i_eq.mpr (show ¬ (r477 = (0 : Int32)) from c_479)
                  unfold cb_X5_wantValue_104
                  refine WP.ret ?_
                  exact ⟨hI471, (KB.tr (KB.tr (KB.rf : KB F G F G) hB455) hB471), (KT.tr (KT.tr (rfl : KT F F) hT455) hT471), (KO.tr (KO.tr (rfl : KO F F) hO455) hO471), (KK.tr (KK.tr (rfl : KK F F) hK455) hK471), trivial⟩
              · skip
                have e_486 := mt i_eq.mpr (show ¬ (r2 = (4 : Int32)) from c_474)
                unfold cb_X5_wantValue_104
                refine WP.ret ?_
                exact ⟨hI471, (KB.tr (KB.tr (KB.rf : KB F G F G) hB455) hB471), (KT.tr (KT.tr (rfl : KT F F) hT455) hT471), (KO.tr (KO.tr (rfl : KO F F) hO455) hO471), (KK.tr (KK.tr (rfl : KK F F) hK455) hK471), trivial⟩
            · skip
              have e_487 := mt i_eq.mpr (show ¬ (r466 = (0 : Int32)) from c_468)
              unfold cb_X5_wantValue_76
              refine WP.ite (fun c_488 => ?_) (fun c_488 => ?_)
              · skip
                have l_489 : (4 : Int32).toInt = 4 := rfl
                have e_490 := i_eq.mp (show r2 = (4 : Int32) from c_488)
                unfold cb_X5_wantValue_82
                refine WP.ix (show vp_in x1 700 from vp_in_iff.mpr ⟨by omega, by omega⟩) ?_
                have q_491 := i_rng (G455 37 x1.toNatClampNeg)
                refine WP.bind (cs_X8_gives hfu (G455 37 x1.toNatClampNeg) F455 G455 hI455) ?_
                rintro r492 _ _ ⟨rfl, rfl, hp492⟩
                dsimp only
                have q_493 := b_rng hp492
                unfold cb_X5_wantValue_95
                refine WP.ite (fun c_494 => ?_) (fun c_494 => ?_)
                · skip
                  have e_495 := i_eq.mp (show r492 = (0 : Int32) from c_494)
                  unfold cb_X5_wantValue_98
                  have l_496 : (5 : Int32).toInt = 5 := rfl
                  refine WP.bind (cs_X5_note hfu (5 : Int32) x2 F455 G455 hI455) ?_
                  rintro r497 F497 G497 ⟨hI497, hB497, hT497, hO497, hK497, hp497⟩
                  dsimp only
                  have q_498 := hI497.r 10 rfl
                  have e_499 : (F497 10).toInt = (F455 10).toInt := hO497
                  unfold cb_X5_wantValue_104
                  refine WP.ret ?_
                  exact ⟨hI497, (KB.tr (KB.tr (KB.rf : KB F G F G) hB455) hB497), (KT.tr (KT.tr (rfl : KT F F) hT455) hT497), (KO.tr (KO.tr (rfl : KO F F) hO455) hO497), (KK.tr (KK.tr (rfl : KK F F) hK455) hK497), trivial⟩
                · skip
                  have e_500 := mt i_eq.mpr (show ¬ (r492 = (0 : Int32)) from c_494)
                  unfold cb_X5_wantValue_104
                  refine WP.ret ?_
                  exact ⟨hI455, (KB.tr (KB.rf : KB F G F G) hB455), (KT.tr (rfl : KT F F) hT455), (KO.tr (rfl : KO F F) hO455), (KK.tr (rfl : KK F F) hK455), trivial⟩
              · skip
                have l_501 : (4 : Int32).toInt = 4 := rfl
                have e_502 := mt i_eq.mpr (show ¬ (r2 = (4 : Int32)) from c_488)
                unfold cb_X5_wantValue_104
                refine WP.ret ?_
                exact ⟨hI455, (KB.tr (KB.rf : KB F G F G) hB455), (KT.tr (rfl : KT F F) hT455), (KO.tr (rfl : KO F F) hO455), (KK.tr (rfl : KK F F) hK455), trivial⟩
          · skip
            have e_503 := mt i_eq.mpr (show ¬ (r2 = (0 : Int32)) from c_462)
            unfold cb_X5_wantValue_61
            unfold cb_X5_wantValue_63
            have q_504 := i_rng x3
            refine WP.bind (cs_X5_fits hfu r2 x3 F455 G455 hI455) ?_
            rintro r505 _ _ ⟨rfl, rfl, hp505⟩
            dsimp only
            have q_506 := b_rng hp505
            unfold cb_X5_wantValue_67
            refine WP.ite (fun c_507 => ?_) (fun c_507 => ?_)
            · skip
              have e_508 := i_eq.mp (show r505 = (0 : Int32) from c_507)
              unfold cb_X5_wantValue_70
              have l_509 : (4 : Int32).toInt = 4 := rfl
              refine WP.bind (cs_X5_note hfu (4 : Int32) x2 F455 G455 hI455) ?_
              rintro r510 F510 G510 ⟨hI510, hB510, hT510, hO510, hK510, hp510⟩
              dsimp only
              have q_511 := hI510.r 10 rfl
              have e_512 : (F510 10).toInt = (F455 10).toInt := hO510
              unfold cb_X5_wantValue_76
              refine WP.ite (fun c_513 => ?_) (fun c_513 => ?_)
              · skip
                have e_514 := i_eq.mp (show r2 = (4 : Int32) from c_513)
                unfold cb_X5_wantValue_82
                refine WP.ix (show vp_in x1 700 from vp_in_iff.mpr ⟨by omega, by omega⟩) ?_
                have q_515 := i_rng (G510 37 x1.toNatClampNeg)
                refine WP.bind (cs_X8_gives hfu (G510 37 x1.toNatClampNeg) F510 G510 hI510) ?_
                rintro r516 _ _ ⟨rfl, rfl, hp516⟩
                dsimp only
                have q_517 := b_rng hp516
                unfold cb_X5_wantValue_95
                refine WP.ite (fun c_518 => ?_) (fun c_518 => ?_)
                · skip
                  have e_519 := i_eq.mp (show r516 = (0 : Int32) from c_518)
                  unfold cb_X5_wantValue_98
                  have l_520 : (5 : Int32).toInt = 5 := rfl
                  refine WP.bind (cs_X5_note hfu (5 : Int32) x2 F510 G510 hI510) ?_
                  rintro r521 F521 G521 ⟨hI521, hB521, hT521, hO521, hK521, hp521⟩
                  dsimp only
                  have q_522 := hI521.r 10 rfl
                  have e_523 : (F521 10).toInt = (F510 10).toInt := hO521
                  unfold cb_X5_wantValue_104
                  refine WP.ret ?_
                  exact ⟨hI521, (KB.tr (KB.tr (KB.tr (KB.rf : KB F G F G) hB455) hB510) hB521), (KT.tr (KT.tr (KT.tr (rfl : KT F F) hT455) hT510) hT521), (KO.tr (KO.tr (KO.tr (rfl : KO F F) hO455) hO510) hO521), (KK.tr (KK.tr (KK.tr (rfl : KK F F) hK455) hK510) hK521), trivial⟩
                · skip
                  have e_524 := mt i_eq.mpr (show ¬ (r516 = (0 : Int32)) from c_518)
                  unfold cb_X5_wantValue_104
                  refine WP.ret ?_
                  exact ⟨hI510, (KB.tr (KB.tr (KB.rf : KB F G F G) hB455) hB510), (KT.tr (KT.tr (rfl : KT F F) hT455) hT510), (KO.tr (KO.tr (rfl : KO F F) hO455) hO510), (KK.tr (KK.tr (rfl : KK F F) hK455) hK510), trivial⟩
              · skip
                have e_525 := mt i_eq.mpr (show ¬ (r2 = (4 : Int32)) from c_513)
                unfold cb_X5_wantValue_104
                refine WP.ret ?_
                exact ⟨hI510, (KB.tr (KB.tr (KB.rf : KB F G F G) hB455) hB510), (KT.tr (KT.tr (rfl : KT F F) hT455) hT510), (KO.tr (KO.tr (rfl : KO F F) hO455) hO510), (KK.tr (KK.tr (rfl : KK F F) hK455) hK510), trivial⟩
            · skip
              have e_526 := mt i_eq.mpr (show ¬ (r505 = (0 : Int32)) from c_507)
              unfold cb_X5_wantValue_76
              refine WP.ite (fun c_527 => ?_) (fun c_527 => ?_)
              · skip
                have l_528 : (4 : Int32).toInt = 4 := rfl
                have e_529 := i_eq.mp (show r2 = (4 : Int32) from c_527)
                unfold cb_X5_wantValue_82
                refine WP.ix (show vp_in x1 700 from vp_in_iff.mpr ⟨by omega, by omega⟩) ?_
                have q_530 := i_rng (G455 37 x1.toNatClampNeg)
                refine WP.bind (cs_X8_gives hfu (G455 37 x1.toNatClampNeg) F455 G455 hI455) ?_
                rintro r531 _ _ ⟨rfl, rfl, hp531⟩
                dsimp only
                have q_532 := b_rng hp531
                unfold cb_X5_wantValue_95
                refine WP.ite (fun c_533 => ?_) (fun c_533 => ?_)
                · skip
                  have e_534 := i_eq.mp (show r531 = (0 : Int32) from c_533)
                  unfold cb_X5_wantValue_98
                  have l_535 : (5 : Int32).toInt = 5 := rfl
                  refine WP.bind (cs_X5_note hfu (5 : Int32) x2 F455 G455 hI455) ?_
                  rintro r536 F536 G536 ⟨hI536, hB536, hT536, hO536, hK536, hp536⟩
                  dsimp only
                  have q_537 := hI536.r 10 rfl
                  have e_538 : (F536 10).toInt = (F455 10).toInt := hO536
                  unfold cb_X5_wantValue_104
                  refine WP.ret ?_
                  exact ⟨hI536, (KB.tr (KB.tr (KB.rf : KB F G F G) hB455) hB536), (KT.tr (KT.tr (rfl : KT F F) hT455) hT536), (KO.tr (KO.tr (rfl : KO F F) hO455) hO536), (KK.tr (KK.tr (rfl : KK F F) hK455) hK536), trivial⟩
                · skip
                  have e_539 := mt i_eq.mpr (show ¬ (r531 = (0 : Int32)) from c_533)
                  unfold cb_X5_wantValue_104
                  refine WP.ret ?_
                  exact ⟨hI455, (KB.tr (KB.rf : KB F G F G) hB455), (KT.tr (rfl : KT F F) hT455), (KO.tr (rfl : KO F F) hO455), (KK.tr (rfl : KK F F) hK455), trivial⟩
              · skip
                have l_540 : (4 : Int32).toInt = 4 := rfl
                have e_541 := mt i_eq.mpr (show ¬ (r2 = (4 : Int32)) from c_527)
                unfold cb_X5_wantValue_104
                refine WP.ret ?_
                exact ⟨hI455, (KB.tr (KB.rf : KB F G F G) hB455), (KT.tr (rfl : KT F F) hT455), (KO.tr (rfl : KO F F) hO455), (KK.tr (rfl : KK F F) hK455), trivial⟩
        · skip
          have q_542 := hI455.r 46 rfl
          have e_543 := mt i_eq.mpr (show ¬ ((F455 46) = (0 : Int32)) from c_459)
          unfold cb_X5_wantValue_76
          refine WP.ite (fun c_544 => ?_) (fun c_544 => ?_)
          · skip
            have l_545 : (4 : Int32).toInt = 4 := rfl
            have e_546 := i_eq.mp (show r2 = (4 : Int32) from c_544)
            unfold cb_X5_wantValue_82
            refine WP.ix (show vp_in x1 700 from vp_in_iff.mpr ⟨by omega, by omega⟩) ?_
            have q_547 := i_rng (G455 37 x1.toNatClampNeg)
            refine WP.bind (cs_X8_gives hfu (G455 37 x1.toNatClampNeg) F455 G455 hI455) ?_
            rintro r548 _ _ ⟨rfl, rfl, hp548⟩
            dsimp only
            have q_549 := b_rng hp548
            unfold cb_X5_wantValue_95
            refine WP.ite (fun c_550 => ?_) (fun c_550 => ?_)
            · skip
              have e_551 := i_eq.mp (show r548 = (0 : Int32) from c_550)
              unfold cb_X5_wantValue_98
              have l_552 : (5 : Int32).toInt = 5 := rfl
              refine WP.bind (cs_X5_note hfu (5 : Int32) x2 F455 G455 hI455) ?_
              rintro r553 F553 G553 ⟨hI553, hB553, hT553, hO553, hK553, hp553⟩
              dsimp only
              have q_554 := hI553.r 10 rfl
              have e_555 : (F553 10).toInt = (F455 10).toInt := hO553
              unfold cb_X5_wantValue_104
              refine WP.ret ?_
              exact ⟨hI553, (KB.tr (KB.tr (KB.rf : KB F G F G) hB455) hB553), (KT.tr (KT.tr (rfl : KT F F) hT455) hT553), (KO.tr (KO.tr (rfl : KO F F) hO455) hO553), (KK.tr (KK.tr (rfl : KK F F) hK455) hK553), trivial⟩
            · skip
              have e_556 := mt i_eq.mpr (show ¬ (r548 = (0 : Int32)) from c_550)
              unfold cb_X5_wantValue_104
              refine WP.ret ?_
              exact ⟨hI455, (KB.tr (KB.rf : KB F G F G) hB455), (KT.tr (rfl : KT F F) hT455), (KO.tr (rfl : KO F F) hO455), (KK.tr (rfl : KK F F) hK455), trivial⟩
          · skip
            have l_557 : (4 : Int32).toInt = 4 := rfl
            have e_558 := mt i_eq.mpr (show ¬ (r2 = (4 : Int32)) from c_544)
            unfold cb_X5_wantValue_104
            refine WP.ret ?_
            exact ⟨hI455, (KB.tr (KB.rf : KB F G F G) hB455), (KT.tr (rfl : KT F F) hT455), (KO.tr (rfl : KO F F) hO455), (KK.tr (rfl : KK F F) hK455), trivial⟩
