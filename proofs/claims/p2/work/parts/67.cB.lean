theorem cU1 {fu : Nat} (hfu : 8589934592 ≤ fu) : ∀ d : Nat, cIH1 (cS1 fu d) d := by
  intro d
  induction d with
  | zero =>
    refine ⟨?_, ?_, ?_, ?_, ?_, ?_⟩
    · intro x y F G hI hd; have := hI.r 10 rfl; omega
    · intro F G hI hd; have := hI.r 10 rfl; omega
    · intro x F G hI hd; have := hI.r 10 rfl; omega
    · intro F G hI hd; have := hI.r 10 rfl; omega
    · intro F G hI hd; have := hI.r 10 rfl; omega
    · intro F G hI hd; have := hI.r 10 rfl; omega
  | succ d ih =>
    refine ⟨?_, ?_, ?_, ?_, ?_, ?_⟩
    · intro x y F G hI hd
      exact ct_X3_call hfu (cS1 fu d) ih x y F G hI (by omega)
    · intro F G hI hd
      exact ct_X3_expression hfu (cS1 fu d) ih F G hI (by omega)
    · intro x F G hI hd
      exact ct_X3_index hfu (cS1 fu d) ih x F G hI (by omega)
    · intro F G hI hd
      exact ct_X3_joinedOperands hfu (cS1 fu d) ih F G hI (by omega)
    · intro F G hI hd
      exact ct_X3_named hfu (cS1 fu d) ih F G hI (by omega)
    · intro F G hI hd
      exact ct_X3_operand hfu (cS1 fu d) ih F G hI (by omega)
theorem cs_X3_call {fu : Nat} (hfu : 8589934592 ≤ fu) (x : Int32) (y : Int32) (F : PF) (G : PG) (hI : CI F G) : WP (cf_X3_call fu x y F G) (fun r' F' G' => CI F' G' ∧ KB F G F' G' ∧ KT F F' ∧ KO F F' ∧ True) := (cU1 hfu 300).1 x y F G hI (by have := hI.r 10 rfl; omega)
theorem cs_X3_expression {fu : Nat} (hfu : 8589934592 ≤ fu) (F : PF) (G : PG) (hI : CI F G) : WP (cf_X3_expression fu F G) (fun r' F' G' => CI F' G' ∧ KB F G F' G' ∧ KT F F' ∧ KO F F' ∧ KS F F' ∧ True) := (cU1 hfu 300).2.1 F G hI (by have := hI.r 10 rfl; omega)
theorem cs_X3_index {fu : Nat} (hfu : 8589934592 ≤ fu) (x : Int32) (F : PF) (G : PG) (hI : CI F G) : WP (cf_X3_index fu x F G) (fun r' F' G' => CI F' G' ∧ KB F G F' G' ∧ KT F F' ∧ KO F F' ∧ True) := (cU1 hfu 300).2.2.1 x F G hI (by have := hI.r 10 rfl; omega)
theorem cs_X3_joinedOperands {fu : Nat} (hfu : 8589934592 ≤ fu) (F : PF) (G : PG) (hI : CI F G) : WP (cf_X3_joinedOperands fu F G) (fun r' F' G' => CI F' G' ∧ KB F G F' G' ∧ KT F F' ∧ KO F F' ∧ KS F F' ∧ True) := (cU1 hfu 300).2.2.2.1 F G hI (by have := hI.r 10 rfl; omega)
theorem cs_X3_named {fu : Nat} (hfu : 8589934592 ≤ fu) (F : PF) (G : PG) (hI : CI F G) : WP (cf_X3_named fu F G) (fun r' F' G' => CI F' G' ∧ KB F G F' G' ∧ KT F F' ∧ KO F F' ∧ True) := (cU1 hfu 300).2.2.2.2.1 F G hI (by have := hI.r 10 rfl; omega)
theorem cs_X3_operand {fu : Nat} (hfu : 8589934592 ≤ fu) (F : PF) (G : PG) (hI : CI F G) : WP (cf_X3_operand fu F G) (fun r' F' G' => CI F' G' ∧ KB F G F' G' ∧ KT F F' ∧ KO F F' ∧ KS F F' ∧ True) := (cU1 hfu 300).2.2.2.2.2 F G hI (by have := hI.r 10 rfl; omega)
theorem cs_X6_pop {fu : Nat} (hfu : 8589934592 ≤ fu) (F : PF) (G : PG) (hI : CI F G) : WP (cf_X6_pop fu F G) (fun r' F' G' => CI F' G' ∧ KB F G F' G' ∧ KT F F' ∧ KO F F' ∧ KK F F' ∧ True) := by
  unfold cf_X6_pop
  unfold cb_X6_pop_0
  refine WP.ite (fun c_1 => ?_) (fun c_1 => ?_)
  · skip
    have l_2 : (0 : Int32).toInt = 0 := rfl
    have q_3 := hI.r 56 rfl
    have q_4 := hI.xx
    have e_5 := i_lt.mp (show (0 : Int32) < (F 56) from c_1)
    unfold cb_X6_pop_9
    first | have e_6 : ((F 56) - (1 : Int32)).toInt = (F 56).toInt - (1) := i_subn (F 56) rfl (by omega) (by omega) | have e_7 := i_rng ((F 56) - (1 : Int32))
    have q_9 := hI.xx
    have j_8 : CI (fup F 56 ((F 56) - (1 : Int32))) G := CI.top hI (by omega) (show ((F 56) - (1 : Int32)).toInt ≤ (xn F : Int) by omega)
    unfold cb_X6_pop_19
    have q_10 := hI.xx
    refine WP.ix (show vp_in ((F 56) - (1 : Int32)) (xn F) from vp_in_iff.mpr ⟨by omega, by omega⟩) ?_
    refine WP.ret ?_
    exact ⟨j_8, (KB.f (by decide) (KB.rf : KB F G F G)), (KT.f (by decide) (rfl : KT F F)), (KO.f (by decide) (rfl : KO F F)), (KK.f (by decide) (rfl : KK F F)), trivial⟩
  · skip
    have l_11 : (0 : Int32).toInt = 0 := rfl
    have q_12 := hI.r 56 rfl
    have q_13 := hI.xx
    have e_14 := mt i_lt.mpr (show ¬ ((0 : Int32) < (F 56)) from c_1)
    unfold cb_X6_pop_7
    refine WP.ret ?_
    exact ⟨hI, (KB.rf : KB F G F G), (rfl : KT F F), (rfl : KO F F), (rfl : KK F F), trivial⟩
theorem cs_X6_jump {fu : Nat} (hfu : 8589934592 ≤ fu) (x1 : Int32) (x2 : Int32) (F : PF) (G : PG) (hI : CI F G) : WP (cf_X6_jump fu x1 x2 F G) (fun r' F' G' => CI F' G' ∧ KB F G F' G' ∧ KT F F' ∧ KO F F' ∧ KK F F' ∧ True) := by
  unfold cf_X6_jump
  unfold cb_X6_jump_0
  refine WP.ite (fun c_1 => ?_) (fun c_1 => ?_)
  · skip
    have q_2 := i_rng x1
    have l_3 : (84 : Int32).toInt = 84 := rfl
    have e_4 := i_eq.mp (show x1 = (84 : Int32) from c_1)
    unfold cb_X6_jump_69
    refine WP.ite (fun c_5 => absurd c_5 (by decide)) (fun _ => ?_)
    unfold cb_X6_jump_73
    have q_6 := i_rng x2
    have j_7 : CI (fup F 57 x2) G := CI.fr rfl hI
    unfold cb_X6_jump_78
    refine WP.ret ?_
    exact ⟨j_7, (KB.f (by decide) (KB.rf : KB F G F G)), (KT.f (by decide) (rfl : KT F F)), (KO.f (by decide) (rfl : KO F F)), (KK.f (by decide) (rfl : KK F F)), trivial⟩
  · skip
    have q_8 := i_rng x1
    have l_9 : (84 : Int32).toInt = 84 := rfl
    have e_10 := mt i_eq.mpr (show ¬ (x1 = (84 : Int32)) from c_1)
    unfold cb_X6_jump_8
    refine WP.bind (cs_X6_pop hfu F G hI) ?_
    rintro r11 F11 G11 ⟨hI11, hB11, hT11, hO11, hK11, hp11⟩
    dsimp only
    have q_12 := hI.r 10 rfl
    have q_13 := hI11.r 10 rfl
    have e_14 : (F11 10).toInt = (F 10).toInt := hO11
    unfold cb_X6_jump_12
    refine WP.ite (fun c_15 => ?_) (fun c_15 => ?_)
    · skip
      have q_16 := i_rng r11
      have l_17 : (0 : Int32).toInt = 0 := rfl
      have e_18 := i_eq.mp (show r11 = (0 : Int32) from c_15)
      unfold cb_X6_jump_19
      unfold cb_X6_jump_20
      refine WP.ite (fun c_19 => ?_) (fun c_19 => ?_)
      · skip
        have l_20 : (85 : Int32).toInt = 85 := rfl
        have e_21 := i_eq.mp (show x1 = (85 : Int32) from c_19)
        unfold cb_X6_jump_36
        unfold cb_X6_jump_41
        refine WP.ite (fun c_22 => absurd c_22 (by decide)) (fun _ => ?_)
        unfold cb_X6_jump_48
        unfold cb_X6_jump_49
        refine WP.ite (fun _ => ?_) (fun c_23 => absurd (by decide) c_23)
        unfold cb_X6_jump_69
        refine WP.ite (fun _ => ?_) (fun c_24 => absurd (by decide) c_24)
        unfold cb_X6_jump_78
        refine WP.ret ?_
        exact ⟨hI11, (KB.tr (KB.rf : KB F G F G) hB11), (KT.tr (rfl : KT F F) hT11), (KO.tr (rfl : KO F F) hO11), (KK.tr (rfl : KK F F) hK11), trivial⟩
      · skip
        have l_25 : (85 : Int32).toInt = 85 := rfl
        have e_26 := mt i_eq.mpr (show ¬ (x1 = (85 : Int32)) from c_19)
        unfold cb_X6_jump_30
        refine WP.ite (fun c_27 => ?_) (fun c_27 => ?_)
        · skip
          have l_28 : (87 : Int32).toInt = 87 := rfl
          have e_29 := i_eq.mp (show x1 = (87 : Int32) from c_27)
          unfold cb_X6_jump_36
          unfold cb_X6_jump_41
          refine WP.ite (fun c_30 => absurd c_30 (by decide)) (fun _ => ?_)
          unfold cb_X6_jump_48
          unfold cb_X6_jump_49
          refine WP.ite (fun _ => ?_) (fun c_31 => absurd (by decide) c_31)
          unfold cb_X6_jump_69
          refine WP.ite (fun _ => ?_) (fun c_32 => absurd (by decide) c_32)
          unfold cb_X6_jump_78
          refine WP.ret ?_
          exact ⟨hI11, (KB.tr (KB.rf : KB F G F G) hB11), (KT.tr (rfl : KT F F) hT11), (KO.tr (rfl : KO F F) hO11), (KK.tr (rfl : KK F F) hK11), trivial⟩
        · skip
          have l_33 : (87 : Int32).toInt = 87 := rfl
          have e_34 := mt i_eq.mpr (show ¬ (x1 = (87 : Int32)) from c_27)
          unfold cb_X6_jump_40
          unfold cb_X6_jump_41
          refine WP.ite (fun _ => ?_) (fun c_35 => absurd (by decide) c_35)
          unfold cb_X6_jump_44
          unfold cb_X6_jump_49
          refine WP.ite (fun c_36 => absurd c_36 (by decide)) (fun _ => ?_)
          unfold cb_X6_jump_54
          refine WP.ite (fun c_37 => ?_) (fun c_37 => ?_)
          · skip
            have e_38 := i_lt.mp (show x1 < (87 : Int32) from c_37)
            unfold cb_X6_jump_69
            refine WP.ite (fun c_39 => absurd c_39 (by decide)) (fun _ => ?_)
            unfold cb_X6_jump_73
            have q_40 := i_rng x2
            have j_41 : CI (fup F11 57 x2) G11 := CI.fr rfl hI11
            unfold cb_X6_jump_78
            refine WP.ret ?_
            exact ⟨j_41, (KB.f (by decide) (KB.tr (KB.rf : KB F G F G) hB11)), (KT.f (by decide) (KT.tr (rfl : KT F F) hT11)), (KO.f (by decide) (KO.tr (rfl : KO F F) hO11)), (KK.f (by decide) (KK.tr (rfl : KK F F) hK11)), trivial⟩
          · skip
            have e_42 := mt i_lt.mpr (show ¬ (x1 < (87 : Int32)) from c_37)
            unfold cb_X6_jump_60
            refine WP.bind (cs_X11_truth hfu (0 : Int32) F11 G11 hI11 (by decide)) ?_
            rintro r43 _ _ ⟨rfl, rfl, hp43⟩
            dsimp only
            unfold cb_X6_jump_66
            have q_44 := i_rng r43
            refine WP.bind (cs_X6_push hfu r43 F11 G11 hI11) ?_
            rintro r45 F45 G45 ⟨hI45, hB45, hT45, hO45, hK45, hp45⟩
            dsimp only
            have q_46 := hI45.r 10 rfl
            have e_47 : (F45 10).toInt = (F11 10).toInt := hO45
            unfold cb_X6_jump_69
            refine WP.ite (fun c_48 => absurd c_48 (by decide)) (fun _ => ?_)
            unfold cb_X6_jump_73
            have q_49 := i_rng x2
            have j_50 : CI (fup F45 57 x2) G45 := CI.fr rfl hI45
            unfold cb_X6_jump_78
            refine WP.ret ?_
            exact ⟨j_50, (KB.f (by decide) (KB.tr (KB.tr (KB.rf : KB F G F G) hB11) hB45)), (KT.f (by decide) (KT.tr (KT.tr (rfl : KT F F) hT11) hT45)), (KO.f (by decide) (KO.tr (KO.tr (rfl : KO F F) hO11) hO45)), (KK.f (by decide) (KK.tr (KK.tr (rfl : KK F F) hK11) hK45)), trivial⟩
    · skip
      have q_51 := i_rng r11
      have l_52 : (0 : Int32).toInt = 0 := rfl
      have e_53 := mt i_eq.mpr (show ¬ (r11 = (0 : Int32)) from c_15)
      unfold cb_X6_jump_15
      unfold cb_X6_jump_20
      refine WP.ite (fun c_54 => ?_) (fun c_54 => ?_)
      · skip
        have l_55 : (85 : Int32).toInt = 85 := rfl
        have e_56 := i_eq.mp (show x1 = (85 : Int32) from c_54)
        unfold cb_X6_jump_36
        unfold cb_X6_jump_41
        refine WP.ite (fun _ => ?_) (fun c_57 => absurd (by decide) c_57)
        unfold cb_X6_jump_44
        unfold cb_X6_jump_49
        refine WP.ite (fun c_58 => absurd c_58 (by decide)) (fun _ => ?_)
        unfold cb_X6_jump_54
        refine WP.ite (fun c_59 => ?_) (fun c_59 => ?_)
        · skip
          have l_60 : (87 : Int32).toInt = 87 := rfl
          have e_61 := i_lt.mp (show x1 < (87 : Int32) from c_59)
          unfold cb_X6_jump_69
          refine WP.ite (fun c_62 => absurd c_62 (by decide)) (fun _ => ?_)
          unfold cb_X6_jump_73
          have q_63 := i_rng x2
          have j_64 : CI (fup F11 57 x2) G11 := CI.fr rfl hI11
          unfold cb_X6_jump_78
          refine WP.ret ?_
          exact ⟨j_64, (KB.f (by decide) (KB.tr (KB.rf : KB F G F G) hB11)), (KT.f (by decide) (KT.tr (rfl : KT F F) hT11)), (KO.f (by decide) (KO.tr (rfl : KO F F) hO11)), (KK.f (by decide) (KK.tr (rfl : KK F F) hK11)), trivial⟩
        · skip
          have l_65 : (87 : Int32).toInt = 87 := rfl
          have e_66 := mt i_lt.mpr (show ¬ (x1 < (87 : Int32)) from c_59)
          unfold cb_X6_jump_60
          have l_67 : (1 : Int32).toInt = 1 := rfl
          refine WP.bind (cs_X11_truth hfu (1 : Int32) F11 G11 hI11 (by decide)) ?_
          rintro r68 _ _ ⟨rfl, rfl, hp68⟩
          dsimp only
          unfold cb_X6_jump_66
          have q_69 := i_rng r68
          refine WP.bind (cs_X6_push hfu r68 F11 G11 hI11) ?_
          rintro r70 F70 G70 ⟨hI70, hB70, hT70, hO70, hK70, hp70⟩
          dsimp only
          have q_71 := hI70.r 10 rfl
          have e_72 : (F70 10).toInt = (F11 10).toInt := hO70
          unfold cb_X6_jump_69
          refine WP.ite (fun c_73 => absurd c_73 (by decide)) (fun _ => ?_)
          unfold cb_X6_jump_73
          have q_74 := i_rng x2
          have j_75 : CI (fup F70 57 x2) G70 := CI.fr rfl hI70
          unfold cb_X6_jump_78
          refine WP.ret ?_
          exact ⟨j_75, (KB.f (by decide) (KB.tr (KB.tr (KB.rf : KB F G F G) hB11) hB70)), (KT.f (by decide) (KT.tr (KT.tr (rfl : KT F F) hT11) hT70)), (KO.f (by decide) (KO.tr (KO.tr (rfl : KO F F) hO11) hO70)), (KK.f (by decide) (KK.tr (KK.tr (rfl : KK F F) hK11) hK70)), trivial⟩
      · skip
        have l_76 : (85 : Int32).toInt = 85 := rfl
        have e_77 := mt i_eq.mpr (show ¬ (x1 = (85 : Int32)) from c_54)
        unfold cb_X6_jump_30
        refine WP.ite (fun c_78 => ?_) (fun c_78 => ?_)
        · skip
          have l_79 : (87 : Int32).toInt = 87 := rfl
          have e_80 := i_eq.mp (show x1 = (87 : Int32) from c_78)
          unfold cb_X6_jump_36
          unfold cb_X6_jump_41
          refine WP.ite (fun _ => ?_) (fun c_81 => absurd (by decide) c_81)
          unfold cb_X6_jump_44
          unfold cb_X6_jump_49
          refine WP.ite (fun c_82 => absurd c_82 (by decide)) (fun _ => ?_)
          unfold cb_X6_jump_54
          refine WP.ite (fun c_83 => ?_) (fun c_83 => ?_)
          · skip
            have e_84 := i_lt.mp (show x1 < (87 : Int32) from c_83)
            unfold cb_X6_jump_69
            refine WP.ite (fun c_85 => absurd c_85 (by decide)) (fun _ => ?_)
            unfold cb_X6_jump_73
            have q_86 := i_rng x2
            have j_87 : CI (fup F11 57 x2) G11 := CI.fr rfl hI11
            unfold cb_X6_jump_78
            refine WP.ret ?_
            exact ⟨j_87, (KB.f (by decide) (KB.tr (KB.rf : KB F G F G) hB11)), (KT.f (by decide) (KT.tr (rfl : KT F F) hT11)), (KO.f (by decide) (KO.tr (rfl : KO F F) hO11)), (KK.f (by decide) (KK.tr (rfl : KK F F) hK11)), trivial⟩
          · skip
            have e_88 := mt i_lt.mpr (show ¬ (x1 < (87 : Int32)) from c_83)
            unfold cb_X6_jump_60
            have l_89 : (1 : Int32).toInt = 1 := rfl
            refine WP.bind (cs_X11_truth hfu (1 : Int32) F11 G11 hI11 (by decide)) ?_
            rintro r90 _ _ ⟨rfl, rfl, hp90⟩
            dsimp only
            unfold cb_X6_jump_66
            have q_91 := i_rng r90
            refine WP.bind (cs_X6_push hfu r90 F11 G11 hI11) ?_
            rintro r92 F92 G92 ⟨hI92, hB92, hT92, hO92, hK92, hp92⟩
            dsimp only
            have q_93 := hI92.r 10 rfl
            have e_94 : (F92 10).toInt = (F11 10).toInt := hO92
            unfold cb_X6_jump_69
            refine WP.ite (fun c_95 => absurd c_95 (by decide)) (fun _ => ?_)
            unfold cb_X6_jump_73
            have q_96 := i_rng x2
            have j_97 : CI (fup F92 57 x2) G92 := CI.fr rfl hI92
            unfold cb_X6_jump_78
            refine WP.ret ?_
            exact ⟨j_97, (KB.f (by decide) (KB.tr (KB.tr (KB.rf : KB F G F G) hB11) hB92)), (KT.f (by decide) (KT.tr (KT.tr (rfl : KT F F) hT11) hT92)), (KO.f (by decide) (KO.tr (KO.tr (rfl : KO F F) hO11) hO92)), (KK.f (by decide) (KK.tr (KK.tr (rfl : KK F F) hK11) hK92)), trivial⟩
        · skip
          have l_98 : (87 : Int32).toInt = 87 := rfl
          have e_99 := mt i_eq.mpr (show ¬ (x1 = (87 : Int32)) from c_78)
          unfold cb_X6_jump_40
          unfold cb_X6_jump_41
          refine WP.ite (fun c_100 => absurd c_100 (by decide)) (fun _ => ?_)
          unfold cb_X6_jump_48
          unfold cb_X6_jump_49
          refine WP.ite (fun _ => ?_) (fun c_101 => absurd (by decide) c_101)
          unfold cb_X6_jump_69
          refine WP.ite (fun _ => ?_) (fun c_102 => absurd (by decide) c_102)
          unfold cb_X6_jump_78
          refine WP.ret ?_
          exact ⟨hI11, (KB.tr (KB.rf : KB F G F G) hB11), (KT.tr (rfl : KT F F) hT11), (KO.tr (rfl : KO F F) hO11), (KK.tr (rfl : KK F F) hK11), trivial⟩
theorem cs_X6_next {fu : Nat} (hfu : 8589934592 ≤ fu) (F : PF) (G : PG) (hI : CI F G) : WP (cf_X6_next fu F G) (fun r' F' G' => CI F' G' ∧ KB F G F' G' ∧ KT F F' ∧ KO F F' ∧ KK F F' ∧ True) := by
  unfold cf_X6_next
  unfold cb_X6_next_0
  refine WP.ite (fun c_1 => ?_) (fun c_1 => ?_)
  · skip
    have q_2 := i_rng (F 57)
    have l_3 : (0 : Int32).toInt = 0 := rfl
    have e_4 := i_lt.mp (show (F 57) < (0 : Int32) from c_1)
    unfold cb_X6_next_21
    unfold cb_X6_next_38
    first | have e_5 : ((F 57) + (1 : Int32)).toInt = (F 57).toInt + (1) := i_addn (F 57) rfl (by omega) (by omega) | have e_6 := i_rng ((F 57) + (1 : Int32))
    have j_7 : CI (fup F 57 ((F 57) + (1 : Int32))) G := CI.fr rfl hI
    unfold cb_X6_next_49
    refine WP.ret ?_
    exact ⟨j_7, (KB.f (by decide) (KB.rf : KB F G F G)), (KT.f (by decide) (rfl : KT F F)), (KO.f (by decide) (rfl : KO F F)), (KK.f (by decide) (rfl : KK F F)), trivial⟩
  · skip
    have q_8 := i_rng (F 57)
    have l_9 : (0 : Int32).toInt = 0 := rfl
    have e_10 := mt i_lt.mpr (show ¬ ((F 57) < (0 : Int32)) from c_1)
    unfold cb_X6_next_7
    refine WP.ite (fun c_11 => ?_) (fun c_11 => ?_)
    · skip
      have q_12 := hI.r 6 rfl
      have e_13 := i_lt.mp (show (F 57) < (F 6) from c_11)
      unfold cb_X6_next_26
      refine WP.ix (show vp_in (F 57) 8400 from vp_in_iff.mpr ⟨by omega, by omega⟩) ?_
      unfold cb_X6_next_38
      first | have e_14 : ((F 57) + (1 : Int32)).toInt = (F 57).toInt + (1) := i_addn (F 57) rfl (by omega) (by omega) | have e_15 := i_rng ((F 57) + (1 : Int32))
      have j_16 : CI (fup F 57 ((F 57) + (1 : Int32))) G := CI.fr rfl hI
      unfold cb_X6_next_49
      refine WP.ret ?_
      exact ⟨j_16, (KB.f (by decide) (KB.rf : KB F G F G)), (KT.f (by decide) (rfl : KT F F)), (KO.f (by decide) (rfl : KO F F)), (KK.f (by decide) (rfl : KK F F)), trivial⟩
    · skip
      have q_17 := hI.r 6 rfl
      have e_18 := mt i_lt.mpr (show ¬ ((F 57) < (F 6)) from c_11)
      unfold cb_X6_next_21
      unfold cb_X6_next_38
      first | have e_19 : ((F 57) + (1 : Int32)).toInt = (F 57).toInt + (1) := i_addn (F 57) rfl (by omega) (by omega) | have e_20 := i_rng ((F 57) + (1 : Int32))
      have j_21 : CI (fup F 57 ((F 57) + (1 : Int32))) G := CI.fr rfl hI
      unfold cb_X6_next_49
      refine WP.ret ?_
      exact ⟨j_21, (KB.f (by decide) (KB.rf : KB F G F G)), (KT.f (by decide) (rfl : KT F F)), (KO.f (by decide) (rfl : KO F F)), (KK.f (by decide) (rfl : KK F F)), trivial⟩
theorem cs_X6_changed {fu : Nat} (hfu : 8589934592 ≤ fu) (x0 : Int32) (x1 : Int32) (F : PF) (G : PG) (hI : CI F G) : WP (cf_X6_changed fu x0 x1 F G) (fun r' F' G' => F = F' ∧ G = G' ∧ True) := by
  unfold cf_X6_changed
  unfold cb_X6_changed_0
  have q_1 := i_rng x0
  refine WP.ite (fun c_2 => ?_) (fun c_2 => ?_)
  · have e_3 : x0.toInt < 62 ∨ 64 < x0.toInt := c_2
    unfold cb_X6_changed_48
    refine WP.ite (fun c_4 => ?_) (fun c_4 => ?_)
    · skip
      have q_5 := i_rng x1
      have l_6 : (0 : Int32).toInt = 0 := rfl
      have e_7 := i_eq.mp (show x1 = (0 : Int32) from c_4)
      unfold cb_X6_changed_56
      unfold cb_X6_changed_57
      refine WP.bind (cs_X11_truth hfu (0 : Int32) F G hI (by decide)) ?_
      rintro r8 _ _ ⟨rfl, rfl, hp8⟩
      dsimp only
      unfold cb_X6_changed_60
      refine WP.ret ?_
      exact ⟨rfl, rfl, trivial⟩
    · skip
      have q_9 := i_rng x1
      have l_10 : (0 : Int32).toInt = 0 := rfl
      have e_11 := mt i_eq.mpr (show ¬ (x1 = (0 : Int32)) from c_4)
      unfold cb_X6_changed_52
      unfold cb_X6_changed_57
      have l_12 : (1 : Int32).toInt = 1 := rfl
      refine WP.bind (cs_X11_truth hfu (1 : Int32) F G hI (by decide)) ?_
      rintro r13 _ _ ⟨rfl, rfl, hp13⟩
      dsimp only
      unfold cb_X6_changed_60
      refine WP.ret ?_
      exact ⟨rfl, rfl, trivial⟩
  have e_14 : ¬ (x0.toInt < 62 ∨ 64 < x0.toInt) := c_2
  refine WP.ite (fun c_15 => ?_) (fun c_15 => ?_)
  · skip
    have l_16 : (62 : Int32).toInt = 62 := rfl
    have e_17 := i_eq.mp (show x0 = (62 : Int32) from c_15)
    unfold cb_X6_changed_28
    refine WP.ret ?_
    exact ⟨rfl, rfl, trivial⟩
  have l_18 : (62 : Int32).toInt = 62 := rfl
  have e_19 := mt i_eq.mpr (show ¬ (x0 = (62 : Int32)) from c_15)
  refine WP.ite (fun c_20 => ?_) (fun c_20 => ?_)
  · skip
    have l_21 : (63 : Int32).toInt = 63 := rfl
    have e_22 := i_eq.mp (show x0 = (63 : Int32) from c_20)
    unfold cb_X6_changed_32
    refine WP.ite (fun c_23 => ?_) (fun c_23 => ?_)
    · skip
      have q_24 := i_rng x1
      have l_25 : (0 : Int32).toInt = 0 := rfl
      have e_26 := i_eq.mp (show x1 = (0 : Int32) from c_23)
      unfold cb_X6_changed_36
      unfold cb_X6_changed_41
      have l_27 : (1 : Int32).toInt = 1 := rfl
      refine WP.bind (cs_X11_truth hfu (1 : Int32) F G hI (by decide)) ?_
      rintro r28 _ _ ⟨rfl, rfl, hp28⟩
      dsimp only
      unfold cb_X6_changed_44
      refine WP.ret ?_
      exact ⟨rfl, rfl, trivial⟩
    · skip
      have q_29 := i_rng x1
      have l_30 : (0 : Int32).toInt = 0 := rfl
      have e_31 := mt i_eq.mpr (show ¬ (x1 = (0 : Int32)) from c_23)
      unfold cb_X6_changed_40
      unfold cb_X6_changed_41
      refine WP.bind (cs_X11_truth hfu (0 : Int32) F G hI (by decide)) ?_
      rintro r32 _ _ ⟨rfl, rfl, hp32⟩
      dsimp only
      unfold cb_X6_changed_44
      refine WP.ret ?_
      exact ⟨rfl, rfl, trivial⟩
  have l_33 : (63 : Int32).toInt = 63 := rfl
  have e_34 := mt i_eq.mpr (show ¬ (x0 = (63 : Int32)) from c_20)
  unfold cb_X6_changed_45
  refine WP.ret ?_
  exact ⟨rfl, rfl, trivial⟩
theorem cz_X6_valueFrom_12 {fu : Nat} (hfu : 8589934592 ≤ fu) {F0 : PF} {G0 : PG} : ∀ (n : Nat) (x2 : Int32) (F : PF) (G : PG) (hI : CI F G) (hB : KB F0 G0 F G) (hT : KT F0 F) (hO : KO F0 F) (hK : KK F0 F) (hn : (2147483647 - x2.toInt).toNat < n), WP (cl_X6_valueFrom_12 fu n x2 F G) (fun r' F' G' => CI F' G' ∧ KB F0 G0 F' G' ∧ KT F0 F' ∧ KO F0 F' ∧ KK F0 F' ∧ True) := by
  intro n
  induction n with
  | zero =>
    intro x2 F G hI hB hT hO hK hn
    exact absurd hn (Nat.not_lt_zero _)
  | succ n ihn =>
    intro x2 F G hI hB hT hO hK hn
    show WP (cb_X6_valueFrom_12 fu (cl_X6_valueFrom_12 fu n)  x2 F G) _
    unfold cb_X6_valueFrom_12
    refine WP.ite (fun c_1 => ?_) (fun c_1 => ?_)
    · skip
      have l_2 : (100000000 : Int32).toInt = 100000000 := rfl
      have q_3 := i_rng x2
      have e_4 := i_le.mp (show (100000000 : Int32) ≤ x2 from c_1)
      unfold cb_X6_valueFrom_119
      refine WP.bind (cs_X6_pop hfu F G hI) ?_
      rintro r5 F5 G5 ⟨hI5, hB5, hT5, hO5, hK5, hp5⟩
      dsimp only
      have q_6 := hI.r 10 rfl
      have q_7 := hI5.r 10 rfl
      have e_8 : (F5 10).toInt = (F 10).toInt := hO5
      unfold cb_X6_valueFrom_123
      refine WP.ret ?_
      exact ⟨hI5, (KB.tr hB hB5), (KT.tr hT hT5), (KO.tr hO hO5), (KK.tr hK hK5), trivial⟩
    · skip
      have l_9 : (100000000 : Int32).toInt = 100000000 := rfl
      have q_10 := i_rng x2
      have e_11 := mt i_le.mpr (show ¬ ((100000000 : Int32) ≤ x2) from c_1)
      unfold cb_X6_valueFrom_18
      refine WP.ite (fun c_12 => ?_) (fun c_12 => ?_)
      · skip
        have q_13 := hI.r 6 rfl
        have q_14 := i_rng (F 57)
        have e_15 := i_le.mp (show (F 6) ≤ (F 57) from c_12)
        unfold cb_X6_valueFrom_119
        refine WP.bind (cs_X6_pop hfu F G hI) ?_
        rintro r16 F16 G16 ⟨hI16, hB16, hT16, hO16, hK16, hp16⟩
        dsimp only
        have q_17 := hI.r 10 rfl
        have q_18 := hI16.r 10 rfl
        have e_19 : (F16 10).toInt = (F 10).toInt := hO16
        unfold cb_X6_valueFrom_123
        refine WP.ret ?_
        exact ⟨hI16, (KB.tr hB hB16), (KT.tr hT hT16), (KO.tr hO hO16), (KK.tr hK hK16), trivial⟩
      · skip
        have q_20 := hI.r 6 rfl
        have q_21 := i_rng (F 57)
        have e_22 := mt i_le.mpr (show ¬ ((F 6) ≤ (F 57)) from c_12)
        unfold cb_X6_valueFrom_32
        refine WP.bind (cs_X6_next hfu F G hI) ?_
        rintro r23 F23 G23 ⟨hI23, hB23, hT23, hO23, hK23, hp23⟩
        dsimp only
        have q_24 := hI.r 10 rfl
        have q_25 := hI23.r 10 rfl
        have e_26 : (F23 10).toInt = (F 10).toInt := hO23
        unfold cb_X6_valueFrom_36
        refine WP.ite (fun c_27 => ?_) (fun c_27 => ?_)
        · skip
          have q_28 := i_rng r23
          have l_29 : (66 : Int32).toInt = 66 := rfl
          have e_30 := i_eq.mp (show r23 = (66 : Int32) from c_27)
          unfold cb_X6_valueFrom_43
          refine WP.bind (cs_X6_next hfu F23 G23 hI23) ?_
          rintro r31 F31 G31 ⟨hI31, hB31, hT31, hO31, hK31, hp31⟩
          dsimp only
          have q_32 := hI31.r 10 rfl
          have e_33 : (F31 10).toInt = (F23 10).toInt := hO31
          unfold cb_X6_valueFrom_48
          have q_34 := i_rng r31
          refine WP.bind (cs_X6_push hfu r31 F31 G31 hI31) ?_
          rintro r35 F35 G35 ⟨hI35, hB35, hT35, hO35, hK35, hp35⟩
          dsimp only
          have q_36 := hI35.r 10 rfl
          have e_37 : (F35 10).toInt = (F31 10).toInt := hO35
          unfold cb_X6_valueFrom_51
          unfold cb_X6_valueFrom_113
          first | have e_38 : (x2 + (1 : Int32)).toInt = x2.toInt + (1) := i_addn x2 rfl (by omega) (by omega) | have e_39 := i_rng (x2 + (1 : Int32))
          exact ihn (x2 + (1 : Int32)) F35 G35 hI35 (KB.tr (KB.tr (KB.tr hB hB23) hB31) hB35) (KT.tr (KT.tr (KT.tr hT hT23) hT31) hT35) (KO.tr (KO.tr (KO.tr hO hO23) hO31) hO35) (KK.tr (KK.tr (KK.tr hK hK23) hK31) hK35) (by omega)
        · skip
          have q_40 := i_rng r23
          have l_41 : (66 : Int32).toInt = 66 := rfl
          have e_42 := mt i_eq.mpr (show ¬ (r23 = (66 : Int32)) from c_27)
          unfold cb_X6_valueFrom_54
          refine WP.ite (fun c_43 => ?_) (fun c_43 => ?_)
          · skip
            have l_44 : (84 : Int32).toInt = 84 := rfl
            have e_45 := i_lt.mp (show r23 < (84 : Int32) from c_43)
            unfold cb_X6_valueFrom_72
            refine WP.ite (fun c_46 => ?_) (fun c_46 => ?_)
            · skip
              have l_47 : (62 : Int32).toInt = 62 := rfl
              have e_48 := i_lt.mp (show r23 < (62 : Int32) from c_46)
              unfold cb_X6_valueFrom_93
              refine WP.bind (cs_X6_pop hfu F23 G23 hI23) ?_
              rintro r49 F49 G49 ⟨hI49, hB49, hT49, hO49, hK49, hp49⟩
              dsimp only
              have q_50 := hI49.r 10 rfl
              have e_51 : (F49 10).toInt = (F23 10).toInt := hO49
              unfold cb_X6_valueFrom_97
              refine WP.bind (cs_X6_pop hfu F49 G49 hI49) ?_
              rintro r52 F52 G52 ⟨hI52, hB52, hT52, hO52, hK52, hp52⟩
              dsimp only
              have q_53 := hI52.r 10 rfl
              have e_54 : (F52 10).toInt = (F49 10).toInt := hO52
              unfold cb_X6_valueFrom_105
              have q_55 := i_rng r52
              have q_56 := i_rng r49
              refine WP.bind (cs_X11_joined hfu r23 r52 r49 F52 G52 hI52) ?_
              rintro r57 _ _ ⟨rfl, rfl, hp57⟩
              dsimp only
              unfold cb_X6_valueFrom_110
              have q_58 := i_rng r57
              refine WP.bind (cs_X6_push hfu r57 F52 G52 hI52) ?_
              rintro r59 F59 G59 ⟨hI59, hB59, hT59, hO59, hK59, hp59⟩
              dsimp only
              have q_60 := hI59.r 10 rfl
              have e_61 : (F59 10).toInt = (F52 10).toInt := hO59
              unfold cb_X6_valueFrom_113
              first | have e_62 : (x2 + (1 : Int32)).toInt = x2.toInt + (1) := i_addn x2 rfl (by omega) (by omega) | have e_63 := i_rng (x2 + (1 : Int32))
              exact ihn (x2 + (1 : Int32)) F59 G59 hI59 (KB.tr (KB.tr (KB.tr (KB.tr hB hB23) hB49) hB52) hB59) (KT.tr (KT.tr (KT.tr (KT.tr hT hT23) hT49) hT52) hT59) (KO.tr (KO.tr (KO.tr (KO.tr hO hO23) hO49) hO52) hO59) (KK.tr (KK.tr (KK.tr (KK.tr hK hK23) hK49) hK52) hK59) (by omega)
            · skip
              have l_64 : (62 : Int32).toInt = 62 := rfl
              have e_65 := mt i_lt.mpr (show ¬ (r23 < (62 : Int32)) from c_46)
              unfold cb_X6_valueFrom_78
              refine WP.bind (cs_X6_pop hfu F23 G23 hI23) ?_
              rintro r66 F66 G66 ⟨hI66, hB66, hT66, hO66, hK66, hp66⟩
              dsimp only
              have q_67 := hI66.r 10 rfl
              have e_68 : (F66 10).toInt = (F23 10).toInt := hO66
              unfold cb_X6_valueFrom_84
              have q_69 := i_rng r66
              refine WP.bind (cs_X6_changed hfu r23 r66 F66 G66 hI66) ?_
              rintro r70 _ _ ⟨rfl, rfl, hp70⟩
              dsimp only
              unfold cb_X6_valueFrom_87
              have q_71 := i_rng r70
              refine WP.bind (cs_X6_push hfu r70 F66 G66 hI66) ?_
              rintro r72 F72 G72 ⟨hI72, hB72, hT72, hO72, hK72, hp72⟩
              dsimp only
              have q_73 := hI72.r 10 rfl
              have e_74 : (F72 10).toInt = (F66 10).toInt := hO72
              unfold cb_X6_valueFrom_90
              unfold cb_X6_valueFrom_113
              first | have e_75 : (x2 + (1 : Int32)).toInt = x2.toInt + (1) := i_addn x2 rfl (by omega) (by omega) | have e_76 := i_rng (x2 + (1 : Int32))
              exact ihn (x2 + (1 : Int32)) F72 G72 hI72 (KB.tr (KB.tr (KB.tr hB hB23) hB66) hB72) (KT.tr (KT.tr (KT.tr hT hT23) hT66) hT72) (KO.tr (KO.tr (KO.tr hO hO23) hO66) hO72) (KK.tr (KK.tr (KK.tr hK hK23) hK66) hK72) (by omega)
          · skip
            have l_77 : (84 : Int32).toInt = 84 := rfl
            have e_78 := mt i_lt.mpr (show ¬ (r23 < (84 : Int32)) from c_43)
            unfold cb_X6_valueFrom_60
            refine WP.bind (cs_X6_next hfu F23 G23 hI23) ?_
            rintro r79 F79 G79 ⟨hI79, hB79, hT79, hO79, hK79, hp79⟩
            dsimp only
            have q_80 := hI79.r 10 rfl
            have e_81 : (F79 10).toInt = (F23 10).toInt := hO79
            unfold cb_X6_valueFrom_66
            have q_82 := i_rng r79
            refine WP.bind (cs_X6_jump hfu r23 r79 F79 G79 hI79) ?_
            rintro r83 F83 G83 ⟨hI83, hB83, hT83, hO83, hK83, hp83⟩
            dsimp only
            have q_84 := hI83.r 10 rfl
            have e_85 : (F83 10).toInt = (F79 10).toInt := hO83
            unfold cb_X6_valueFrom_69
            unfold cb_X6_valueFrom_113
            first | have e_86 : (x2 + (1 : Int32)).toInt = x2.toInt + (1) := i_addn x2 rfl (by omega) (by omega) | have e_87 := i_rng (x2 + (1 : Int32))
            exact ihn (x2 + (1 : Int32)) F83 G83 hI83 (KB.tr (KB.tr (KB.tr hB hB23) hB79) hB83) (KT.tr (KT.tr (KT.tr hT hT23) hT79) hT83) (KO.tr (KO.tr (KO.tr hO hO23) hO79) hO83) (KK.tr (KK.tr (KK.tr hK hK23) hK79) hK83) (by omega)
theorem cs_X6_valueFrom {fu : Nat} (hfu : 8589934592 ≤ fu) (x1 : Int32) (F : PF) (G : PG) (hI : CI F G) : WP (cf_X6_valueFrom fu x1 F G) (fun r' F' G' => CI F' G' ∧ KB F G F' G' ∧ KT F F' ∧ KO F F' ∧ KK F F' ∧ True) := by
  unfold cf_X6_valueFrom
  unfold cb_X6_valueFrom_0
  have q_1 := i_rng x1
  have j_2 : CI (fup F 57 x1) G := CI.fr rfl hI
  unfold cb_X6_valueFrom_5
  have l_3 : (0 : Int32).toInt = 0 := rfl
  have q_5 := hI.xx
  have j_4 : CI (fup (fup F 57 x1) 56 (0 : Int32)) G := CI.top j_2 (by omega) (show (0 : Int32).toInt ≤ (xn F : Int) by omega)
  unfold cb_X6_valueFrom_10
  exact cz_X6_valueFrom_12 (F0 := F) (G0 := G) hfu fu (0 : Int32) (fup (fup F 57 x1) 56 (0 : Int32)) G j_4 (KB.f (by decide) (KB.f (by decide) (KB.rf : KB F G F G))) (KT.f (by decide) (KT.f (by decide) (rfl : KT F F))) (KO.f (by decide) (KO.f (by decide) (rfl : KO F F))) (KK.f (by decide) (KK.f (by decide) (rfl : KK F F))) (by omega)
theorem cs_X3_constant {fu : Nat} (hfu : 8589934592 ≤ fu) (F : PF) (G : PG) (hI : CI F G) : WP (cf_X3_constant fu F G) (fun r' F' G' => CI F' G' ∧ KB F G F' G' ∧ KT F F' ∧ KO F F' ∧ True) := by
  unfold cf_X3_constant
  unfold cb_X3_constant_0
  refine WP.bind (cs_X5_startConstant hfu F G hI) ?_
  rintro r1 F1 G1 ⟨hI1, hB1, hT1, hO1, hK1, hp1⟩
  dsimp only
  have q_2 := hI.r 10 rfl
  have q_3 := hI1.r 10 rfl
  have e_4 : (F1 10).toInt = (F 10).toInt := hO1
  unfold cb_X3_constant_15
  refine WP.bind (cs_X3_expression hfu F1 G1 hI1) ?_
  rintro r5 F5 G5 ⟨hI5, hB5, hT5, hO5, hS5, hp5⟩
  dsimp only
  have q_6 := hI5.r 10 rfl
  have e_7 : (F5 10).toInt = (F1 10).toInt := hO5
  unfold cb_X3_constant_19
  refine WP.bind (cs_X5_endsConstant hfu F5 G5 hI5) ?_
  rintro r8 F8 G8 ⟨hI8, hB8, hT8, hO8, hK8, hp8⟩
  dsimp only
  have q_9 := hI8.r 10 rfl
  have e_10 : (F8 10).toInt = (F5 10).toInt := hO8
  have q_11 := b_rng hp8
  unfold cb_X3_constant_26
  refine WP.ite (fun c_12 => ?_) (fun c_12 => ?_)
  · skip
    have l_13 : (0 : Int32).toInt = 0 := rfl
    have e_14 := i_eq.mp (show r8 = (0 : Int32) from c_12)
    unfold cb_X3_constant_40
    unfold cb_X3_constant_41
    have q_15 := hI.r 6 rfl
    refine WP.bind (cs_X1_cut hfu (F 6) F8 G8 hI8) ?_
    rintro r16 F16 G16 ⟨hI16, hB16, hT16, hO16, hK16, hp16⟩
    dsimp only
    have q_17 := hI16.r 10 rfl
    have e_18 : (F16 10).toInt = (F8 10).toInt := hO16
    unfold cb_X3_constant_50
    refine WP.ret ?_
    exact ⟨hI16, (KB.tr (KB.tr (KB.tr (KB.tr (KB.rf : KB F G F G) hB1) hB5) hB8) hB16), (KT.tr (KT.tr (KT.tr (KT.tr (rfl : KT F F) hT1) hT5) hT8) hT16), (KO.tr (KO.tr (KO.tr (KO.tr (rfl : KO F F) hO1) hO5) hO8) hO16), trivial⟩
  · skip
    have l_19 : (0 : Int32).toInt = 0 := rfl
    have e_20 := mt i_eq.mpr (show ¬ (r8 = (0 : Int32)) from c_12)
    unfold cb_X3_constant_29
    have q_21 := hI.r 6 rfl
    refine WP.bind (cs_X6_valueFrom hfu (F 6) F8 G8 hI8) ?_
    rintro r22 F22 G22 ⟨hI22, hB22, hT22, hO22, hK22, hp22⟩
    dsimp only
    have q_23 := hI22.r 10 rfl
    have e_24 : (F22 10).toInt = (F8 10).toInt := hO22
    unfold cb_X3_constant_37
    unfold cb_X3_constant_41
    refine WP.bind (cs_X1_cut hfu (F 6) F22 G22 hI22) ?_
    rintro r25 F25 G25 ⟨hI25, hB25, hT25, hO25, hK25, hp25⟩
    dsimp only
    have q_26 := hI25.r 10 rfl
    have e_27 : (F25 10).toInt = (F22 10).toInt := hO25
    unfold cb_X3_constant_50
    refine WP.ret ?_
    exact ⟨hI25, (KB.tr (KB.tr (KB.tr (KB.tr (KB.tr (KB.rf : KB F G F G) hB1) hB5) hB8) hB22) hB25), (KT.tr (KT.tr (KT.tr (KT.tr (KT.tr (rfl : KT F F) hT1) hT5) hT8) hT22) hT25), (KO.tr (KO.tr (KO.tr (KO.tr (KO.tr (rfl : KO F F) hO1) hO5) hO8) hO22) hO25), trivial⟩
theorem cs_X5_elements {fu : Nat} (hfu : 8589934592 ≤ fu) (x1 : Int32) (x2 : Int32) (F : PF) (G : PG) (hI : CI F G) : WP (cf_X5_elements fu x1 x2 F G) (fun r' F' G' => CI F' G' ∧ KB F G F' G' ∧ KT F F' ∧ KO F F' ∧ KK F F' ∧ True) := by
  unfold cf_X5_elements
  unfold cb_X5_elements_0
  refine WP.ite (fun c_1 => ?_) (fun c_1 => ?_)
  · skip
    have q_2 := i_rng x1
    have l_3 : (1 : Int32).toInt = 1 := rfl
    have e_4 := i_lt.mp (show x1 < (1 : Int32) from c_1)
    unfold cb_X5_elements_12
    have l_5 : (7 : Int32).toInt = 7 := rfl
    have q_6 := i_rng x2
    refine WP.bind (cs_X5_note hfu (7 : Int32) x2 F G hI) ?_
    rintro r7 F7 G7 ⟨hI7, hB7, hT7, hO7, hK7, hp7⟩
    dsimp only
    have q_8 := hI.r 10 rfl
    have q_9 := hI7.r 10 rfl
    have e_10 : (F7 10).toInt = (F 10).toInt := hO7
    unfold cb_X5_elements_19
    refine WP.ret ?_
    exact ⟨hI7, (KB.tr (KB.rf : KB F G F G) hB7), (KT.tr (rfl : KT F F) hT7), (KO.tr (rfl : KO F F) hO7), (KK.tr (rfl : KK F F) hK7), trivial⟩
  · skip
    have q_11 := i_rng x1
    have l_12 : (1 : Int32).toInt = 1 := rfl
    have e_13 := mt i_lt.mpr (show ¬ (x1 < (1 : Int32)) from c_1)
    unfold cb_X5_elements_5
    refine WP.ite (fun c_14 => ?_) (fun c_14 => ?_)
    · skip
      have l_15 : (500 : Int32).toInt = 500 := rfl
      have e_16 := i_le.mp (show x1 ≤ (500 : Int32) from c_14)
      unfold cb_X5_elements_21
      refine WP.ret ?_
      exact ⟨hI, (KB.rf : KB F G F G), (rfl : KT F F), (rfl : KO F F), (rfl : KK F F), trivial⟩
    · skip
      have l_17 : (500 : Int32).toInt = 500 := rfl
      have e_18 := mt i_le.mpr (show ¬ (x1 ≤ (500 : Int32)) from c_14)
      unfold cb_X5_elements_12
      have l_19 : (7 : Int32).toInt = 7 := rfl
      have q_20 := i_rng x2
      refine WP.bind (cs_X5_note hfu (7 : Int32) x2 F G hI) ?_
      rintro r21 F21 G21 ⟨hI21, hB21, hT21, hO21, hK21, hp21⟩
      dsimp only
      have q_22 := hI.r 10 rfl
      have q_23 := hI21.r 10 rfl
      have e_24 : (F21 10).toInt = (F 10).toInt := hO21
      unfold cb_X5_elements_19
      refine WP.ret ?_
      exact ⟨hI21, (KB.tr (KB.rf : KB F G F G) hB21), (KT.tr (rfl : KT F F) hT21), (KO.tr (rfl : KO F F) hO21), (KK.tr (rfl : KK F F) hK21), trivial⟩
theorem cs_X3_arraySize {fu : Nat} (hfu : 8589934592 ≤ fu) (F : PF) (G : PG) (hI : CI F G) : WP (cf_X3_arraySize fu F G) (fun r' F' G' => CI F' G' ∧ KB F G F' G' ∧ KT F F' ∧ KO F F' ∧ True) := by
  unfold cf_X3_arraySize
  unfold cb_X3_arraySize_0
  have l_1 : (21 : Int32).toInt = 21 := rfl
  refine WP.bind (cs_X2_opens hfu (21 : Int32) F G hI (show (21 : Int32).toInt ≠ -2 by omega)) ?_
  rintro r2 F2 G2 ⟨hI2, hB2, hT2, hS2, hp2⟩
  dsimp only
  have q_3 := b_rng (hp2.1)
  have q_4 := hI.r 10 rfl
  have q_5 := hI2.r 10 rfl
  have q_6 := i_rng (F 11)
  have e_7 : r2.toInt = 1 → (F2 10).toInt = (F 10).toInt + 1 ∧ (F 10).toInt < 40 ∧ (F 11).toInt ≠ -2 := hp2.2.1
  have e_8 : r2.toInt = 0 → (F2 10).toInt = (F 10).toInt ∧ (F2 11).toInt = -2 := hp2.2.2
  unfold cb_X3_arraySize_9
  refine WP.ite (fun c_9 => ?_) (fun c_9 => ?_)
  · skip
    have l_10 : (0 : Int32).toInt = 0 := rfl
    have e_11 := i_eq.mp (show r2 = (0 : Int32) from c_9)
    unfold cb_X3_arraySize_12
    refine WP.ret ?_
    exact ⟨hI2, (KB.tr (KB.rf : KB F G F G) hB2), (KT.tr (rfl : KT F F) hT2), (show (F2 10).toInt = (F 10).toInt by omega), trivial⟩
  · skip
    have l_12 : (0 : Int32).toInt = 0 := rfl
    have e_13 := mt i_eq.mpr (show ¬ (r2 = (0 : Int32)) from c_9)
    unfold cb_X3_arraySize_14
    refine WP.bind (cs_X5_startConstant hfu F2 G2 hI2) ?_
    rintro r14 F14 G14 ⟨hI14, hB14, hT14, hO14, hK14, hp14⟩
    dsimp only
    have q_15 := hI14.r 10 rfl
    have e_16 : (F14 10).toInt = (F2 10).toInt := hO14
    unfold cb_X3_arraySize_37
    refine WP.bind (cs_X3_expression hfu F14 G14 hI14) ?_
    rintro r17 F17 G17 ⟨hI17, hB17, hT17, hO17, hS17, hp17⟩
    dsimp only
    have q_18 := hI17.r 10 rfl
    have e_19 : (F17 10).toInt = (F14 10).toInt := hO17
    unfold cb_X3_arraySize_41
    refine WP.bind (cs_X5_endsConstant hfu F17 G17 hI17) ?_
    rintro r20 F20 G20 ⟨hI20, hB20, hT20, hO20, hK20, hp20⟩
    dsimp only
    have q_21 := hI20.r 10 rfl
    have e_22 : (F20 10).toInt = (F17 10).toInt := hO20
    have q_23 := b_rng hp20
    unfold cb_X3_arraySize_48
    refine WP.ite (fun c_24 => ?_) (fun c_24 => ?_)
    · skip
      have e_25 := i_eq.mp (show r20 = (0 : Int32) from c_24)
      unfold cb_X3_arraySize_70
      unfold cb_X3_arraySize_71
      have q_26 := hI2.r 6 rfl
      refine WP.bind (cs_X1_cut hfu (F2 6) F20 G20 hI20) ?_
      rintro r27 F27 G27 ⟨hI27, hB27, hT27, hO27, hK27, hp27⟩
      dsimp only
      have q_28 := hI27.r 10 rfl
      have e_29 : (F27 10).toInt = (F20 10).toInt := hO27
      unfold cb_X3_arraySize_80
      have l_30 : (22 : Int32).toInt = 22 := rfl
      refine WP.bind (cs_X2_closesWith hfu (22 : Int32) F27 G27 hI27 (show 0 ≤ (F27 10).toInt by omega) (show (22 : Int32).toInt ≠ -2 by omega)) ?_
      rintro r31 F31 G31 ⟨hI31, hB31, hT31, hS31, hp31⟩
      dsimp only
      have q_32 := hI31.r 10 rfl
      have e_33 : (F31 10).toInt = (F27 10).toInt - 1 := hp31
      unfold cb_X3_arraySize_89
      refine WP.ret ?_
      exact ⟨hI31, (KB.tr (KB.tr (KB.tr (KB.tr (KB.tr (KB.tr (KB.rf : KB F G F G) hB2) hB14) hB17) hB20) hB27) hB31), (KT.tr (KT.tr (KT.tr (KT.tr (KT.tr (KT.tr (rfl : KT F F) hT2) hT14) hT17) hT20) hT27) hT31), (show (F31 10).toInt = (F 10).toInt by omega), trivial⟩
    · skip
      have e_34 := mt i_eq.mpr (show ¬ (r20 = (0 : Int32)) from c_24)
      unfold cb_X3_arraySize_51
      have q_35 := hI2.r 6 rfl
      refine WP.bind (cs_X6_valueFrom hfu (F2 6) F20 G20 hI20) ?_
      rintro r36 F36 G36 ⟨hI36, hB36, hT36, hO36, hK36, hp36⟩
      dsimp only
      have q_37 := hI36.r 10 rfl
      have e_38 : (F36 10).toInt = (F20 10).toInt := hO36
      unfold cb_X3_arraySize_63
      have q_39 := i_rng r36
      have q_40 := i_rng (F2 13)
      refine WP.bind (cs_X5_elements hfu r36 (F2 13) F36 G36 hI36) ?_
      rintro r41 F41 G41 ⟨hI41, hB41, hT41, hO41, hK41, hp41⟩
      dsimp only
      have q_42 := hI41.r 10 rfl
      have e_43 : (F41 10).toInt = (F36 10).toInt := hO41
      unfold cb_X3_arraySize_67
      unfold cb_X3_arraySize_71
      refine WP.bind (cs_X1_cut hfu (F2 6) F41 G41 hI41) ?_
      rintro r44 F44 G44 ⟨hI44, hB44, hT44, hO44, hK44, hp44⟩
      dsimp only
      have q_45 := hI44.r 10 rfl
      have e_46 : (F44 10).toInt = (F41 10).toInt := hO44
      unfold cb_X3_arraySize_80
      have l_47 : (22 : Int32).toInt = 22 := rfl
      refine WP.bind (cs_X2_closesWith hfu (22 : Int32) F44 G44 hI44 (show 0 ≤ (F44 10).toInt by omega) (show (22 : Int32).toInt ≠ -2 by omega)) ?_
      rintro r48 F48 G48 ⟨hI48, hB48, hT48, hS48, hp48⟩
      dsimp only
      have q_49 := hI48.r 10 rfl
      have e_50 : (F48 10).toInt = (F44 10).toInt - 1 := hp48
      unfold cb_X3_arraySize_89
      refine WP.ret ?_
      exact ⟨hI48, (KB.tr (KB.tr (KB.tr (KB.tr (KB.tr (KB.tr (KB.tr (KB.tr (KB.rf : KB F G F G) hB2) hB14) hB17) hB20) hB36) hB41) hB44) hB48), (KT.tr (KT.tr (KT.tr (KT.tr (KT.tr (KT.tr (KT.tr (KT.tr (rfl : KT F F) hT2) hT14) hT17) hT20) hT36) hT41) hT44) hT48), (show (F48 10).toInt = (F 10).toInt by omega), trivial⟩
theorem cs_X3_keep {fu : Nat} (hfu : 8589934592 ≤ fu) (x1 : Int32) (F : PF) (G : PG) (hI : CI F G) : WP (cf_X3_keep fu x1 F G) (fun r' F' G' => CI F' G' ∧ KB F G F' G' ∧ KT F F' ∧ KO F F' ∧ KK F F' ∧ True) := by
  unfold cf_X3_keep
  unfold cb_X3_keep_0
  have q_1 := i_rng x1
  refine WP.bind (cs_X5_kind hfu x1 F G hI) ?_
  rintro r2 _ _ ⟨rfl, rfl, hp2⟩
  dsimp only
  have q_3 := i_rng r2
  unfold cb_X3_keep_12
  refine WP.ite (fun c_4 => ?_) (fun c_4 => ?_)
  · skip
    have l_5 : (3 : Int32).toInt = 3 := rfl
    have e_6 := i_eq.mp (show r2 = (3 : Int32) from c_4)
    unfold cb_X3_keep_16
    unfold cb_X3_keep_23
    have l_7 : (80 : Int32).toInt = 80 := rfl
    refine WP.bind (cs_X1_add hfu (80 : Int32) F G hI) ?_
    rintro r8 F8 G8 ⟨hI8, hB8, hT8, hO8, hK8, hp8⟩
    dsimp only
    have q_9 := hI.r 10 rfl
    have q_10 := hI8.r 10 rfl
    have e_11 : (F8 10).toInt = (F 10).toInt := hO8
    have q_12 := hI.r 21 rfl
    have q_13 := hI8.r 21 rfl
    have e_14 : (F8 21).toInt = (F 21).toInt := congrArg Int32.toInt hp8
    unfold cb_X3_keep_26
    refine WP.ret ?_
    exact ⟨hI8, (KB.tr (KB.rf : KB F G F G) hB8), (KT.tr (rfl : KT F F) hT8), (KO.tr (rfl : KO F F) hO8), (KK.tr (rfl : KK F F) hK8), trivial⟩
  · skip
    have l_15 : (3 : Int32).toInt = 3 := rfl
    have e_16 := mt i_eq.mpr (show ¬ (r2 = (3 : Int32)) from c_4)
    unfold cb_X3_keep_21
    unfold cb_X3_keep_23
    have l_17 : (79 : Int32).toInt = 79 := rfl
    refine WP.bind (cs_X1_add hfu (79 : Int32) F G hI) ?_
    rintro r18 F18 G18 ⟨hI18, hB18, hT18, hO18, hK18, hp18⟩
    dsimp only
    have q_19 := hI.r 10 rfl
    have q_20 := hI18.r 10 rfl
    have e_21 : (F18 10).toInt = (F 10).toInt := hO18
    have q_22 := hI.r 21 rfl
    have q_23 := hI18.r 21 rfl
    have e_24 : (F18 21).toInt = (F 21).toInt := congrArg Int32.toInt hp18
    unfold cb_X3_keep_26
    refine WP.ret ?_
    exact ⟨hI18, (KB.tr (KB.rf : KB F G F G) hB18), (KT.tr (rfl : KT F F) hT18), (KO.tr (rfl : KO F F) hO18), (KK.tr (rfl : KK F F) hK18), trivial⟩
theorem cs_X3_store {fu : Nat} (hfu : 8589934592 ≤ fu) (x1 : Int32) (F : PF) (G : PG) (hI : CI F G) : WP (cf_X3_store fu x1 F G) (fun r' F' G' => CI F' G' ∧ KB F G F' G' ∧ KT F F' ∧ KO F F' ∧ KK F F' ∧ True) := by
  unfold cf_X3_store
  unfold cb_X3_store_0
  have q_1 := i_rng x1
  refine WP.bind (cs_X5_isGlobal hfu x1 F G hI) ?_
  rintro r2 _ _ ⟨rfl, rfl, hp2⟩
  dsimp only
  have q_3 := b_rng hp2
  unfold cb_X3_store_12
  refine WP.ite (fun c_4 => ?_) (fun c_4 => ?_)
  · skip
    have l_5 : (0 : Int32).toInt = 0 := rfl
    have e_6 := i_eq.mp (show r2 = (0 : Int32) from c_4)
    unfold cb_X3_store_20
    unfold cb_X3_store_22
    refine WP.bind (cs_X5_value hfu x1 F G hI) ?_
    rintro r7 _ _ ⟨rfl, rfl, hp7⟩
    dsimp only
    unfold cb_X3_store_30
    have l_8 : (72 : Int32).toInt = 72 := rfl
    have q_9 := i_rng r7
    refine WP.bind (cs_X1_addPair hfu (72 : Int32) r7 F G hI) ?_
    rintro r10 F10 G10 ⟨hI10, hB10, hT10, hO10, hK10, hp10⟩
    dsimp only
    have q_11 := hI.r 10 rfl
    have q_12 := hI10.r 10 rfl
    have e_13 : (F10 10).toInt = (F 10).toInt := hO10
    unfold cb_X3_store_33
    refine WP.ret ?_
    exact ⟨hI10, (KB.tr (KB.rf : KB F G F G) hB10), (KT.tr (rfl : KT F F) hT10), (KO.tr (rfl : KO F F) hO10), (KK.tr (rfl : KK F F) hK10), trivial⟩
  · skip
    have l_14 : (0 : Int32).toInt = 0 := rfl
    have e_15 := mt i_eq.mpr (show ¬ (r2 = (0 : Int32)) from c_4)
    unfold cb_X3_store_15
    unfold cb_X3_store_22
    refine WP.bind (cs_X5_value hfu x1 F G hI) ?_
    rintro r16 _ _ ⟨rfl, rfl, hp16⟩
    dsimp only
    unfold cb_X3_store_30
    have l_17 : (71 : Int32).toInt = 71 := rfl
    have q_18 := i_rng r16
    refine WP.bind (cs_X1_addPair hfu (71 : Int32) r16 F G hI) ?_
    rintro r19 F19 G19 ⟨hI19, hB19, hT19, hO19, hK19, hp19⟩
    dsimp only
    have q_20 := hI.r 10 rfl
    have q_21 := hI19.r 10 rfl
    have e_22 : (F19 10).toInt = (F 10).toInt := hO19
    unfold cb_X3_store_33
    refine WP.ret ?_
    exact ⟨hI19, (KB.tr (KB.rf : KB F G F G) hB19), (KT.tr (rfl : KT F F) hT19), (KO.tr (rfl : KO F F) hO19), (KK.tr (rfl : KK F F) hK19), trivial⟩
theorem cs_X8_clear {fu : Nat} (hfu : 8589934592 ≤ fu) (F : PF) (G : PG) (hI : CI F G) : WP (cf_X8_clear fu F G) (fun r' F' G' => CI F' G' ∧ KB F G F' G' ∧ KT F F' ∧ KO F F' ∧ KK F F' ∧ True) := by
  unfold cf_X8_clear
  unfold cb_X8_clear_0
  have l_1 : (0 : Int32).toInt = 0 := rfl
  have j_2 : CI (fup F 73 (0 : Int32)) G := CI.rg (k := 73) (x := (0 : Int32)) rfl (by decide) (by decide) hI ⟨by omega, by omega⟩
  unfold cb_X8_clear_5
  have j_3 : CI (fup (fup F 73 (0 : Int32)) 74 (0 : Int32)) G := CI.rg (k := 74) (x := (0 : Int32)) rfl (by decide) (by decide) j_2 ⟨by omega, by omega⟩
  unfold cb_X8_clear_10
  have j_4 : CI (fup (fup (fup F 73 (0 : Int32)) 74 (0 : Int32)) 75 (0 : Int32)) G := CI.fr rfl j_3
  unfold cb_X8_clear_15
  have l_5 : (-1 : Int32).toInt = -1 := rfl
  have j_6 : CI (fup (fup (fup (fup F 73 (0 : Int32)) 74 (0 : Int32)) 75 (0 : Int32)) 76 (-1 : Int32)) G := CI.fr rfl j_4
  unfold cb_X8_clear_20
  have j_7 : CI (fup (fup (fup (fup (fup F 73 (0 : Int32)) 74 (0 : Int32)) 75 (0 : Int32)) 76 (-1 : Int32)) 85 (0 : Int32)) G := CI.rg (k := 85) (x := (0 : Int32)) rfl (by decide) (by decide) j_6 ⟨by omega, by omega⟩
  unfold cb_X8_clear_25
  refine WP.bind (cs_fill_86 hfu (0 : Int32) (fup (fup (fup (fup (fup F 73 (0 : Int32)) 74 (0 : Int32)) 75 (0 : Int32)) 76 (-1 : Int32)) 85 (0 : Int32)) G j_7) ?_
  rintro r8 F8 G8 ⟨hI8, hB8, hT8, hO8, hK8, hp8⟩
  dsimp only
  have q_9 := hI.r 10 rfl
  have q_10 := hI8.r 10 rfl
  have e_11 : (F8 10).toInt = (F 10).toInt := hO8
  unfold cb_X8_clear_33
  refine WP.ret ?_
  exact ⟨hI8, (KB.tr (KB.f (by decide) (KB.f (by decide) (KB.f (by decide) (KB.f (by decide) (KB.f (by decide) (KB.rf : KB F G F G)))))) hB8), (KT.tr (KT.f (by decide) (KT.f (by decide) (KT.f (by decide) (KT.f (by decide) (KT.f (by decide) (rfl : KT F F)))))) hT8), (KO.tr (KO.f (by decide) (KO.f (by decide) (KO.f (by decide) (KO.f (by decide) (KO.f (by decide) (rfl : KO F F)))))) hO8), (KK.tr (KK.f (by decide) (KK.f (by decide) (KK.f (by decide) (KK.f (by decide) (KK.f (by decide) (rfl : KK F F)))))) hK8), trivial⟩
theorem cs_X5_clear {fu : Nat} (hfu : 8589934592 ≤ fu) (F : PF) (G : PG) (hI : CI F G) : WP (cf_X5_clear fu F G) (fun r' F' G' => CI F' G' ∧ KB F G F' G' ∧ KT F F' ∧ KO F F' ∧ KK F F' ∧ True) := by
  unfold cf_X5_clear
  unfold cb_X5_clear_0
  have l_1 : (0 : Int32).toInt = 0 := rfl
  have j_2 : CI (fup F 41 (0 : Int32)) G := CI.rg (k := 41) (x := (0 : Int32)) rfl (by decide) (by decide) hI ⟨by omega, by omega⟩
  unfold cb_X5_clear_5
  have j_3 : CI (fup (fup F 41 (0 : Int32)) 42 (0 : Int32)) G := CI.fr rfl j_2
  unfold cb_X5_clear_10
  have l_4 : (4001 : Int32).toInt = 4001 := rfl
  have j_5 : CI (fup (fup (fup F 41 (0 : Int32)) 42 (0 : Int32)) 43 (4001 : Int32)) G := CI.fr rfl j_3
  unfold cb_X5_clear_17
  have j_6 : CI (fup (fup (fup (fup F 41 (0 : Int32)) 42 (0 : Int32)) 43 (4001 : Int32)) 44 (0 : Int32)) G := CI.rg (k := 44) (x := (0 : Int32)) rfl (by decide) (by decide) j_5 ⟨by omega, by omega⟩
  unfold cb_X5_clear_22
  have j_7 : CI (fup (fup (fup (fup (fup F 41 (0 : Int32)) 42 (0 : Int32)) 43 (4001 : Int32)) 44 (0 : Int32)) 45 (0 : Int32)) G := CI.rg (k := 45) (x := (0 : Int32)) rfl (by decide) (by decide) j_6 ⟨by omega, by omega⟩
  unfold cb_X5_clear_27
  have j_8 : CI (fup (fup (fup (fup (fup (fup F 41 (0 : Int32)) 42 (0 : Int32)) 43 (4001 : Int32)) 44 (0 : Int32)) 45 (0 : Int32)) 46 (0 : Int32)) G := CI.rg (k := 46) (x := (0 : Int32)) rfl (by decide) (by decide) j_7 ⟨by omega, by omega⟩
  unfold cb_X5_clear_32
  have l_9 : (1 : Int32).toInt = 1 := rfl
  have j_10 : CI (fup (fup (fup (fup (fup (fup (fup F 41 (0 : Int32)) 42 (0 : Int32)) 43 (4001 : Int32)) 44 (0 : Int32)) 45 (0 : Int32)) 46 (0 : Int32)) 47 (1 : Int32)) G := CI.rg (k := 47) (x := (1 : Int32)) rfl (by decide) (by decide) j_8 ⟨by omega, by omega⟩
  unfold cb_X5_clear_37
  have l_11 : (-1 : Int32).toInt = -1 := rfl
  refine WP.bind (cs_fill_40 hfu (-1 : Int32) (fup (fup (fup (fup (fup (fup (fup F 41 (0 : Int32)) 42 (0 : Int32)) 43 (4001 : Int32)) 44 (0 : Int32)) 45 (0 : Int32)) 46 (0 : Int32)) 47 (1 : Int32)) G j_10) ?_
  rintro r12 F12 G12 ⟨hI12, hB12, hT12, hO12, hK12, hp12⟩
  dsimp only
  have q_13 := hI.r 10 rfl
  have q_14 := hI12.r 10 rfl
  have e_15 : (F12 10).toInt = (F 10).toInt := hO12
  unfold cb_X5_clear_45
  refine WP.ret ?_
  exact ⟨hI12, (KB.tr (KB.f (by decide) (KB.f (by decide) (KB.f (by decide) (KB.f (by decide) (KB.f (by decide) (KB.f (by decide) (KB.f (by decide) (KB.rf : KB F G F G)))))))) hB12), (KT.tr (KT.f (by decide) (KT.f (by decide) (KT.f (by decide) (KT.f (by decide) (KT.f (by decide) (KT.f (by decide) (KT.f (by decide) (rfl : KT F F)))))))) hT12), (KO.tr (KO.f (by decide) (KO.f (by decide) (KO.f (by decide) (KO.f (by decide) (KO.f (by decide) (KO.f (by decide) (KO.f (by decide) (rfl : KO F F)))))))) hO12), (KK.tr (KK.f (by decide) (KK.f (by decide) (KK.f (by decide) (KK.f (by decide) (KK.f (by decide) (KK.f (by decide) (KK.f (by decide) (rfl : KK F F)))))))) hK12), trivial⟩
theorem cs_X4_clear {fu : Nat} (hfu : 8589934592 ≤ fu) (x1 : Int32) (F : PF) (G : PG) (hI : CI F G) : WP (cf_X4_clear fu x1 F G) (fun r' F' G' => CI F' G' ∧ KB F G F' G' ∧ KT F F' ∧ KO F F' ∧ True) := by
  unfold cf_X4_clear
  unfold cb_X4_clear_0
  have q_1 := i_rng x1
  have j_2 : CI (fup F 27 x1) G := CI.fr rfl hI
  unfold cb_X4_clear_5
  refine WP.bind (cs_X8_clear hfu (fup F 27 x1) G j_2) ?_
  rintro r3 F3 G3 ⟨hI3, hB3, hT3, hO3, hK3, hp3⟩
  dsimp only
  have q_4 := hI.r 10 rfl
  have q_5 := hI3.r 10 rfl
  have e_6 : (F3 10).toInt = (F 10).toInt := hO3
  unfold cb_X4_clear_12
  refine WP.bind (cs_X5_clear hfu F3 G3 hI3) ?_
  rintro r7 F7 G7 ⟨hI7, hB7, hT7, hO7, hK7, hp7⟩
  dsimp only
  have q_8 := hI7.r 10 rfl
  have e_9 : (F7 10).toInt = (F3 10).toInt := hO7
  unfold cb_X4_clear_19
  have l_10 : (0 : Int32).toInt = 0 := rfl
  have j_11 : CI (fup F7 6 (0 : Int32)) G7 := CI.rg (k := 6) (x := (0 : Int32)) rfl (by decide) (by decide) hI7 ⟨by omega, by omega⟩
  unfold cb_X4_clear_27
  refine WP.ret ?_
  exact ⟨j_11, (KB.f (by decide) (KB.tr (KB.tr (KB.f (by decide) (KB.rf : KB F G F G)) hB3) hB7)), (KT.f (by decide) (KT.tr (KT.tr (KT.f (by decide) (rfl : KT F F)) hT3) hT7)), (KO.f (by decide) (KO.tr (KO.tr (KO.f (by decide) (rfl : KO F F)) hO3) hO7)), trivial⟩
theorem cs_X8_addFunction {fu : Nat} (hfu : 8589934592 ≤ fu) (x1 : Int32) (x2 : Int32) (F : PF) (G : PG) (hI : CI F G) (hz_x2 : x2 = 0 ∨ x2 = 1) : WP (cf_X8_addFunction fu x1 x2 F G) (fun r' F' G' => CI F' G' ∧ KB F G F' G' ∧ KT F F' ∧ KO F F' ∧ KK F F' ∧ True) := by
  have q_x2 := b_rng hz_x2
  unfold cf_X8_addFunction
  unfold cb_X8_addFunction_0
  refine WP.ite (fun c_1 => ?_) (fun c_1 => ?_)
  · skip
    have l_2 : (450 : Int32).toInt = 450 := rfl
    have q_3 := hI.r 74 rfl
    have e_4 := i_le.mp (show (450 : Int32) ≤ (F 74) from c_1)
    unfold cb_X8_addFunction_96
    refine WP.ret ?_
    exact ⟨hI, (KB.rf : KB F G F G), (rfl : KT F F), (rfl : KO F F), (rfl : KK F F), trivial⟩
  · skip
    have l_5 : (450 : Int32).toInt = 450 := rfl
    have q_6 := hI.r 74 rfl
    have e_7 := mt i_le.mpr (show ¬ ((450 : Int32) ≤ (F 74)) from c_1)
    unfold cb_X8_addFunction_10
    refine WP.ix (show vp_in (F 74) 450 from vp_in_iff.mpr ⟨by omega, by omega⟩) ?_
    have j_8 : CI F (gup G 77 (F 74).toNatClampNeg x1) := CI.g (by decide) hI
    unfold cb_X8_addFunction_20
    have q_9 := i_rng x2
    refine WP.bind (cs_X11_truth hfu x2 F (gup G 77 (F 74).toNatClampNeg x1) j_8 hz_x2) ?_
    rintro r10 _ _ ⟨rfl, rfl, hp10⟩
    dsimp only
    unfold cb_X8_addFunction_32
    refine WP.ix (show vp_in (F 74) 450 from vp_in_iff.mpr ⟨by omega, by omega⟩) ?_
    have j_11 : CI F (gup (gup G 77 (F 74).toNatClampNeg x1) 82 (F 74).toNatClampNeg r10) := CI.g (by decide) j_8
    unfold cb_X8_addFunction_33
    refine WP.ix (show vp_in (F 74) 450 from vp_in_iff.mpr ⟨by omega, by omega⟩) ?_
    have q_13 := hI.r 85 rfl
    have j_12 : CI F (gup (gup (gup G 77 (F 74).toNatClampNeg x1) 82 (F 74).toNatClampNeg r10) 83 (F 74).toNatClampNeg (F 85)) := CI.g83 j_11 ⟨by omega, by omega⟩
    unfold cb_X8_addFunction_46
    refine WP.ix (show vp_in (F 74) 450 from vp_in_iff.mpr ⟨by omega, by omega⟩) ?_
    have j_14 : CI F (gup (gup (gup (gup G 77 (F 74).toNatClampNeg x1) 82 (F 74).toNatClampNeg r10) 83 (F 74).toNatClampNeg (F 85)) 78 (F 74).toNatClampNeg (0 : Int32)) := CI.g (by decide) j_12
    unfold cb_X8_addFunction_56
    refine WP.ix (show vp_in (F 74) 450 from vp_in_iff.mpr ⟨by omega, by omega⟩) ?_
    have j_15 : CI F (gup (gup (gup (gup (gup G 77 (F 74).toNatClampNeg x1) 82 (F 74).toNatClampNeg r10) 83 (F 74).toNatClampNeg (F 85)) 78 (F 74).toNatClampNeg (0 : Int32)) 81 (F 74).toNatClampNeg (0 : Int32)) := CI.g (by decide) j_14
    unfold cb_X8_addFunction_66
    refine WP.ix (show vp_in (F 74) 450 from vp_in_iff.mpr ⟨by omega, by omega⟩) ?_
    have j_16 : CI F (gup (gup (gup (gup (gup (gup G 77 (F 74).toNatClampNeg x1) 82 (F 74).toNatClampNeg r10) 83 (F 74).toNatClampNeg (F 85)) 78 (F 74).toNatClampNeg (0 : Int32)) 81 (F 74).toNatClampNeg (0 : Int32)) 79 (F 74).toNatClampNeg (4 : Int32)) := CI.g (by decide) j_15
    unfold cb_X8_addFunction_76
    refine WP.ix (show vp_in (F 74) 450 from vp_in_iff.mpr ⟨by omega, by omega⟩) ?_
    have j_17 : CI F (gup (gup (gup (gup (gup (gup (gup G 77 (F 74).toNatClampNeg x1) 82 (F 74).toNatClampNeg r10) 83 (F 74).toNatClampNeg (F 85)) 78 (F 74).toNatClampNeg (0 : Int32)) 81 (F 74).toNatClampNeg (0 : Int32)) 79 (F 74).toNatClampNeg (4 : Int32)) 80 (F 74).toNatClampNeg (0 : Int32)) := CI.g (by decide) j_16
    unfold cb_X8_addFunction_86
    first | have e_18 : ((F 74) + (1 : Int32)).toInt = (F 74).toInt + (1) := i_addn (F 74) rfl (by omega) (by omega) | have e_19 := i_rng ((F 74) + (1 : Int32))
    have j_20 : CI (fup F 74 ((F 74) + (1 : Int32))) (gup (gup (gup (gup (gup (gup (gup G 77 (F 74).toNatClampNeg x1) 82 (F 74).toNatClampNeg r10) 83 (F 74).toNatClampNeg (F 85)) 78 (F 74).toNatClampNeg (0 : Int32)) 81 (F 74).toNatClampNeg (0 : Int32)) 79 (F 74).toNatClampNeg (4 : Int32)) 80 (F 74).toNatClampNeg (0 : Int32)) := CI.rg (k := 74) (x := ((F 74) + (1 : Int32))) rfl (by decide) (by decide) j_17 ⟨by omega, by omega⟩
    unfold cb_X8_addFunction_96
    refine WP.ret ?_
    exact ⟨j_20, (KB.f (by decide) (KB.g (by decide) (KB.g (by decide) (KB.g (by decide) (KB.g (by decide) (KB.g (by decide) (KB.g (by decide) (KB.g (by decide) (KB.rf : KB F G F G))))))))), (KT.f (by decide) (rfl : KT F F)), (KO.f (by decide) (rfl : KO F F)), (KK.f (by decide) (rfl : KK F F)), trivial⟩
theorem cs_X5_install {fu : Nat} (hfu : 8589934592 ≤ fu) (x1 : Int32) (x2 : Int32) (x3 : Int32) (x4 : Int32) (x5 : Int32) (F : PF) (G : PG) (hI : CI F G) : WP (cf_X5_install fu x1 x2 x3 x4 x5 F G) (fun r' F' G' => CI F' G' ∧ KB F G F' G' ∧ KT F F' ∧ KO F F' ∧ KK F F' ∧ True) := by
  unfold cf_X5_install
  unfold cb_X5_install_0
  refine WP.ite (fun c_1 => ?_) (fun c_1 => ?_)
  · skip
    have l_2 : (700 : Int32).toInt = 700 := rfl
    have q_3 := hI.r 41 rfl
    have e_4 := i_le.mp (show (700 : Int32) ≤ (F 41) from c_1)
    unfold cb_X5_install_121
    refine WP.ret ?_
    exact ⟨hI, (KB.rf : KB F G F G), (rfl : KT F F), (rfl : KO F F), (rfl : KK F F), trivial⟩
  · skip
    have l_5 : (700 : Int32).toInt = 700 := rfl
    have q_6 := hI.r 41 rfl
    have e_7 := mt i_le.mpr (show ¬ ((700 : Int32) ≤ (F 41)) from c_1)
    unfold cb_X5_install_10
    refine WP.ite (fun c_8 => ?_) (fun c_8 => ?_)
    · skip
      have q_9 := i_rng x1
      have l_10 : (0 : Int32).toInt = 0 := rfl
      have e_11 := i_lt.mp (show x1 < (0 : Int32) from c_8)
      unfold cb_X5_install_121
      refine WP.ret ?_
      exact ⟨hI, (KB.rf : KB F G F G), (rfl : KT F F), (rfl : KO F F), (rfl : KK F F), trivial⟩
    · skip
      have q_12 := i_rng x1
      have l_13 : (0 : Int32).toInt = 0 := rfl
      have e_14 := mt i_lt.mpr (show ¬ (x1 < (0 : Int32)) from c_8)
      unfold cb_X5_install_14
      refine WP.ite (fun c_15 => ?_) (fun c_15 => ?_)
      · skip
        have l_16 : (1408 : Int32).toInt = 1408 := rfl
        have e_17 := i_le.mp (show (1408 : Int32) ≤ x1 from c_15)
        unfold cb_X5_install_121
        refine WP.ret ?_
        exact ⟨hI, (KB.rf : KB F G F G), (rfl : KT F F), (rfl : KO F F), (rfl : KK F F), trivial⟩
      · skip
        have l_18 : (1408 : Int32).toInt = 1408 := rfl
        have e_19 := mt i_le.mpr (show ¬ ((1408 : Int32) ≤ x1) from c_15)
        unfold cb_X5_install_21
        refine WP.ix (show vp_in (F 41) 700 from vp_in_iff.mpr ⟨by omega, by omega⟩) ?_
        have j_20 : CI F (gup G 33 (F 41).toNatClampNeg x1) := CI.g (by decide) hI
        unfold cb_X5_install_31
        refine WP.ix (show vp_in (F 41) 700 from vp_in_iff.mpr ⟨by omega, by omega⟩) ?_
        have j_21 : CI F (gup (gup G 33 (F 41).toNatClampNeg x1) 34 (F 41).toNatClampNeg (F 42)) := CI.g (by decide) j_20
        unfold cb_X5_install_44
        refine WP.ix (show vp_in (F 41) 700 from vp_in_iff.mpr ⟨by omega, by omega⟩) ?_
        have j_22 : CI F (gup (gup (gup G 33 (F 41).toNatClampNeg x1) 34 (F 41).toNatClampNeg (F 42)) 35 (F 41).toNatClampNeg x3) := CI.g (by decide) j_21
        unfold cb_X5_install_54
        refine WP.ix (show vp_in (F 41) 700 from vp_in_iff.mpr ⟨by omega, by omega⟩) ?_
        have j_23 : CI F (gup (gup (gup (gup G 33 (F 41).toNatClampNeg x1) 34 (F 41).toNatClampNeg (F 42)) 35 (F 41).toNatClampNeg x3) 36 (F 41).toNatClampNeg x2) := CI.g (by decide) j_22
        unfold cb_X5_install_64
        refine WP.ix (show vp_in (F 41) 700 from vp_in_iff.mpr ⟨by omega, by omega⟩) ?_
        have j_24 : CI F (gup (gup (gup (gup (gup G 33 (F 41).toNatClampNeg x1) 34 (F 41).toNatClampNeg (F 42)) 35 (F 41).toNatClampNeg x3) 36 (F 41).toNatClampNeg x2) 37 (F 41).toNatClampNeg x4) := CI.g (by decide) j_23
        unfold cb_X5_install_75
        refine WP.ix (show vp_in (F 41) 700 from vp_in_iff.mpr ⟨by omega, by omega⟩) ?_
        have j_25 : CI F (gup (gup (gup (gup (gup (gup G 33 (F 41).toNatClampNeg x1) 34 (F 41).toNatClampNeg (F 42)) 35 (F 41).toNatClampNeg x3) 36 (F 41).toNatClampNeg x2) 37 (F 41).toNatClampNeg x4) 38 (F 41).toNatClampNeg x5) := CI.g (by decide) j_24
        unfold cb_X5_install_86
        refine WP.ix (show vp_in x1 1408 from vp_in_iff.mpr ⟨by omega, by omega⟩) ?_
        refine WP.ix (show vp_in (F 41) 700 from vp_in_iff.mpr ⟨by omega, by omega⟩) ?_
        have j_26 : CI F (gup (gup (gup (gup (gup (gup (gup G 33 (F 41).toNatClampNeg x1) 34 (F 41).toNatClampNeg (F 42)) 35 (F 41).toNatClampNeg x3) 36 (F 41).toNatClampNeg x2) 37 (F 41).toNatClampNeg x4) 38 (F 41).toNatClampNeg x5) 39 (F 41).toNatClampNeg ((gup (gup (gup (gup (gup (gup G 33 (F 41).toNatClampNeg x1) 34 (F 41).toNatClampNeg (F 42)) 35 (F 41).toNatClampNeg x3) 36 (F 41).toNatClampNeg x2) 37 (F 41).toNatClampNeg x4) 38 (F 41).toNatClampNeg x5) 40 x1.toNatClampNeg)) := CI.g (by decide) j_25
        unfold cb_X5_install_101
        refine WP.ix (show vp_in x1 1408 from vp_in_iff.mpr ⟨by omega, by omega⟩) ?_
        have j_27 : CI F (gup (gup (gup (gup (gup (gup (gup (gup G 33 (F 41).toNatClampNeg x1) 34 (F 41).toNatClampNeg (F 42)) 35 (F 41).toNatClampNeg x3) 36 (F 41).toNatClampNeg x2) 37 (F 41).toNatClampNeg x4) 38 (F 41).toNatClampNeg x5) 39 (F 41).toNatClampNeg ((gup (gup (gup (gup (gup (gup G 33 (F 41).toNatClampNeg x1) 34 (F 41).toNatClampNeg (F 42)) 35 (F 41).toNatClampNeg x3) 36 (F 41).toNatClampNeg x2) 37 (F 41).toNatClampNeg x4) 38 (F 41).toNatClampNeg x5) 40 x1.toNatClampNeg)) 40 x1.toNatClampNeg (F 41)) := CI.g (by decide) j_26
        unfold cb_X5_install_111
        first | have e_28 : ((F 41) + (1 : Int32)).toInt = (F 41).toInt + (1) := i_addn (F 41) rfl (by omega) (by omega) | have e_29 := i_rng ((F 41) + (1 : Int32))
        have j_30 : CI (fup F 41 ((F 41) + (1 : Int32))) (gup (gup (gup (gup (gup (gup (gup (gup G 33 (F 41).toNatClampNeg x1) 34 (F 41).toNatClampNeg (F 42)) 35 (F 41).toNatClampNeg x3) 36 (F 41).toNatClampNeg x2) 37 (F 41).toNatClampNeg x4) 38 (F 41).toNatClampNeg x5) 39 (F 41).toNatClampNeg ((gup (gup (gup (gup (gup (gup G 33 (F 41).toNatClampNeg x1) 34 (F 41).toNatClampNeg (F 42)) 35 (F 41).toNatClampNeg x3) 36 (F 41).toNatClampNeg x2) 37 (F 41).toNatClampNeg x4) 38 (F 41).toNatClampNeg x5) 40 x1.toNatClampNeg)) 40 x1.toNatClampNeg (F 41)) := CI.rg (k := 41) (x := ((F 41) + (1 : Int32))) rfl (by decide) (by decide) j_27 ⟨by omega, by omega⟩
        unfold cb_X5_install_121
        refine WP.ret ?_
        exact ⟨j_30, (KB.f (by decide) (KB.g (by decide) (KB.g (by decide) (KB.g (by decide) (KB.g (by decide) (KB.g (by decide) (KB.g (by decide) (KB.g (by decide) (KB.g (by decide) (KB.rf : KB F G F G)))))))))), (KT.f (by decide) (rfl : KT F F)), (KO.f (by decide) (rfl : KO F F)), (KK.f (by decide) (rfl : KK F F)), trivial⟩
theorem cs_X5_announce {fu : Nat} (hfu : 8589934592 ≤ fu) (x1 : Int32) (x2 : Int32) (x3 : Int32) (F : PF) (G : PG) (hI : CI F G) : WP (cf_X5_announce fu x1 x2 x3 F G) (fun r' F' G' => CI F' G' ∧ KB F G F' G' ∧ KT F F' ∧ KO F F' ∧ KK F F' ∧ True) := by
  unfold cf_X5_announce
  unfold cb_X5_announce_0
  have q_1 := i_rng x1
  refine WP.bind (cs_X5_known hfu x1 F G hI) ?_
  rintro r2 _ _ ⟨rfl, rfl, hp2⟩
  dsimp only
  unfold cb_X5_announce_5
  refine WP.ite (fun c_3 => ?_) (fun c_3 => ?_)
  · skip
    have q_4 := i_rng r2
    have l_5 : (-1 : Int32).toInt = -1 := rfl
    have e_6 := i_eq.mp (show r2 = (-1 : Int32) from c_3)
    unfold cb_X5_announce_9
    have q_7 := i_rng x2
    have l_8 : (4 : Int32).toInt = 4 := rfl
    have q_9 := i_rng x3
    have l_10 : (0 : Int32).toInt = 0 := rfl
    refine WP.bind (cs_X5_install hfu x1 x2 (4 : Int32) x3 (0 : Int32) F G hI) ?_
    rintro r11 F11 G11 ⟨hI11, hB11, hT11, hO11, hK11, hp11⟩
    dsimp only
    have q_12 := hI.r 10 rfl
    have q_13 := hI11.r 10 rfl
    have e_14 : (F11 10).toInt = (F 10).toInt := hO11
    unfold cb_X5_announce_18
    refine WP.ret ?_
    exact ⟨hI11, (KB.tr (KB.rf : KB F G F G) hB11), (KT.tr (rfl : KT F F) hT11), (KO.tr (rfl : KO F F) hO11), (KK.tr (rfl : KK F F) hK11), trivial⟩
  · skip
    have q_15 := i_rng r2
    have l_16 : (-1 : Int32).toInt = -1 := rfl
    have e_17 := mt i_eq.mpr (show ¬ (r2 = (-1 : Int32)) from c_3)
    unfold cb_X5_announce_18
    refine WP.ret ?_
    exact ⟨hI, (KB.rf : KB F G F G), (rfl : KT F F), (rfl : KO F F), (rfl : KK F F), trivial⟩
theorem cs_X5_enter {fu : Nat} (hfu : 8589934592 ≤ fu) (F : PF) (G : PG) (hI : CI F G) : WP (cf_X5_enter fu F G) (fun r' F' G' => CI F' G' ∧ KB F G F' G' ∧ KT F F' ∧ KO F F' ∧ KK F F' ∧ True) := by
  unfold cf_X5_enter
  unfold cb_X5_enter_0
  have q_1 := i_rng (F 42)
  first | have e_2 : ((F 42) + (1 : Int32)).toInt = (F 42).toInt + (1) := i_addn (F 42) rfl (by omega) (by omega) | have e_3 := i_rng ((F 42) + (1 : Int32))
  have j_4 : CI (fup F 42 ((F 42) + (1 : Int32))) G := CI.fr rfl hI
  unfold cb_X5_enter_10
  refine WP.ret ?_
  exact ⟨j_4, (KB.f (by decide) (KB.rf : KB F G F G)), (KT.f (by decide) (rfl : KT F F)), (KO.f (by decide) (rfl : KO F F)), (KK.f (by decide) (rfl : KK F F)), trivial⟩
theorem cs_X5_enterFunction {fu : Nat} (hfu : 8589934592 ≤ fu) (x1 : Int32) (F : PF) (G : PG) (hI : CI F G) (hz_x1 : x1 = 0 ∨ x1 = 1) : WP (cf_X5_enterFunction fu x1 F G) (fun r' F' G' => CI F' G' ∧ KB F G F' G' ∧ KT F F' ∧ KO F F' ∧ KK F F' ∧ True) := by
  have q_x1 := b_rng hz_x1
  unfold cf_X5_enterFunction
  unfold cb_X5_enterFunction_0
  have q_1 := i_rng x1
  refine WP.bz (show x1 = 0 ∨ x1 = 1 from hz_x1) ?_
  have q_2 := b_rng (show x1 = 0 ∨ x1 = 1 from hz_x1)
  have j_3 : CI (fup F 48 x1) G := CI.rg (k := 48) (x := x1) rfl (by decide) (by decide) hI ⟨by omega, by omega⟩
  unfold cb_X5_enterFunction_5
  have l_4 : (0 : Int32).toInt = 0 := rfl
  have j_5 : CI (fup (fup F 48 x1) 49 (0 : Int32)) G := CI.fr rfl j_3
  unfold cb_X5_enterFunction_10
  have j_6 : CI (fup (fup (fup F 48 x1) 49 (0 : Int32)) 50 (0 : Int32)) G := CI.fr rfl j_5
  unfold cb_X5_enterFunction_15
  refine WP.bind (cs_X5_enter hfu (fup (fup (fup F 48 x1) 49 (0 : Int32)) 50 (0 : Int32)) G j_6) ?_
  rintro r7 F7 G7 ⟨hI7, hB7, hT7, hO7, hK7, hp7⟩
  dsimp only
  have q_8 := hI.r 10 rfl
  have q_9 := hI7.r 10 rfl
  have e_10 : (F7 10).toInt = (F 10).toInt := hO7
  unfold cb_X5_enterFunction_19
  refine WP.ret ?_
  exact ⟨hI7, (KB.tr (KB.f (by decide) (KB.f (by decide) (KB.f (by decide) (KB.rf : KB F G F G)))) hB7), (KT.tr (KT.f (by decide) (KT.f (by decide) (KT.f (by decide) (rfl : KT F F)))) hT7), (KO.tr (KO.f (by decide) (KO.f (by decide) (KO.f (by decide) (rfl : KO F F)))) hO7), (KK.tr (KK.f (by decide) (KK.f (by decide) (KK.f (by decide) (rfl : KK F F)))) hK7), trivial⟩
theorem cs_X5_tellFunction {fu : Nat} (hfu : 8589934592 ≤ fu) (x1 : Int32) (x2 : Int32) (x3 : Int32) (F : PF) (G : PG) (hI : CI F G) : WP (cf_X5_tellFunction fu x1 x2 x3 F G) (fun r' F' G' => CI F' G' ∧ KB F G F' G' ∧ KT F F' ∧ KO F F' ∧ KK F F' ∧ True) := by
  unfold cf_X5_tellFunction
  unfold cb_X5_tellFunction_0
  have q_1 := i_rng x1
  refine WP.bind (cs_X5_known hfu x1 F G hI) ?_
  rintro r2 _ _ ⟨rfl, rfl, hp2⟩
  dsimp only
  unfold cb_X5_tellFunction_5
  have q_3 := i_rng r2
  refine WP.bind (cs_X5_kind hfu r2 F G hI) ?_
  rintro r4 _ _ ⟨rfl, rfl, hp4⟩
  dsimp only
  have q_5 := i_rng r4
  unfold cb_X5_tellFunction_13
  refine WP.ite (fun c_6 => ?_) (fun c_6 => ?_)
  · skip
    have l_7 : (4 : Int32).toInt = 4 := rfl
    have e_8 := i_eq.mp (show r4 = (4 : Int32) from c_6)
    unfold cb_X5_tellFunction_17
    refine WP.bind (cs_X5_value hfu r2 F G hI) ?_
    rintro r9 _ _ ⟨rfl, rfl, hp9⟩
    dsimp only
    unfold cb_X5_tellFunction_23
    refine WP.ite (fun c_10 => ?_) (fun c_10 => ?_)
    · skip
      have q_11 := i_rng r9
      have q_12 := i_rng x3
      have e_13 := i_eq.mp (show r9 = x3 from c_10)
      unfold cb_X5_tellFunction_33
      refine WP.ite (fun c_14 => ?_) (fun c_14 => ?_)
      · skip
        have l_15 : (40 : Int32).toInt = 40 := rfl
        have e_16 := i_lt.mp (show x3 < (40 : Int32) from c_14)
        unfold cb_X5_tellFunction_46
        refine WP.ret ?_
        exact ⟨hI, (KB.rf : KB F G F G), (rfl : KT F F), (rfl : KO F F), (rfl : KK F F), trivial⟩
      · skip
        have l_17 : (40 : Int32).toInt = 40 := rfl
        have e_18 := mt i_lt.mpr (show ¬ (x3 < (40 : Int32)) from c_14)
        unfold cb_X5_tellFunction_39
        have l_19 : (8 : Int32).toInt = 8 := rfl
        have q_20 := i_rng x2
        refine WP.bind (cs_X5_note hfu (8 : Int32) x2 F G hI) ?_
        rintro r21 F21 G21 ⟨hI21, hB21, hT21, hO21, hK21, hp21⟩
        dsimp only
        have q_22 := hI.r 10 rfl
        have q_23 := hI21.r 10 rfl
        have e_24 : (F21 10).toInt = (F 10).toInt := hO21
        unfold cb_X5_tellFunction_46
        refine WP.ret ?_
        exact ⟨hI21, (KB.tr (KB.rf : KB F G F G) hB21), (KT.tr (rfl : KT F F) hT21), (KO.tr (rfl : KO F F) hO21), (KK.tr (rfl : KK F F) hK21), trivial⟩
    · skip
      have q_25 := i_rng r9
      have q_26 := i_rng x3
      have e_27 := mt i_eq.mpr (show ¬ (r9 = x3) from c_10)
      unfold cb_X5_tellFunction_27
      have l_28 : (1 : Int32).toInt = 1 := rfl
      have q_29 := i_rng x2
      refine WP.bind (cs_X5_note hfu (1 : Int32) x2 F G hI) ?_
      rintro r30 F30 G30 ⟨hI30, hB30, hT30, hO30, hK30, hp30⟩
      dsimp only
      have q_31 := hI.r 10 rfl
      have q_32 := hI30.r 10 rfl
      have e_33 : (F30 10).toInt = (F 10).toInt := hO30
      unfold cb_X5_tellFunction_33
      refine WP.ite (fun c_34 => ?_) (fun c_34 => ?_)
      · skip
        have l_35 : (40 : Int32).toInt = 40 := rfl
        have e_36 := i_lt.mp (show x3 < (40 : Int32) from c_34)
        unfold cb_X5_tellFunction_46
        refine WP.ret ?_
        exact ⟨hI30, (KB.tr (KB.rf : KB F G F G) hB30), (KT.tr (rfl : KT F F) hT30), (KO.tr (rfl : KO F F) hO30), (KK.tr (rfl : KK F F) hK30), trivial⟩
      · skip
        have l_37 : (40 : Int32).toInt = 40 := rfl
        have e_38 := mt i_lt.mpr (show ¬ (x3 < (40 : Int32)) from c_34)
        unfold cb_X5_tellFunction_39
        have l_39 : (8 : Int32).toInt = 8 := rfl
        refine WP.bind (cs_X5_note hfu (8 : Int32) x2 F30 G30 hI30) ?_
        rintro r40 F40 G40 ⟨hI40, hB40, hT40, hO40, hK40, hp40⟩
        dsimp only
        have q_41 := hI40.r 10 rfl
        have e_42 : (F40 10).toInt = (F30 10).toInt := hO40
        unfold cb_X5_tellFunction_46
        refine WP.ret ?_
        exact ⟨hI40, (KB.tr (KB.tr (KB.rf : KB F G F G) hB30) hB40), (KT.tr (KT.tr (rfl : KT F F) hT30) hT40), (KO.tr (KO.tr (rfl : KO F F) hO30) hO40), (KK.tr (KK.tr (rfl : KK F F) hK30) hK40), trivial⟩
  · skip
    have l_43 : (4 : Int32).toInt = 4 := rfl
    have e_44 := mt i_eq.mpr (show ¬ (r4 = (4 : Int32)) from c_6)
    unfold cb_X5_tellFunction_27
    have l_45 : (1 : Int32).toInt = 1 := rfl
    have q_46 := i_rng x2
    refine WP.bind (cs_X5_note hfu (1 : Int32) x2 F G hI) ?_
    rintro r47 F47 G47 ⟨hI47, hB47, hT47, hO47, hK47, hp47⟩
    dsimp only
    have q_48 := hI.r 10 rfl
    have q_49 := hI47.r 10 rfl
    have e_50 : (F47 10).toInt = (F 10).toInt := hO47
    unfold cb_X5_tellFunction_33
    refine WP.ite (fun c_51 => ?_) (fun c_51 => ?_)
    · skip
      have q_52 := i_rng x3
      have l_53 : (40 : Int32).toInt = 40 := rfl
      have e_54 := i_lt.mp (show x3 < (40 : Int32) from c_51)
      unfold cb_X5_tellFunction_46
      refine WP.ret ?_
      exact ⟨hI47, (KB.tr (KB.rf : KB F G F G) hB47), (KT.tr (rfl : KT F F) hT47), (KO.tr (rfl : KO F F) hO47), (KK.tr (rfl : KK F F) hK47), trivial⟩
    · skip
      have q_55 := i_rng x3
      have l_56 : (40 : Int32).toInt = 40 := rfl
      have e_57 := mt i_lt.mpr (show ¬ (x3 < (40 : Int32)) from c_51)
      unfold cb_X5_tellFunction_39
      have l_58 : (8 : Int32).toInt = 8 := rfl
      refine WP.bind (cs_X5_note hfu (8 : Int32) x2 F47 G47 hI47) ?_
      rintro r59 F59 G59 ⟨hI59, hB59, hT59, hO59, hK59, hp59⟩
      dsimp only
      have q_60 := hI59.r 10 rfl
      have e_61 : (F59 10).toInt = (F47 10).toInt := hO59
      unfold cb_X5_tellFunction_46
      refine WP.ret ?_
      exact ⟨hI59, (KB.tr (KB.tr (KB.rf : KB F G F G) hB47) hB59), (KT.tr (KT.tr (rfl : KT F F) hT47) hT59), (KO.tr (KO.tr (rfl : KO F F) hO47) hO59), (KK.tr (KK.tr (rfl : KK F F) hK47) hK59), trivial⟩
theorem cs_X4_startFunction {fu : Nat} (hfu : 8589934592 ≤ fu) (x1 : Int32) (x2 : Int32) (x3 : Int32) (F : PF) (G : PG) (hI : CI F G) (hz_x3 : x3 = 0 ∨ x3 = 1) : WP (cf_X4_startFunction fu x1 x2 x3 F G) (fun r' F' G' => CI F' G' ∧ KB F G F' G' ∧ KT F F' ∧ KO F F' ∧ KK F F' ∧ True) := by
  have q_x3 := b_rng hz_x3
  unfold cf_X4_startFunction
  unfold cb_X4_startFunction_0
  refine WP.ite (fun c_1 => ?_) (fun c_1 => ?_)
  · skip
    have q_2 := hI.r 45 rfl
    have l_3 : (0 : Int32).toInt = 0 := rfl
    have e_4 := i_eq.mp (show (F 45) = (0 : Int32) from c_1)
    unfold cb_X4_startFunction_26
    have q_5 := i_rng x2
    have q_6 := i_rng x3
    refine WP.bind (cs_X8_addFunction hfu x2 x3 F G hI hz_x3) ?_
    rintro r7 F7 G7 ⟨hI7, hB7, hT7, hO7, hK7, hp7⟩
    dsimp only
    have q_8 := hI.r 10 rfl
    have q_9 := hI7.r 10 rfl
    have e_10 : (F7 10).toInt = (F 10).toInt := hO7
    unfold cb_X4_startFunction_35
    have q_11 := i_rng x1
    have q_12 := i_rng (F7 28)
    refine WP.bind (cs_X5_announce hfu x1 x2 (F7 28) F7 G7 hI7) ?_
    rintro r13 F13 G13 ⟨hI13, hB13, hT13, hO13, hK13, hp13⟩
    dsimp only
    have q_14 := hI13.r 10 rfl
    have e_15 : (F13 10).toInt = (F7 10).toInt := hO13
    unfold cb_X4_startFunction_48
    refine WP.ite (fun c_16 => ?_) (fun c_16 => ?_)
    · skip
      have q_17 := i_rng (F13 27)
      have e_18 := i_eq.mp (show x1 = (F13 27) from c_16)
      unfold cb_X4_startFunction_56
      refine WP.ite (fun c_19 => ?_) (fun c_19 => ?_)
      · skip
        have q_20 := i_rng (F13 76)
        have l_21 : (-1 : Int32).toInt = -1 := rfl
        have e_22 := i_eq.mp (show (F13 76) = (-1 : Int32) from c_19)
        unfold cb_X4_startFunction_67
        have q_23 := i_rng (F13 28)
        have j_24 : CI (fup F13 76 (F13 28)) G13 := CI.fr rfl hI13
        unfold cb_X4_startFunction_78
        refine WP.bind (cs_X8_has hfu (F13 28) (fup F13 76 (F13 28)) G13 j_24) ?_
        rintro r25 _ _ ⟨rfl, rfl, hp25⟩
        dsimp only
        have q_26 := b_rng (hp25.1)
        unfold cb_X4_startFunction_89
        refine WP.ite (fun c_27 => ?_) (fun c_27 => ?_)
        · skip
          have e_28 := i_eq.mp (show r25 = (0 : Int32) from c_27)
          unfold cb_X4_startFunction_111
          refine WP.bind (cs_X5_enterFunction hfu x3 (fup F13 76 (F13 28)) G13 j_24 hz_x3) ?_
          rintro r29 F29 G29 ⟨hI29, hB29, hT29, hO29, hK29, hp29⟩
          dsimp only
          have q_30 := hI29.r 10 rfl
          have e_31 : (F29 10).toInt = (F13 10).toInt := hO29
          unfold cb_X4_startFunction_119
          refine WP.ret ?_
          exact ⟨hI29, (KB.tr (KB.f (by decide) (KB.tr (KB.tr (KB.rf : KB F G F G) hB7) hB13)) hB29), (KT.tr (KT.f (by decide) (KT.tr (KT.tr (rfl : KT F F) hT7) hT13)) hT29), (KO.tr (KO.f (by decide) (KO.tr (KO.tr (rfl : KO F F) hO7) hO13)) hO29), (KK.tr (KK.f (by decide) (KK.tr (KK.tr (rfl : KK F F) hK7) hK13)) hK29), trivial⟩
        · skip
          have e_32 := mt i_eq.mpr (show ¬ (r25 = (0 : Int32)) from c_27)
          unfold cb_X4_startFunction_92
          refine WP.ix (show vp_in (F13 28) 450 from vp_in_iff.mpr ⟨by omega, by omega⟩) ?_
          have j_33 : CI (fup F13 76 (F13 28)) (gup G13 80 (F13 28).toNatClampNeg (F13 6)) := CI.g (by decide) j_24
          unfold cb_X4_startFunction_111
          refine WP.bind (cs_X5_enterFunction hfu x3 (fup F13 76 (F13 28)) (gup G13 80 (F13 28).toNatClampNeg (F13 6)) j_33 hz_x3) ?_
          rintro r34 F34 G34 ⟨hI34, hB34, hT34, hO34, hK34, hp34⟩
          dsimp only
          have q_35 := hI34.r 10 rfl
          have e_36 : (F34 10).toInt = (F13 10).toInt := hO34
          unfold cb_X4_startFunction_119
          refine WP.ret ?_
          exact ⟨hI34, (KB.tr (KB.g (by decide) (KB.f (by decide) (KB.tr (KB.tr (KB.rf : KB F G F G) hB7) hB13))) hB34), (KT.tr (KT.f (by decide) (KT.tr (KT.tr (rfl : KT F F) hT7) hT13)) hT34), (KO.tr (KO.f (by decide) (KO.tr (KO.tr (rfl : KO F F) hO7) hO13)) hO34), (KK.tr (KK.f (by decide) (KK.tr (KK.tr (rfl : KK F F) hK7) hK13)) hK34), trivial⟩
      · skip
        have q_37 := i_rng (F13 76)
        have l_38 : (-1 : Int32).toInt = -1 := rfl
        have e_39 := mt i_eq.mpr (show ¬ ((F13 76) = (-1 : Int32)) from c_19)
        unfold cb_X4_startFunction_78
        have q_40 := i_rng (F13 28)
        refine WP.bind (cs_X8_has hfu (F13 28) F13 G13 hI13) ?_
        rintro r41 _ _ ⟨rfl, rfl, hp41⟩
        dsimp only
        have q_42 := b_rng (hp41.1)
        unfold cb_X4_startFunction_89
        refine WP.ite (fun c_43 => ?_) (fun c_43 => ?_)
        · skip
          have e_44 := i_eq.mp (show r41 = (0 : Int32) from c_43)
          unfold cb_X4_startFunction_111
          refine WP.bind (cs_X5_enterFunction hfu x3 F13 G13 hI13 hz_x3) ?_
          rintro r45 F45 G45 ⟨hI45, hB45, hT45, hO45, hK45, hp45⟩
          dsimp only
          have q_46 := hI45.r 10 rfl
          have e_47 : (F45 10).toInt = (F13 10).toInt := hO45
          unfold cb_X4_startFunction_119
          refine WP.ret ?_
          exact ⟨hI45, (KB.tr (KB.tr (KB.tr (KB.rf : KB F G F G) hB7) hB13) hB45), (KT.tr (KT.tr (KT.tr (rfl : KT F F) hT7) hT13) hT45), (KO.tr (KO.tr (KO.tr (rfl : KO F F) hO7) hO13) hO45), (KK.tr (KK.tr (KK.tr (rfl : KK F F) hK7) hK13) hK45), trivial⟩
        · skip
          have e_48 := mt i_eq.mpr (show ¬ (r41 = (0 : Int32)) from c_43)
          unfold cb_X4_startFunction_92
          refine WP.ix (show vp_in (F13 28) 450 from vp_in_iff.mpr ⟨by omega, by omega⟩) ?_
          have j_49 : CI F13 (gup G13 80 (F13 28).toNatClampNeg (F13 6)) := CI.g (by decide) hI13
          unfold cb_X4_startFunction_111
          refine WP.bind (cs_X5_enterFunction hfu x3 F13 (gup G13 80 (F13 28).toNatClampNeg (F13 6)) j_49 hz_x3) ?_
          rintro r50 F50 G50 ⟨hI50, hB50, hT50, hO50, hK50, hp50⟩
          dsimp only
          have q_51 := hI50.r 10 rfl
          have e_52 : (F50 10).toInt = (F13 10).toInt := hO50
          unfold cb_X4_startFunction_119
          refine WP.ret ?_
          exact ⟨hI50, (KB.tr (KB.g (by decide) (KB.tr (KB.tr (KB.rf : KB F G F G) hB7) hB13)) hB50), (KT.tr (KT.tr (KT.tr (rfl : KT F F) hT7) hT13) hT50), (KO.tr (KO.tr (KO.tr (rfl : KO F F) hO7) hO13) hO50), (KK.tr (KK.tr (KK.tr (rfl : KK F F) hK7) hK13) hK50), trivial⟩
    · skip
      have q_53 := i_rng (F13 27)
      have e_54 := mt i_eq.mpr (show ¬ (x1 = (F13 27)) from c_16)
      unfold cb_X4_startFunction_78
      have q_55 := i_rng (F13 28)
      refine WP.bind (cs_X8_has hfu (F13 28) F13 G13 hI13) ?_
      rintro r56 _ _ ⟨rfl, rfl, hp56⟩
      dsimp only
      have q_57 := b_rng (hp56.1)
      unfold cb_X4_startFunction_89
      refine WP.ite (fun c_58 => ?_) (fun c_58 => ?_)
      · skip
        have e_59 := i_eq.mp (show r56 = (0 : Int32) from c_58)
        unfold cb_X4_startFunction_111
        refine WP.bind (cs_X5_enterFunction hfu x3 F13 G13 hI13 hz_x3) ?_
        rintro r60 F60 G60 ⟨hI60, hB60, hT60, hO60, hK60, hp60⟩
        dsimp only
        have q_61 := hI60.r 10 rfl
        have e_62 : (F60 10).toInt = (F13 10).toInt := hO60
        unfold cb_X4_startFunction_119
        refine WP.ret ?_
        exact ⟨hI60, (KB.tr (KB.tr (KB.tr (KB.rf : KB F G F G) hB7) hB13) hB60), (KT.tr (KT.tr (KT.tr (rfl : KT F F) hT7) hT13) hT60), (KO.tr (KO.tr (KO.tr (rfl : KO F F) hO7) hO13) hO60), (KK.tr (KK.tr (KK.tr (rfl : KK F F) hK7) hK13) hK60), trivial⟩
      · skip
        have e_63 := mt i_eq.mpr (show ¬ (r56 = (0 : Int32)) from c_58)
        unfold cb_X4_startFunction_92
        refine WP.ix (show vp_in (F13 28) 450 from vp_in_iff.mpr ⟨by omega, by omega⟩) ?_
        have j_64 : CI F13 (gup G13 80 (F13 28).toNatClampNeg (F13 6)) := CI.g (by decide) hI13
        unfold cb_X4_startFunction_111
        refine WP.bind (cs_X5_enterFunction hfu x3 F13 (gup G13 80 (F13 28).toNatClampNeg (F13 6)) j_64 hz_x3) ?_
        rintro r65 F65 G65 ⟨hI65, hB65, hT65, hO65, hK65, hp65⟩
        dsimp only
        have q_66 := hI65.r 10 rfl
        have e_67 : (F65 10).toInt = (F13 10).toInt := hO65
        unfold cb_X4_startFunction_119
        refine WP.ret ?_
        exact ⟨hI65, (KB.tr (KB.g (by decide) (KB.tr (KB.tr (KB.rf : KB F G F G) hB7) hB13)) hB65), (KT.tr (KT.tr (KT.tr (rfl : KT F F) hT7) hT13) hT65), (KO.tr (KO.tr (KO.tr (rfl : KO F F) hO7) hO13) hO65), (KK.tr (KK.tr (KK.tr (rfl : KK F F) hK7) hK13) hK65), trivial⟩
  · skip
    have q_68 := hI.r 45 rfl
    have l_69 : (0 : Int32).toInt = 0 := rfl
    have e_70 := mt i_eq.mpr (show ¬ ((F 45) = (0 : Int32)) from c_1)
    unfold cb_X4_startFunction_10
    have q_71 := i_rng x1
    have q_72 := i_rng x2
    have q_73 := i_rng (F 28)
    refine WP.bind (cs_X5_tellFunction hfu x1 x2 (F 28) F G hI) ?_
    rintro r74 F74 G74 ⟨hI74, hB74, hT74, hO74, hK74, hp74⟩
    dsimp only
    have q_75 := hI.r 10 rfl
    have q_76 := hI74.r 10 rfl
    have e_77 : (F74 10).toInt = (F 10).toInt := hO74
    unfold cb_X4_startFunction_23
    unfold cb_X4_startFunction_78
    have q_78 := i_rng (F74 28)
    refine WP.bind (cs_X8_has hfu (F74 28) F74 G74 hI74) ?_
    rintro r79 _ _ ⟨rfl, rfl, hp79⟩
    dsimp only
    have q_80 := b_rng (hp79.1)
    unfold cb_X4_startFunction_89
    refine WP.ite (fun c_81 => ?_) (fun c_81 => ?_)
    · skip
      have e_82 := i_eq.mp (show r79 = (0 : Int32) from c_81)
      unfold cb_X4_startFunction_111
      have q_83 := i_rng x3
      refine WP.bind (cs_X5_enterFunction hfu x3 F74 G74 hI74 hz_x3) ?_
      rintro r84 F84 G84 ⟨hI84, hB84, hT84, hO84, hK84, hp84⟩
      dsimp only
      have q_85 := hI84.r 10 rfl
      have e_86 : (F84 10).toInt = (F74 10).toInt := hO84
      unfold cb_X4_startFunction_119
      refine WP.ret ?_
      exact ⟨hI84, (KB.tr (KB.tr (KB.rf : KB F G F G) hB74) hB84), (KT.tr (KT.tr (rfl : KT F F) hT74) hT84), (KO.tr (KO.tr (rfl : KO F F) hO74) hO84), (KK.tr (KK.tr (rfl : KK F F) hK74) hK84), trivial⟩
    · skip
      have e_87 := mt i_eq.mpr (show ¬ (r79 = (0 : Int32)) from c_81)
      unfold cb_X4_startFunction_92
      refine WP.ix (show vp_in (F74 28) 450 from vp_in_iff.mpr ⟨by omega, by omega⟩) ?_
      have j_88 : CI F74 (gup G74 80 (F74 28).toNatClampNeg (F74 6)) := CI.g (by decide) hI74
      unfold cb_X4_startFunction_111
      have q_89 := i_rng x3
      refine WP.bind (cs_X5_enterFunction hfu x3 F74 (gup G74 80 (F74 28).toNatClampNeg (F74 6)) j_88 hz_x3) ?_
      rintro r90 F90 G90 ⟨hI90, hB90, hT90, hO90, hK90, hp90⟩
      dsimp only
      have q_91 := hI90.r 10 rfl
      have e_92 : (F90 10).toInt = (F74 10).toInt := hO90
      unfold cb_X4_startFunction_119
      refine WP.ret ?_
      exact ⟨hI90, (KB.tr (KB.g (by decide) (KB.tr (KB.rf : KB F G F G) hB74)) hB90), (KT.tr (KT.tr (rfl : KT F F) hT74) hT90), (KO.tr (KO.tr (rfl : KO F F) hO74) hO90), (KK.tr (KK.tr (rfl : KK F F) hK74) hK90), trivial⟩
theorem cs_X4_returnStatement {fu : Nat} (hfu : 8589934592 ≤ fu) (F : PF) (G : PG) (hI : CI F G) : WP (cf_X4_returnStatement fu F G) (fun r' F' G' => CI F' G' ∧ KB F G F' G' ∧ KT F F' ∧ KO F F' ∧ True) := by
  unfold cf_X4_returnStatement
  unfold cb_X4_returnStatement_0
  refine WP.bind (cs_X2_next hfu F G hI) ?_
  rintro r1 F1 G1 ⟨hI1, hB1, hT1, hO1, hp1⟩
  dsimp only
  have q_2 := hI.r 10 rfl
  have q_3 := hI1.r 10 rfl
  have e_4 : (F1 10).toInt = (F 10).toInt := hO1
  unfold cb_X4_returnStatement_7
  refine WP.ite (fun c_5 => ?_) (fun c_5 => ?_)
  · skip
    have q_6 := i_rng (F1 11)
    have l_7 : (26 : Int32).toInt = 26 := rfl
    have e_8 := i_eq.mp (show (F1 11) = (26 : Int32) from c_5)
    unfold cb_X4_returnStatement_19
    unfold cb_X4_returnStatement_24
    refine WP.ite (fun c_9 => ?_) (fun c_9 => ?_)
    · skip
      have l_10 : (1 : Int32).toInt = 1 := rfl
      have q_11 := hI1.r 48 rfl
      have e_12 := i_eq.mp (show (1 : Int32) = (F1 48) from c_9)
      unfold cb_X4_returnStatement_36
      have l_13 : (3 : Int32).toInt = 3 := rfl
      have q_14 := i_rng (F1 13)
      refine WP.bind (cs_X5_note hfu (3 : Int32) (F1 13) F1 G1 hI1) ?_
      rintro r15 F15 G15 ⟨hI15, hB15, hT15, hO15, hK15, hp15⟩
      dsimp only
      have q_16 := i_rng (F15 11)
      have e_17 : (F15 11).toInt = (F1 11).toInt := congrArg Int32.toInt hK15
      have q_18 := hI15.r 10 rfl
      have e_19 : (F15 10).toInt = (F1 10).toInt := hO15
      unfold cb_X4_returnStatement_51
      refine WP.ite (fun c_20 => absurd c_20 (by decide)) (fun _ => ?_)
      unfold cb_X4_returnStatement_55
      have l_21 : (66 : Int32).toInt = 66 := rfl
      have l_22 : (0 : Int32).toInt = 0 := rfl
      refine WP.bind (cs_X1_addPair hfu (66 : Int32) (0 : Int32) F15 G15 hI15) ?_
      rintro r23 F23 G23 ⟨hI23, hB23, hT23, hO23, hK23, hp23⟩
      dsimp only
      have q_24 := i_rng (F23 11)
      have e_25 : (F23 11).toInt = (F15 11).toInt := congrArg Int32.toInt hK23
      have q_26 := hI23.r 10 rfl
      have e_27 : (F23 10).toInt = (F15 10).toInt := hO23
      unfold cb_X4_returnStatement_65
      unfold cb_X4_returnStatement_75
      have l_28 : (15 : Int32).toInt = 15 := rfl
      refine WP.bind (cs_X1_add hfu (15 : Int32) F23 G23 hI23) ?_
      rintro r29 F29 G29 ⟨hI29, hB29, hT29, hO29, hK29, hp29⟩
      dsimp only
      have q_30 := i_rng (F29 11)
      have e_31 : (F29 11).toInt = (F23 11).toInt := congrArg Int32.toInt hK29
      have q_32 := hI29.r 10 rfl
      have e_33 : (F29 10).toInt = (F23 10).toInt := hO29
      have q_34 := hI23.r 21 rfl
      have q_35 := hI29.r 21 rfl
      have e_36 : (F29 21).toInt = (F23 21).toInt := congrArg Int32.toInt hp29
      unfold cb_X4_returnStatement_84
      refine WP.bind (cs_X2_expect hfu (26 : Int32) F29 G29 hI29 (show (26 : Int32).toInt ≠ -2 by omega)) ?_
      rintro r37 F37 G37 ⟨hI37, hB37, hT37, hO37, hS37, hp37⟩
      dsimp only
      have q_38 := i_rng (F37 11)
      have e_39 : (F29 11).toInt = -2 → (F37 11).toInt = -2 := hS37
      have q_40 := hI37.r 10 rfl
      have e_41 : (F37 10).toInt = (F29 10).toInt := hO37
      unfold cb_X4_returnStatement_93
      refine WP.ret ?_
      exact ⟨hI37, (KB.tr (KB.tr (KB.tr (KB.tr (KB.tr (KB.rf : KB F G F G) hB1) hB15) hB23) hB29) hB37), (KT.tr (KT.tr (KT.tr (KT.tr (KT.tr (rfl : KT F F) hT1) hT15) hT23) hT29) hT37), (KO.tr (KO.tr (KO.tr (KO.tr (KO.tr (rfl : KO F F) hO1) hO15) hO23) hO29) hO37), trivial⟩
    · skip
      have l_42 : (1 : Int32).toInt = 1 := rfl
      have q_43 := hI1.r 48 rfl
      have e_44 := mt i_eq.mpr (show ¬ ((1 : Int32) = (F1 48)) from c_9)
      unfold cb_X4_returnStatement_51
      refine WP.ite (fun c_45 => absurd c_45 (by decide)) (fun _ => ?_)
      unfold cb_X4_returnStatement_55
      have l_46 : (66 : Int32).toInt = 66 := rfl
      have l_47 : (0 : Int32).toInt = 0 := rfl
      refine WP.bind (cs_X1_addPair hfu (66 : Int32) (0 : Int32) F1 G1 hI1) ?_
      rintro r48 F48 G48 ⟨hI48, hB48, hT48, hO48, hK48, hp48⟩
      dsimp only
      have q_49 := i_rng (F48 11)
      have e_50 : (F48 11).toInt = (F1 11).toInt := congrArg Int32.toInt hK48
      have q_51 := hI48.r 10 rfl
      have e_52 : (F48 10).toInt = (F1 10).toInt := hO48
      unfold cb_X4_returnStatement_65
      unfold cb_X4_returnStatement_75
      have l_53 : (15 : Int32).toInt = 15 := rfl
      refine WP.bind (cs_X1_add hfu (15 : Int32) F48 G48 hI48) ?_
      rintro r54 F54 G54 ⟨hI54, hB54, hT54, hO54, hK54, hp54⟩
      dsimp only
      have q_55 := i_rng (F54 11)
      have e_56 : (F54 11).toInt = (F48 11).toInt := congrArg Int32.toInt hK54
      have q_57 := hI54.r 10 rfl
      have e_58 : (F54 10).toInt = (F48 10).toInt := hO54
      have q_59 := hI48.r 21 rfl
      have q_60 := hI54.r 21 rfl
      have e_61 : (F54 21).toInt = (F48 21).toInt := congrArg Int32.toInt hp54
      unfold cb_X4_returnStatement_84
      refine WP.bind (cs_X2_expect hfu (26 : Int32) F54 G54 hI54 (show (26 : Int32).toInt ≠ -2 by omega)) ?_
      rintro r62 F62 G62 ⟨hI62, hB62, hT62, hO62, hS62, hp62⟩
      dsimp only
      have q_63 := i_rng (F62 11)
      have e_64 : (F54 11).toInt = -2 → (F62 11).toInt = -2 := hS62
      have q_65 := hI62.r 10 rfl
      have e_66 : (F62 10).toInt = (F54 10).toInt := hO62
      unfold cb_X4_returnStatement_93
      refine WP.ret ?_
      exact ⟨hI62, (KB.tr (KB.tr (KB.tr (KB.tr (KB.rf : KB F G F G) hB1) hB48) hB54) hB62), (KT.tr (KT.tr (KT.tr (KT.tr (rfl : KT F F) hT1) hT48) hT54) hT62), (KO.tr (KO.tr (KO.tr (KO.tr (rfl : KO F F) hO1) hO48) hO54) hO62), trivial⟩
  · skip
    have q_67 := i_rng (F1 11)
    have l_68 : (26 : Int32).toInt = 26 := rfl
    have e_69 := mt i_eq.mpr (show ¬ ((F1 11) = (26 : Int32)) from c_5)
    unfold cb_X4_returnStatement_23
    unfold cb_X4_returnStatement_24
    refine WP.ite (fun c_70 => ?_) (fun c_70 => ?_)
    · skip
      have l_71 : (0 : Int32).toInt = 0 := rfl
      have q_72 := hI1.r 48 rfl
      have e_73 := i_eq.mp (show (0 : Int32) = (F1 48) from c_70)
      unfold cb_X4_returnStatement_36
      have l_74 : (3 : Int32).toInt = 3 := rfl
      have q_75 := i_rng (F1 13)
      refine WP.bind (cs_X5_note hfu (3 : Int32) (F1 13) F1 G1 hI1) ?_
      rintro r76 F76 G76 ⟨hI76, hB76, hT76, hO76, hK76, hp76⟩
      dsimp only
      have q_77 := i_rng (F76 11)
      have e_78 : (F76 11).toInt = (F1 11).toInt := congrArg Int32.toInt hK76
      have q_79 := hI76.r 10 rfl
      have e_80 : (F76 10).toInt = (F1 10).toInt := hO76
      unfold cb_X4_returnStatement_51
      refine WP.ite (fun _ => ?_) (fun c_81 => absurd (by decide) c_81)
      unfold cb_X4_returnStatement_68
      refine WP.bind (cs_X3_expression hfu F76 G76 hI76) ?_
      rintro r82 F82 G82 ⟨hI82, hB82, hT82, hO82, hS82, hp82⟩
      dsimp only
      have q_83 := i_rng (F82 11)
      have e_84 : (F76 11).toInt = -2 → (F82 11).toInt = -2 := hS82
      have q_85 := hI82.r 10 rfl
      have e_86 : (F82 10).toInt = (F76 10).toInt := hO82
      unfold cb_X4_returnStatement_75
      have l_87 : (15 : Int32).toInt = 15 := rfl
      refine WP.bind (cs_X1_add hfu (15 : Int32) F82 G82 hI82) ?_
      rintro r88 F88 G88 ⟨hI88, hB88, hT88, hO88, hK88, hp88⟩
      dsimp only
      have q_89 := i_rng (F88 11)
      have e_90 : (F88 11).toInt = (F82 11).toInt := congrArg Int32.toInt hK88
      have q_91 := hI88.r 10 rfl
      have e_92 : (F88 10).toInt = (F82 10).toInt := hO88
      have q_93 := hI82.r 21 rfl
      have q_94 := hI88.r 21 rfl
      have e_95 : (F88 21).toInt = (F82 21).toInt := congrArg Int32.toInt hp88
      unfold cb_X4_returnStatement_84
      refine WP.bind (cs_X2_expect hfu (26 : Int32) F88 G88 hI88 (show (26 : Int32).toInt ≠ -2 by omega)) ?_
      rintro r96 F96 G96 ⟨hI96, hB96, hT96, hO96, hS96, hp96⟩
      dsimp only
      have q_97 := i_rng (F96 11)
      have e_98 : (F88 11).toInt = -2 → (F96 11).toInt = -2 := hS96
      have q_99 := hI96.r 10 rfl
      have e_100 : (F96 10).toInt = (F88 10).toInt := hO96
      unfold cb_X4_returnStatement_93
      refine WP.ret ?_
      exact ⟨hI96, (KB.tr (KB.tr (KB.tr (KB.tr (KB.tr (KB.rf : KB F G F G) hB1) hB76) hB82) hB88) hB96), (KT.tr (KT.tr (KT.tr (KT.tr (KT.tr (rfl : KT F F) hT1) hT76) hT82) hT88) hT96), (KO.tr (KO.tr (KO.tr (KO.tr (KO.tr (rfl : KO F F) hO1) hO76) hO82) hO88) hO96), trivial⟩
    · skip
      have l_101 : (0 : Int32).toInt = 0 := rfl
      have q_102 := hI1.r 48 rfl
      have e_103 := mt i_eq.mpr (show ¬ ((0 : Int32) = (F1 48)) from c_70)
      unfold cb_X4_returnStatement_51
      refine WP.ite (fun _ => ?_) (fun c_104 => absurd (by decide) c_104)
      unfold cb_X4_returnStatement_68
      refine WP.bind (cs_X3_expression hfu F1 G1 hI1) ?_
      rintro r105 F105 G105 ⟨hI105, hB105, hT105, hO105, hS105, hp105⟩
      dsimp only
      have q_106 := i_rng (F105 11)
      have e_107 : (F1 11).toInt = -2 → (F105 11).toInt = -2 := hS105
      have q_108 := hI105.r 10 rfl
      have e_109 : (F105 10).toInt = (F1 10).toInt := hO105
      unfold cb_X4_returnStatement_75
      have l_110 : (15 : Int32).toInt = 15 := rfl
      refine WP.bind (cs_X1_add hfu (15 : Int32) F105 G105 hI105) ?_
      rintro r111 F111 G111 ⟨hI111, hB111, hT111, hO111, hK111, hp111⟩
      dsimp only
      have q_112 := i_rng (F111 11)
      have e_113 : (F111 11).toInt = (F105 11).toInt := congrArg Int32.toInt hK111
      have q_114 := hI111.r 10 rfl
      have e_115 : (F111 10).toInt = (F105 10).toInt := hO111
      have q_116 := hI105.r 21 rfl
      have q_117 := hI111.r 21 rfl
      have e_118 : (F111 21).toInt = (F105 21).toInt := congrArg Int32.toInt hp111
      unfold cb_X4_returnStatement_84
      refine WP.bind (cs_X2_expect hfu (26 : Int32) F111 G111 hI111 (show (26 : Int32).toInt ≠ -2 by omega)) ?_
      rintro r119 F119 G119 ⟨hI119, hB119, hT119, hO119, hS119, hp119⟩
      dsimp only
      have q_120 := i_rng (F119 11)
      have e_121 : (F111 11).toInt = -2 → (F119 11).toInt = -2 := hS119
      have q_122 := hI119.r 10 rfl
      have e_123 : (F119 10).toInt = (F111 10).toInt := hO119
      unfold cb_X4_returnStatement_93
      refine WP.ret ?_
      exact ⟨hI119, (KB.tr (KB.tr (KB.tr (KB.tr (KB.rf : KB F G F G) hB1) hB105) hB111) hB119), (KT.tr (KT.tr (KT.tr (KT.tr (rfl : KT F F) hT1) hT105) hT111) hT119), (KO.tr (KO.tr (KO.tr (KO.tr (rfl : KO F F) hO1) hO105) hO111) hO119), trivial⟩
theorem cs_X4_condition {fu : Nat} (hfu : 8589934592 ≤ fu) (F : PF) (G : PG) (hI : CI F G) : WP (cf_X4_condition fu F G) (fun r' F' G' => CI F' G' ∧ KB F G F' G' ∧ KT F F' ∧ KO F F' ∧ KS F F' ∧ True) := by
  unfold cf_X4_condition
  unfold cb_X4_condition_0
  have l_1 : (19 : Int32).toInt = 19 := rfl
  refine WP.bind (cs_X2_opens hfu (19 : Int32) F G hI (show (19 : Int32).toInt ≠ -2 by omega)) ?_
  rintro r2 F2 G2 ⟨hI2, hB2, hT2, hS2, hp2⟩
  dsimp only
  have q_3 := i_rng (F 11)
  have q_4 := i_rng (F2 11)
  have e_5 : (F 11).toInt = -2 → (F2 11).toInt = -2 := hS2
  have q_6 := b_rng (hp2.1)
  have q_7 := hI.r 10 rfl
  have q_8 := hI2.r 10 rfl
  have e_9 : r2.toInt = 1 → (F2 10).toInt = (F 10).toInt + 1 ∧ (F 10).toInt < 40 ∧ (F 11).toInt ≠ -2 := hp2.2.1
  have e_10 : r2.toInt = 0 → (F2 10).toInt = (F 10).toInt ∧ (F2 11).toInt = -2 := hp2.2.2
  unfold cb_X4_condition_9
  refine WP.ite (fun c_11 => ?_) (fun c_11 => ?_)
  · skip
    have l_12 : (0 : Int32).toInt = 0 := rfl
    have e_13 := i_eq.mp (show r2 = (0 : Int32) from c_11)
    unfold cb_X4_condition_28
    refine WP.ret ?_
    exact ⟨hI2, (KB.tr (KB.rf : KB F G F G) hB2), (KT.tr (rfl : KT F F) hT2), (show (F2 10).toInt = (F 10).toInt by omega), (show (F 11).toInt = -2 → (F2 11).toInt = -2 by omega), trivial⟩
  · skip
    have l_14 : (0 : Int32).toInt = 0 := rfl
    have e_15 := mt i_eq.mpr (show ¬ (r2 = (0 : Int32)) from c_11)
    unfold cb_X4_condition_12
    refine WP.bind (cs_X3_expression hfu F2 G2 hI2) ?_
    rintro r16 F16 G16 ⟨hI16, hB16, hT16, hO16, hS16, hp16⟩
    dsimp only
    have q_17 := i_rng (F16 11)
    have e_18 : (F2 11).toInt = -2 → (F16 11).toInt = -2 := hS16
    have q_19 := hI16.r 10 rfl
    have e_20 : (F16 10).toInt = (F2 10).toInt := hO16
    unfold cb_X4_condition_19
    have l_21 : (20 : Int32).toInt = 20 := rfl
    refine WP.bind (cs_X2_closesWith hfu (20 : Int32) F16 G16 hI16 (show 0 ≤ (F16 10).toInt by omega) (show (20 : Int32).toInt ≠ -2 by omega)) ?_
    rintro r22 F22 G22 ⟨hI22, hB22, hT22, hS22, hp22⟩
    dsimp only
    have q_23 := i_rng (F22 11)
    have e_24 : (F16 11).toInt = -2 → (F22 11).toInt = -2 := hS22
    have q_25 := hI22.r 10 rfl
    have e_26 : (F22 10).toInt = (F16 10).toInt - 1 := hp22
    unfold cb_X4_condition_28
    refine WP.ret ?_
    exact ⟨hI22, (KB.tr (KB.tr (KB.tr (KB.rf : KB F G F G) hB2) hB16) hB22), (KT.tr (KT.tr (KT.tr (rfl : KT F F) hT2) hT16) hT22), (show (F22 10).toInt = (F 10).toInt by omega), (show (F 11).toInt = -2 → (F22 11).toInt = -2 by omega), trivial⟩
theorem cs_X4_handOut {fu : Nat} (hfu : 8589934592 ≤ fu) (F : PF) (G : PG) (hI : CI F G) : WP (cf_X4_handOut fu F G) (fun r' F' G' => CI F' G' ∧ KB F G F' G' ∧ KT F F' ∧ KO F F' ∧ True) := by
  unfold cf_X4_handOut
  unfold cb_X4_handOut_0
  refine WP.bind (cs_X2_next hfu F G hI) ?_
  rintro r1 F1 G1 ⟨hI1, hB1, hT1, hO1, hp1⟩
  dsimp only
  have q_2 := hI.r 10 rfl
  have q_3 := hI1.r 10 rfl
  have e_4 : (F1 10).toInt = (F 10).toInt := hO1
  unfold cb_X4_handOut_15
  refine WP.bind (cs_X4_condition hfu F1 G1 hI1) ?_
  rintro r5 F5 G5 ⟨hI5, hB5, hT5, hO5, hS5, hp5⟩
  dsimp only
  have q_6 := i_rng (F1 11)
  have q_7 := i_rng (F5 11)
  have e_8 : (F1 11).toInt = -2 → (F5 11).toInt = -2 := hS5
  have q_9 := hI5.r 10 rfl
  have e_10 : (F5 10).toInt = (F1 10).toInt := hO5
  unfold cb_X4_handOut_19
  have q_11 := i_rng (F 11)
  refine WP.bind (cs_X1_add hfu (F 11) F5 G5 hI5) ?_
  rintro r12 F12 G12 ⟨hI12, hB12, hT12, hO12, hK12, hp12⟩
  dsimp only
  have q_13 := i_rng (F12 11)
  have e_14 : (F12 11).toInt = (F5 11).toInt := congrArg Int32.toInt hK12
  have q_15 := hI12.r 10 rfl
  have e_16 : (F12 10).toInt = (F5 10).toInt := hO12
  have q_17 := hI5.r 21 rfl
  have q_18 := hI12.r 21 rfl
  have e_19 : (F12 21).toInt = (F5 21).toInt := congrArg Int32.toInt hp12
  unfold cb_X4_handOut_27
  have l_20 : (26 : Int32).toInt = 26 := rfl
  refine WP.bind (cs_X2_expect hfu (26 : Int32) F12 G12 hI12 (show (26 : Int32).toInt ≠ -2 by omega)) ?_
  rintro r21 F21 G21 ⟨hI21, hB21, hT21, hO21, hS21, hp21⟩
  dsimp only
  have q_22 := i_rng (F21 11)
  have e_23 : (F12 11).toInt = -2 → (F21 11).toInt = -2 := hS21
  have q_24 := hI21.r 10 rfl
  have e_25 : (F21 10).toInt = (F12 10).toInt := hO21
  unfold cb_X4_handOut_36
  refine WP.ret ?_
  exact ⟨hI21, (KB.tr (KB.tr (KB.tr (KB.tr (KB.rf : KB F G F G) hB1) hB5) hB12) hB21), (KT.tr (KT.tr (KT.tr (KT.tr (rfl : KT F F) hT1) hT5) hT12) hT21), (KO.tr (KO.tr (KO.tr (KO.tr (rfl : KO F F) hO1) hO5) hO12) hO21), trivial⟩
theorem cs_X4_leap {fu : Nat} (hfu : 8589934592 ≤ fu) (F : PF) (G : PG) (hI : CI F G) : WP (cf_X4_leap fu F G) (fun r' F' G' => CI F' G' ∧ KB F G F' G' ∧ KT F F' ∧ KO F F' ∧ True) := by
  unfold cf_X4_leap
  unfold cb_X4_leap_0
  refine WP.ite (fun c_1 => ?_) (fun c_1 => ?_)
  · skip
    have q_2 := i_rng (F 29)
    have l_3 : (0 : Int32).toInt = 0 := rfl
    have e_4 := i_eq.mp (show (F 29) = (0 : Int32) from c_1)
    unfold cb_X4_leap_7
    have l_5 : (6 : Int32).toInt = 6 := rfl
    have q_6 := i_rng (F 13)
    refine WP.bind (cs_X5_note hfu (6 : Int32) (F 13) F G hI) ?_
    rintro r7 F7 G7 ⟨hI7, hB7, hT7, hO7, hK7, hp7⟩
    dsimp only
    have q_8 := i_rng (F 11)
    have q_9 := i_rng (F7 11)
    have e_10 : (F7 11).toInt = (F 11).toInt := congrArg Int32.toInt hK7
    have q_11 := hI.r 10 rfl
    have q_12 := hI7.r 10 rfl
    have e_13 : (F7 10).toInt = (F 10).toInt := hO7
    unfold cb_X4_leap_23
    refine WP.ite (fun c_14 => ?_) (fun c_14 => ?_)
    · skip
      have l_15 : (13 : Int32).toInt = 13 := rfl
      have e_16 := i_eq.mp (show (F7 11) = (13 : Int32) from c_14)
      unfold cb_X4_leap_35
      have l_17 : (84 : Int32).toInt = 84 := rfl
      have q_18 := i_rng (F7 30)
      refine WP.bind (cs_X1_addJump hfu (84 : Int32) (F7 30) F7 G7 hI7) ?_
      rintro r19 F19 G19 ⟨hI19, hB19, hT19, hO19, hK19, hp19⟩
      dsimp only
      have q_20 := i_rng (F19 11)
      have e_21 : (F19 11).toInt = (F7 11).toInt := congrArg Int32.toInt hK19
      have q_22 := hI19.r 10 rfl
      have e_23 : (F19 10).toInt = (F7 10).toInt := hO19
      have q_24 := hI7.r 21 rfl
      have q_25 := hI19.r 21 rfl
      have e_26 : (F19 21).toInt = (F7 21).toInt := congrArg Int32.toInt hp19
      unfold cb_X4_leap_49
      have q_27 := i_rng r19
      have j_28 : CI (fup F19 30 r19) G19 := CI.fr rfl hI19
      unfold cb_X4_leap_52
      unfold cb_X4_leap_72
      refine WP.bind (cs_X2_next hfu (fup F19 30 r19) G19 j_28) ?_
      rintro r29 F29 G29 ⟨hI29, hB29, hT29, hO29, hp29⟩
      dsimp only
      have q_30 := hI29.r 10 rfl
      have e_31 : (F29 10).toInt = (F19 10).toInt := hO29
      unfold cb_X4_leap_79
      have l_32 : (26 : Int32).toInt = 26 := rfl
      refine WP.bind (cs_X2_expect hfu (26 : Int32) F29 G29 hI29 (show (26 : Int32).toInt ≠ -2 by omega)) ?_
      rintro r33 F33 G33 ⟨hI33, hB33, hT33, hO33, hS33, hp33⟩
      dsimp only
      have q_34 := i_rng (F29 11)
      have q_35 := i_rng (F33 11)
      have e_36 : (F29 11).toInt = -2 → (F33 11).toInt = -2 := hS33
      have q_37 := hI33.r 10 rfl
      have e_38 : (F33 10).toInt = (F29 10).toInt := hO33
      unfold cb_X4_leap_88
      refine WP.ret ?_
      exact ⟨hI33, (KB.tr (KB.tr (KB.f (by decide) (KB.tr (KB.tr (KB.rf : KB F G F G) hB7) hB19)) hB29) hB33), (KT.tr (KT.tr (KT.f (by decide) (KT.tr (KT.tr (rfl : KT F F) hT7) hT19)) hT29) hT33), (KO.tr (KO.tr (KO.f (by decide) (KO.tr (KO.tr (rfl : KO F F) hO7) hO19)) hO29) hO33), trivial⟩
    · skip
      have l_39 : (13 : Int32).toInt = 13 := rfl
      have e_40 := mt i_eq.mpr (show ¬ ((F7 11) = (13 : Int32)) from c_14)
      unfold cb_X4_leap_55
      have l_41 : (84 : Int32).toInt = 84 := rfl
      have q_42 := i_rng (F7 31)
      refine WP.bind (cs_X1_addJump hfu (84 : Int32) (F7 31) F7 G7 hI7) ?_
      rintro r43 F43 G43 ⟨hI43, hB43, hT43, hO43, hK43, hp43⟩
      dsimp only
      have q_44 := i_rng (F43 11)
      have e_45 : (F43 11).toInt = (F7 11).toInt := congrArg Int32.toInt hK43
      have q_46 := hI43.r 10 rfl
      have e_47 : (F43 10).toInt = (F7 10).toInt := hO43
      have q_48 := hI7.r 21 rfl
      have q_49 := hI43.r 21 rfl
      have e_50 : (F43 21).toInt = (F7 21).toInt := congrArg Int32.toInt hp43
      unfold cb_X4_leap_69
      have q_51 := i_rng r43
      have j_52 : CI (fup F43 31 r43) G43 := CI.fr rfl hI43
      unfold cb_X4_leap_72
      refine WP.bind (cs_X2_next hfu (fup F43 31 r43) G43 j_52) ?_
      rintro r53 F53 G53 ⟨hI53, hB53, hT53, hO53, hp53⟩
      dsimp only
      have q_54 := hI53.r 10 rfl
      have e_55 : (F53 10).toInt = (F43 10).toInt := hO53
      unfold cb_X4_leap_79
      have l_56 : (26 : Int32).toInt = 26 := rfl
      refine WP.bind (cs_X2_expect hfu (26 : Int32) F53 G53 hI53 (show (26 : Int32).toInt ≠ -2 by omega)) ?_
      rintro r57 F57 G57 ⟨hI57, hB57, hT57, hO57, hS57, hp57⟩
      dsimp only
      have q_58 := i_rng (F53 11)
      have q_59 := i_rng (F57 11)
      have e_60 : (F53 11).toInt = -2 → (F57 11).toInt = -2 := hS57
      have q_61 := hI57.r 10 rfl
      have e_62 : (F57 10).toInt = (F53 10).toInt := hO57
      unfold cb_X4_leap_88
      refine WP.ret ?_
      exact ⟨hI57, (KB.tr (KB.tr (KB.f (by decide) (KB.tr (KB.tr (KB.rf : KB F G F G) hB7) hB43)) hB53) hB57), (KT.tr (KT.tr (KT.f (by decide) (KT.tr (KT.tr (rfl : KT F F) hT7) hT43)) hT53) hT57), (KO.tr (KO.tr (KO.f (by decide) (KO.tr (KO.tr (rfl : KO F F) hO7) hO43)) hO53) hO57), trivial⟩
  · skip
    have q_63 := i_rng (F 29)
    have l_64 : (0 : Int32).toInt = 0 := rfl
    have e_65 := mt i_eq.mpr (show ¬ ((F 29) = (0 : Int32)) from c_1)
    unfold cb_X4_leap_23
    refine WP.ite (fun c_66 => ?_) (fun c_66 => ?_)
    · skip
      have q_67 := i_rng (F 11)
      have l_68 : (13 : Int32).toInt = 13 := rfl
      have e_69 := i_eq.mp (show (F 11) = (13 : Int32) from c_66)
      unfold cb_X4_leap_35
      have l_70 : (84 : Int32).toInt = 84 := rfl
      have q_71 := i_rng (F 30)
      refine WP.bind (cs_X1_addJump hfu (84 : Int32) (F 30) F G hI) ?_
      rintro r72 F72 G72 ⟨hI72, hB72, hT72, hO72, hK72, hp72⟩
      dsimp only
      have q_73 := i_rng (F72 11)
      have e_74 : (F72 11).toInt = (F 11).toInt := congrArg Int32.toInt hK72
      have q_75 := hI.r 10 rfl
      have q_76 := hI72.r 10 rfl
      have e_77 : (F72 10).toInt = (F 10).toInt := hO72
      have q_78 := hI.r 21 rfl
      have q_79 := hI72.r 21 rfl
      have e_80 : (F72 21).toInt = (F 21).toInt := congrArg Int32.toInt hp72
      unfold cb_X4_leap_49
      have q_81 := i_rng r72
      have j_82 : CI (fup F72 30 r72) G72 := CI.fr rfl hI72
      unfold cb_X4_leap_52
      unfold cb_X4_leap_72
      refine WP.bind (cs_X2_next hfu (fup F72 30 r72) G72 j_82) ?_
      rintro r83 F83 G83 ⟨hI83, hB83, hT83, hO83, hp83⟩
      dsimp only
      have q_84 := hI83.r 10 rfl
      have e_85 : (F83 10).toInt = (F72 10).toInt := hO83
      unfold cb_X4_leap_79
      have l_86 : (26 : Int32).toInt = 26 := rfl
      refine WP.bind (cs_X2_expect hfu (26 : Int32) F83 G83 hI83 (show (26 : Int32).toInt ≠ -2 by omega)) ?_
      rintro r87 F87 G87 ⟨hI87, hB87, hT87, hO87, hS87, hp87⟩
      dsimp only
      have q_88 := i_rng (F83 11)
      have q_89 := i_rng (F87 11)
      have e_90 : (F83 11).toInt = -2 → (F87 11).toInt = -2 := hS87
      have q_91 := hI87.r 10 rfl
      have e_92 : (F87 10).toInt = (F83 10).toInt := hO87
      unfold cb_X4_leap_88
      refine WP.ret ?_
      exact ⟨hI87, (KB.tr (KB.tr (KB.f (by decide) (KB.tr (KB.rf : KB F G F G) hB72)) hB83) hB87), (KT.tr (KT.tr (KT.f (by decide) (KT.tr (rfl : KT F F) hT72)) hT83) hT87), (KO.tr (KO.tr (KO.f (by decide) (KO.tr (rfl : KO F F) hO72)) hO83) hO87), trivial⟩
    · skip
      have q_93 := i_rng (F 11)
      have l_94 : (13 : Int32).toInt = 13 := rfl
      have e_95 := mt i_eq.mpr (show ¬ ((F 11) = (13 : Int32)) from c_66)
      unfold cb_X4_leap_55
      have l_96 : (84 : Int32).toInt = 84 := rfl
      have q_97 := i_rng (F 31)
      refine WP.bind (cs_X1_addJump hfu (84 : Int32) (F 31) F G hI) ?_
      rintro r98 F98 G98 ⟨hI98, hB98, hT98, hO98, hK98, hp98⟩
      dsimp only
      have q_99 := i_rng (F98 11)
      have e_100 : (F98 11).toInt = (F 11).toInt := congrArg Int32.toInt hK98
      have q_101 := hI.r 10 rfl
      have q_102 := hI98.r 10 rfl
      have e_103 : (F98 10).toInt = (F 10).toInt := hO98
      have q_104 := hI.r 21 rfl
      have q_105 := hI98.r 21 rfl
      have e_106 : (F98 21).toInt = (F 21).toInt := congrArg Int32.toInt hp98
      unfold cb_X4_leap_69
      have q_107 := i_rng r98
      have j_108 : CI (fup F98 31 r98) G98 := CI.fr rfl hI98
      unfold cb_X4_leap_72
      refine WP.bind (cs_X2_next hfu (fup F98 31 r98) G98 j_108) ?_
      rintro r109 F109 G109 ⟨hI109, hB109, hT109, hO109, hp109⟩
      dsimp only
      have q_110 := hI109.r 10 rfl
      have e_111 : (F109 10).toInt = (F98 10).toInt := hO109
      unfold cb_X4_leap_79
      have l_112 : (26 : Int32).toInt = 26 := rfl
      refine WP.bind (cs_X2_expect hfu (26 : Int32) F109 G109 hI109 (show (26 : Int32).toInt ≠ -2 by omega)) ?_
      rintro r113 F113 G113 ⟨hI113, hB113, hT113, hO113, hS113, hp113⟩
      dsimp only
      have q_114 := i_rng (F109 11)
      have q_115 := i_rng (F113 11)
      have e_116 : (F109 11).toInt = -2 → (F113 11).toInt = -2 := hS113
      have q_117 := hI113.r 10 rfl
      have e_118 : (F113 10).toInt = (F109 10).toInt := hO113
      unfold cb_X4_leap_88
      refine WP.ret ?_
      exact ⟨hI113, (KB.tr (KB.tr (KB.f (by decide) (KB.tr (KB.rf : KB F G F G) hB98)) hB109) hB113), (KT.tr (KT.tr (KT.f (by decide) (KT.tr (rfl : KT F F) hT98)) hT109) hT113), (KO.tr (KO.tr (KO.f (by decide) (KO.tr (rfl : KO F F) hO98)) hO109) hO113), trivial⟩
