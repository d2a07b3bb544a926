theorem cU1 {fu : Nat} (hfu : 8589934592 ≤ fu) : ∀ d : Nat, cIH1 (cS1 fu d) d := by
  intro d
  induction d with
  | zero =>
    refine ⟨?_, ?_, ?_, ?_, ?_, ?_⟩
    · intro x y F G hI hd; have := hI.r 10 rfl; omega
    · intro F G hI hd; have := hI.r 10 rfl; omega
    · intro x F G hI hd; have := hI.r 10 rfl; omega
    · intro F G hI hd; have := hI.r 10 rfl; omega
    · intro F G hI hd; have := hI.r 10 rfl; omega
    · intro F G hI hd; have := hI.r 10 rfl; omega
  | succ d ih =>
    refine ⟨?_, ?_, ?_, ?_, ?_, ?_⟩
    · intro x y F G hI hd
      exact ct_X3_call hfu (cS1 fu d) ih x y F G hI (by omega)
    · intro F G hI hd
      exact ct_X3_expression hfu (cS1 fu d) ih F G hI (by omega)
    · intro x F G hI hd
      exact ct_X3_index hfu (cS1 fu d) ih x F G hI (by omega)
    · intro F G hI hd
      exact ct_X3_joinedOperands hfu (cS1 fu d) ih F G hI (by omega)
    · intro F G hI hd
      exact ct_X3_named hfu (cS1 fu d) ih F G hI (by omega)
    · intro F G hI hd
      exact ct_X3_operand hfu (cS1 fu d) ih F G hI (by omega)
theorem cs_X3_call {fu : Nat} (hfu : 8589934592 ≤ fu) (x : Int32) (y : Int32) (F : PF) (G : PG) (hI : CI F G) : WP (cf_X3_call fu x y F G) (fun r' F' G' => CI F' G' ∧ KB F G F' G' ∧ KT F F' ∧ KO F F' ∧ True) := (cU1 hfu 300).1 x y F G hI (by have := hI.r 10 rfl; omega)
theorem cs_X3_expression {fu : Nat} (hfu : 8589934592 ≤ fu) (F : PF) (G : PG) (hI : CI F G) : WP (cf_X3_expression fu F G) (fun r' F' G' => CI F' G' ∧ KB F G F' G' ∧ KT F F' ∧ KO F F' ∧ KS F F' ∧ True) := (cU1 hfu 300).2.1 F G hI (by have := hI.r 10 rfl; omega)
theorem cs_X3_index {fu : Nat} (hfu : 8589934592 ≤ fu) (x : Int32) (F : PF) (G : PG) (hI : CI F G) : WP (cf_X3_index fu x F G) (fun r' F' G' => CI F' G' ∧ KB F G F' G' ∧ KT F F' ∧ KO F F' ∧ True) := (cU1 hfu 300).2.2.1 x F G hI (by have := hI.r 10 rfl; omega)
theorem cs_X3_joinedOperands {fu : Nat} (hfu : 8589934592 ≤ fu) (F : PF) (G : PG) (hI : CI F G) : WP (cf_X3_joinedOperands fu F G) (fun r' F' G' => CI F' G' ∧ KB F G F' G' ∧ KT F F' ∧ KO F F' ∧ KS F F' ∧ True) := (cU1 hfu 300).2.2.2.1 F G hI (by have := hI.r 10 rfl; omega)
theorem cs_X3_named {fu : Nat} (hfu : 8589934592 ≤ fu) (F : PF) (G : PG) (hI : CI F G) : WP (cf_X3_named fu F G) (fun r' F' G' => CI F' G' ∧ KB F G F' G' ∧ KT F F' ∧ KO F F' ∧ True) := (cU1 hfu 300).2.2.2.2.1 F G hI (by have := hI.r 10 rfl; omega)
theorem cs_X3_operand {fu : Nat} (hfu : 8589934592 ≤ fu) (F : PF) (G : PG) (hI : CI F G) : WP (cf_X3_operand fu F G) (fun r' F' G' => CI F' G' ∧ KB F G F' G' ∧ KT F F' ∧ KO F F' ∧ KS F F' ∧ True) := (cU1 hfu 300).2.2.2.2.2 F G hI (by have := hI.r 10 rfl; omega)
theorem cs_X6_changed {fu : Nat} (hfu : 8589934592 ≤ fu) (x0 : Int32) (x1 : Int32) (F : PF) (G : PG) (hI : CI F G) : WP (cf_X6_changed fu x0 x1 F G) (fun r' F' G' => F = F' ∧ G = G' ∧ True) := by
  unfold cf_X6_changed
  unfold cb_X6_changed_0
  have q_1 := i_rng x0
  refine WP.ite (fun c_2 => ?_) (fun c_2 => ?_)
  · have e_3 : x0.toInt < 62 ∨ 64 < x0.toInt := c_2
    unfold cb_X6_changed_48
    refine WP.ite (fun c_4 => ?_) (fun c_4 => ?_)
    · skip
      have q_5 := i_rng x1
      have l_6 : (0 : Int32).toInt = 0 := rfl
      have e_7 := i_eq.mp (show x1 = (0 : Int32) from c_4)
      unfold cb_X6_changed_56
      unfold cb_X6_changed_57
      refine WP.bind (cs_X11_truth hfu (0 : Int32) F G hI (by decide)) ?_
      rintro r8 _ _ ⟨rfl, rfl, hp8⟩
      dsimp only
      unfold cb_X6_changed_60
      refine WP.ret ?_
      exact ⟨rfl, rfl, trivial⟩
    · skip
      have q_9 := i_rng x1
      have l_10 : (0 : Int32).toInt = 0 := rfl
      have e_11 := mt i_eq.mpr (show ¬ (x1 = (0 : Int32)) from c_4)
      unfold cb_X6_changed_52
      unfold cb_X6_changed_57
      have l_12 : (1 : Int32).toInt = 1 := rfl
      refine WP.bind (cs_X11_truth hfu (1 : Int32) F G hI (by decide)) ?_
      rintro r13 _ _ ⟨rfl, rfl, hp13⟩
      dsimp only
      unfold cb_X6_changed_60
      refine WP.ret ?_
      exact ⟨rfl, rfl, trivial⟩
  have e_14 : ¬ (x0.toInt < 62 ∨ 64 < x0.toInt) := c_2
  refine WP.ite (fun c_15 => ?_) (fun c_15 => ?_)
  · skip
    have l_16 : (62 : Int32).toInt = 62 := rfl
    have e_17 := i_eq.mp (show x0 = (62 : Int32) from c_15)
    unfold cb_X6_changed_28
    refine WP.ret ?_
    exact ⟨rfl, rfl, trivial⟩
  have l_18 : (62 : Int32).toInt = 62 := rfl
  have e_19 := mt i_eq.mpr (show ¬ (x0 = (62 : Int32)) from c_15)
  refine WP.ite (fun c_20 => ?_) (fun c_20 => ?_)
  · skip
    have l_21 : (63 : Int32).toInt = 63 := rfl
    have e_22 := i_eq.mp (show x0 = (63 : Int32) from c_20)
    unfold cb_X6_changed_32
    refine WP.ite (fun c_23 => ?_) (fun c_23 => ?_)
    · skip
      have q_24 := i_rng x1
      have l_25 : (0 : Int32).toInt = 0 := rfl
      have e_26 := i_eq.mp (show x1 = (0 : Int32) from c_23)
      unfold cb_X6_changed_36
      unfold cb_X6_changed_41
      have l_27 : (1 : Int32).toInt = 1 := rfl
      refine WP.bind (cs_X11_truth hfu (1 : Int32) F G hI (by decide)) ?_
      rintro r28 _ _ ⟨rfl, rfl, hp28⟩
      dsimp only
      unfold cb_X6_changed_44
      refine WP.ret ?_
      exact ⟨rfl, rfl, trivial⟩
    · skip
      have q_29 := i_rng x1
      have l_30 : (0 : Int32).toInt = 0 := rfl
      have e_31 := mt i_eq.mpr (show ¬ (x1 = (0 : Int32)) from c_23)
      unfold cb_X6_changed_40
      unfold cb_X6_changed_41
      refine WP.bind (cs_X11_truth hfu (0 : Int32) F G hI (by decide)) ?_
      rintro r32 _ _ ⟨rfl, rfl, hp32⟩
      dsimp only
      unfold cb_X6_changed_44
      refine WP.ret ?_
      exact ⟨rfl, rfl, trivial⟩
  have l_33 : (63 : Int32).toInt = 63 := rfl
  have e_34 := mt i_eq.mpr (show ¬ (x0 = (63 : Int32)) from c_20)
  unfold cb_X6_changed_45
  refine WP.ret ?_
  exact ⟨rfl, rfl, trivial⟩
theorem cs_X6_next {fu : Nat} (hfu : 8589934592 ≤ fu) (F : PF) (G : PG) (hI : CI F G) : WP (cf_X6_next fu F G) (fun r' F' G' => CI F' G' ∧ KB F G F' G' ∧ KT F F' ∧ KO F F' ∧ KK F F' ∧ True) := by
  unfold cf_X6_next
  unfold cb_X6_next_0
  refine WP.ite (fun c_1 => ?_) (fun c_1 => ?_)
  · skip
    have q_2 := i_rng (F 57)
    have l_3 : (0 : Int32).toInt = 0 := rfl
    have e_4 := i_lt.mp (show (F 57) < (0 : Int32) from c_1)
    unfold cb_X6_next_21
    unfold cb_X6_next_38
    first | have e_5 : ((F 57) + (1 : Int32)).toInt = (F 57).toInt + (1) := i_addn (F 57) rfl (by omega) (by omega) | have e_6 := i_rng ((F 57) + (1 : Int32))
    have j_7 : CI (fup F 57 ((F 57) + (1 : Int32))) G := CI.fr rfl hI
    unfold cb_X6_next_49
    refine WP.ret ?_
    exact ⟨j_7, (KB.f (by decide) (KB.rf : KB F G F G)), (KT.f (by decide) (rfl : KT F F)), (KO.f (by decide) (rfl : KO F F)), (KK.f (by decide) (rfl : KK F F)), trivial⟩
  · skip
    have q_8 := i_rng (F 57)
    have l_9 : (0 : Int32).toInt = 0 := rfl
    have e_10 := mt i_lt.mpr (show ¬ ((F 57) < (0 : Int32)) from c_1)
    unfold cb_X6_next_7
    refine WP.ite (fun c_11 => ?_) (fun c_11 => ?_)
    · skip
      have q_12 := hI.r 6 rfl
      have e_13 := i_lt.mp (show (F 57) < (F 6) from c_11)
      unfold cb_X6_next_26
      refine WP.ix (show vp_in (F 57) 8400 from vp_in_iff.mpr ⟨by omega, by omega⟩) ?_
      unfold cb_X6_next_38
      first | have e_14 : ((F 57) + (1 : Int32)).toInt = (F 57).toInt + (1) := i_addn (F 57) rfl (by omega) (by omega) | have e_15 := i_rng ((F 57) + (1 : Int32))
      have j_16 : CI (fup F 57 ((F 57) + (1 : Int32))) G := CI.fr rfl hI
      unfold cb_X6_next_49
      refine WP.ret ?_
      exact ⟨j_16, (KB.f (by decide) (KB.rf : KB F G F G)), (KT.f (by decide) (rfl : KT F F)), (KO.f (by decide) (rfl : KO F F)), (KK.f (by decide) (rfl : KK F F)), trivial⟩
    · skip
      have q_17 := hI.r 6 rfl
      have e_18 := mt i_lt.mpr (show ¬ ((F 57) < (F 6)) from c_11)
      unfold cb_X6_next_21
      unfold cb_X6_next_38
      first | have e_19 : ((F 57) + (1 : Int32)).toInt = (F 57).toInt + (1) := i_addn (F 57) rfl (by omega) (by omega) | have e_20 := i_rng ((F 57) + (1 : Int32))
      have j_21 : CI (fup F 57 ((F 57) + (1 : Int32))) G := CI.fr rfl hI
      unfold cb_X6_next_49
      refine WP.ret ?_
      exact ⟨j_21, (KB.f (by decide) (KB.rf : KB F G F G)), (KT.f (by decide) (rfl : KT F F)), (KO.f (by decide) (rfl : KO F F)), (KK.f (by decide) (rfl : KK F F)), trivial⟩
theorem cs_X6_pop {fu : Nat} (hfu : 8589934592 ≤ fu) (F : PF) (G : PG) (hI : CI F G) : WP (cf_X6_pop fu F G) (fun r' F' G' => CI F' G' ∧ KB F G F' G' ∧ KT F F' ∧ KO F F' ∧ KK F F' ∧ True) := by
  unfold cf_X6_pop
  unfold cb_X6_pop_0
  refine WP.ite (fun c_1 => ?_) (fun c_1 => ?_)
  · skip
    have l_2 : (0 : Int32).toInt = 0 := rfl
    have q_3 := hI.r 56 rfl
    have q_4 := hI.xx
    have e_5 := i_lt.mp (show (0 : Int32) < (F 56) from c_1)
    unfold cb_X6_pop_9
    first | have e_6 : ((F 56) - (1 : Int32)).toInt = (F 56).toInt - (1) := i_subn (F 56) rfl (by omega) (by omega) | have e_7 := i_rng ((F 56) - (1 : Int32))
    have q_9 := hI.xx
    have j_8 : CI (fup F 56 ((F 56) - (1 : Int32))) G := CI.top hI (by omega) (show ((F 56) - (1 : Int32)).toInt ≤ (xn F : Int) by omega)
    unfold cb_X6_pop_19
    have q_10 := hI.xx
    refine WP.ix (show vp_in ((F 56) - (1 : Int32)) (xn F) from vp_in_iff.mpr ⟨by omega, by omega⟩) ?_
    refine WP.ret ?_
    exact ⟨j_8, (KB.f (by decide) (KB.rf : KB F G F G)), (KT.f (by decide) (rfl : KT F F)), (KO.f (by decide) (rfl : KO F F)), (KK.f (by decide) (rfl : KK F F)), trivial⟩
  · skip
    have l_11 : (0 : Int32).toInt = 0 := rfl
    have q_12 := hI.r 56 rfl
    have q_13 := hI.xx
    have e_14 := mt i_lt.mpr (show ¬ ((0 : Int32) < (F 56)) from c_1)
    unfold cb_X6_pop_7
    refine WP.ret ?_
    exact ⟨hI, (KB.rf : KB F G F G), (rfl : KT F F), (rfl : KO F F), (rfl : KK F F), trivial⟩
theorem cs_X6_jump {fu : Nat} (hfu : 8589934592 ≤ fu) (x1 : Int32) (x2 : Int32) (F : PF) (G : PG) (hI : CI F G) : WP (cf_X6_jump fu x1 x2 F G) (fun r' F' G' => CI F' G' ∧ KB F G F' G' ∧ KT F F' ∧ KO F F' ∧ KK F F' ∧ True) := by
  unfold cf_X6_jump
  unfold cb_X6_jump_0
  refine WP.ite (fun c_1 => ?_) (fun c_1 => ?_)
  · skip
    have q_2 := i_rng x1
    have l_3 : (84 : Int32).toInt = 84 := rfl
    have e_4 := i_eq.mp (show x1 = (84 : Int32) from c_1)
    unfold cb_X6_jump_69
    refine WP.ite (fun c_5 => absurd c_5 (by decide)) (fun _ => ?_)
    unfold cb_X6_jump_73
    have q_6 := i_rng x2
    have j_7 : CI (fup F 57 x2) G := CI.fr rfl hI
    unfold cb_X6_jump_78
    refine WP.ret ?_
    exact ⟨j_7, (KB.f (by decide) (KB.rf : KB F G F G)), (KT.f (by decide) (rfl : KT F F)), (KO.f (by decide) (rfl : KO F F)), (KK.f (by decide) (rfl : KK F F)), trivial⟩
  · skip
    have q_8 := i_rng x1
    have l_9 : (84 : Int32).toInt = 84 := rfl
    have e_10 := mt i_eq.mpr (show ¬ (x1 = (84 : Int32)) from c_1)
    unfold cb_X6_jump_8
    refine WP.bind (cs_X6_pop hfu F G hI) ?_
    rintro r11 F11 G11 ⟨hI11, hB11, hT11, hO11, hK11, hp11⟩
    dsimp only
    have q_12 := hI.r 10 rfl
    have q_13 := hI11.r 10 rfl
    have e_14 : (F11 10).toInt = (F 10).toInt := hO11
    unfold cb_X6_jump_12
    refine WP.ite (fun c_15 => ?_) (fun c_15 => ?_)
    · skip
      have q_16 := i_rng r11
      have l_17 : (0 : Int32).toInt = 0 := rfl
      have e_18 := i_eq.mp (show r11 = (0 : Int32) from c_15)
      unfold cb_X6_jump_19
      unfold cb_X6_jump_20
      refine WP.ite (fun c_19 => ?_) (fun c_19 => ?_)
      · skip
        have l_20 : (85 : Int32).toInt = 85 := rfl
        have e_21 := i_eq.mp (show x1 = (85 : Int32) from c_19)
        unfold cb_X6_jump_36
        unfold cb_X6_jump_41
        refine WP.ite (fun c_22 => absurd c_22 (by decide)) (fun _ => ?_)
        unfold cb_X6_jump_48
        unfold cb_X6_jump_49
        refine WP.ite (fun _ => ?_) (fun c_23 => absurd (by decide) c_23)
        unfold cb_X6_jump_69
        refine WP.ite (fun _ => ?_) (fun c_24 => absurd (by decide) c_24)
        unfold cb_X6_jump_78
        refine WP.ret ?_
        exact ⟨hI11, (KB.tr (KB.rf : KB F G F G) hB11), (KT.tr (rfl : KT F F) hT11), (KO.tr (rfl : KO F F) hO11), (KK.tr (rfl : KK F F) hK11), trivial⟩
      · skip
        have l_25 : (85 : Int32).toInt = 85 := rfl
        have e_26 := mt i_eq.mpr (show ¬ (x1 = (85 : Int32)) from c_19)
        unfold cb_X6_jump_30
        refine WP.ite (fun c_27 => ?_) (fun c_27 => ?_)
        · skip
          have l_28 : (87 : Int32).toInt = 87 := rfl
          have e_29 := i_eq.mp (show x1 = (87 : Int32) from c_27)
          unfold cb_X6_jump_36
          unfold cb_X6_jump_41
          refine WP.ite (fun c_30 => absurd c_30 (by decide)) (fun _ => ?_)
          unfold cb_X6_jump_48
          unfold cb_X6_jump_49
          refine WP.ite (fun _ => ?_) (fun c_31 => absurd (by decide) c_31)
          unfold cb_X6_jump_69
          refine WP.ite (fun _ => ?_) (fun c_32 => absurd (by decide) c_32)
          unfold cb_X6_jump_78
          refine WP.ret ?_
          exact ⟨hI11, (KB.tr (KB.rf : KB F G F G) hB11), (KT.tr (rfl : KT F F) hT11), (KO.tr (rfl : KO F F) hO11), (KK.tr (rfl : KK F F) hK11), trivial⟩
        · skip
          have l_33 : (87 : Int32).toInt = 87 := rfl
          have e_34 := mt i_eq.mpr (show ¬ (x1 = (87 : Int32)) from c_27)
          unfold cb_X6_jump_40
          unfold cb_X6_jump_41
          refine WP.ite (fun _ => ?_) (fun c_35 => absurd (by decide) c_35)
          unfold cb_X6_jump_44
          unfold cb_X6_jump_49
          refine WP.ite (fun c_36 => absurd c_36 (by decide)) (fun _ => ?_)
          unfold cb_X6_jump_54
          refine WP.ite (fun c_37 => ?_) (fun c_37 => ?_)
          · skip
            have e_38 := i_lt.mp (show x1 < (87 : Int32) from c_37)
            unfold cb_X6_jump_69
            refine WP.ite (fun c_39 => absurd c_39 (by decide)) (fun _ => ?_)
            unfold cb_X6_jump_73
            have q_40 := i_rng x2
            have j_41 : CI (fup F11 57 x2) G11 := CI.fr rfl hI11
            unfold cb_X6_jump_78
            refine WP.ret ?_
            exact ⟨j_41, (KB.f (by decide) (KB.tr (KB.rf : KB F G F G) hB11)), (KT.f (by decide) (KT.tr (rfl : KT F F) hT11)), (KO.f (by decide) (KO.tr (rfl : KO F F) hO11)), (KK.f (by decide) (KK.tr (rfl : KK F F) hK11)), trivial⟩
          · skip
            have e_42 := mt i_lt.mpr (show ¬ (x1 < (87 : Int32)) from c_37)
            unfold cb_X6_jump_60
            refine WP.bind (cs_X11_truth hfu (0 : Int32) F11 G11 hI11 (by decide)) ?_
            rintro r43 _ _ ⟨rfl, rfl, hp43⟩
            dsimp only
            unfold cb_X6_jump_66
            have q_44 := i_rng r43
            refine WP.bind (cs_X6_push hfu r43 F11 G11 hI11) ?_
            rintro r45 F45 G45 ⟨hI45, hB45, hT45, hO45, hK45, hp45⟩
            dsimp only
            have q_46 := hI45.r 10 rfl
            have e_47 : (F45 10).toInt = (F11 10).toInt := hO45
            unfold cb_X6_jump_69
            refine WP.ite (fun c_48 => absurd c_48 (by decide)) (fun _ => ?_)
            unfold cb_X6_jump_73
            have q_49 := i_rng x2
            have j_50 : CI (fup F45 57 x2) G45 := CI.fr rfl hI45
            unfold cb_X6_jump_78
            refine WP.ret ?_
            exact ⟨j_50, (KB.f (by decide) (KB.tr (KB.tr (KB.rf : KB F G F G) hB11) hB45)), (KT.f (by decide) (KT.tr (KT.tr (rfl : KT F F) hT11) hT45)), (KO.f (by decide) (KO.tr (KO.tr (rfl : KO F F) hO11) hO45)), (KK.f (by decide) (KK.tr (KK.tr (rfl : KK F F) hK11) hK45)), trivial⟩
    · skip
      have q_51 := i_rng r11
      have l_52 : (0 : Int32).toInt = 0 := rfl
      have e_53 := mt i_eq.mpr (show ¬ (r11 = (0 : Int32)) from c_15)
      unfold cb_X6_jump_15
      unfold cb_X6_jump_20
      refine WP.ite (fun c_54 => ?_) (fun c_54 => ?_)
      · skip
        have l_55 : (85 : Int32).toInt = 85 := rfl
        have e_56 := i_eq.mp (show x1 = (85 : Int32) from c_54)
        unfold cb_X6_jump_36
        unfold cb_X6_jump_41
        refine WP.ite (fun _ => ?_) (fun c_57 => absurd (by decide) c_57)
        unfold cb_X6_jump_44
        unfold cb_X6_jump_49
        refine WP.ite (fun c_58 => absurd c_58 (by decide)) (fun _ => ?_)
        unfold cb_X6_jump_54
        refine WP.ite (fun c_59 => ?_) (fun c_59 => ?_)
        · skip
          have l_60 : (87 : Int32).toInt = 87 := rfl
          have e_61 := i_lt.mp (show x1 < (87 : Int32) from c_59)
          unfold cb_X6_jump_69
          refine WP.ite (fun c_62 => absurd c_62 (by decide)) (fun _ => ?_)
          unfold cb_X6_jump_73
          have q_63 := i_rng x2
          have j_64 : CI (fup F11 57 x2) G11 := CI.fr rfl hI11
          unfold cb_X6_jump_78
          refine WP.ret ?_
          exact ⟨j_64, (KB.f (by decide) (KB.tr (KB.rf : KB F G F G) hB11)), (KT.f (by decide) (KT.tr (rfl : KT F F) hT11)), (KO.f (by decide) (KO.tr (rfl : KO F F) hO11)), (KK.f (by decide) (KK.tr (rfl : KK F F) hK11)), trivial⟩
        · skip
          have l_65 : (87 : Int32).toInt = 87 := rfl
          have e_66 := mt i_lt.mpr (show ¬ (x1 < (87 : Int32)) from c_59)
          unfold cb_X6_jump_60
          have l_67 : (1 : Int32).toInt = 1 := rfl
          refine WP.bind (cs_X11_truth hfu (1 : Int32) F11 G11 hI11 (by decide)) ?_
          rintro r68 _ _ ⟨rfl, rfl, hp68⟩
          dsimp only
          unfold cb_X6_jump_66
          have q_69 := i_rng r68
          refine WP.bind (cs_X6_push hfu r68 F11 G11 hI11) ?_
          rintro r70 F70 G70 ⟨hI70, hB70, hT70, hO70, hK70, hp70⟩
          dsimp only
          have q_71 := hI70.r 10 rfl
          have e_72 : (F70 10).toInt = (F11 10).toInt := hO70
          unfold cb_X6_jump_69
          refine WP.ite (fun c_73 => absurd c_73 (by decide)) (fun _ => ?_)
          unfold cb_X6_jump_73
          have q_74 := i_rng x2
          have j_75 : CI (fup F70 57 x2) G70 := CI.fr rfl hI70
          unfold cb_X6_jump_78
          refine WP.ret ?_
          exact ⟨j_75, (KB.f (by decide) (KB.tr (KB.tr (KB.rf : KB F G F G) hB11) hB70)), (KT.f (by decide) (KT.tr (KT.tr (rfl : KT F F) hT11) hT70)), (KO.f (by decide) (KO.tr (KO.tr (rfl : KO F F) hO11) hO70)), (KK.f (by decide) (KK.tr (KK.tr (rfl : KK F F) hK11) hK70)), trivial⟩
      · skip
        have l_76 : (85 : Int32).toInt = 85 := rfl
        have e_77 := mt i_eq.mpr (show ¬ (x1 = (85 : Int32)) from c_54)
        unfold cb_X6_jump_30
        refine WP.ite (fun c_78 => ?_) (fun c_78 => ?_)
        · skip
          have l_79 : (87 : Int32).toInt = 87 := rfl
          have e_80 := i_eq.mp (show x1 = (87 : Int32) from c_78)
          unfold cb_X6_jump_36
          unfold cb_X6_jump_41
          refine WP.ite (fun _ => ?_) (fun c_81 => absurd (by decide) c_81)
          unfold cb_X6_jump_44
          unfold cb_X6_jump_49
          refine WP.ite (fun c_82 => absurd c_82 (by decide)) (fun _ => ?_)
          unfold cb_X6_jump_54
          refine WP.ite (fun c_83 => ?_) (fun c_83 => ?_)
          · skip
            have e_84 := i_lt.mp (show x1 < (87 : Int32) from c_83)
            unfold cb_X6_jump_69
            refine WP.ite (fun c_85 => absurd c_85 (by decide)) (fun _ => ?_)
            unfold cb_X6_jump_73
            have q_86 := i_rng x2
            have j_87 : CI (fup F11 57 x2) G11 := CI.fr rfl hI11
            unfold cb_X6_jump_78
            refine WP.ret ?_
            exact ⟨j_87, (KB.f (by decide) (KB.tr (KB.rf : KB F G F G) hB11)), (KT.f (by decide) (KT.tr (rfl : KT F F) hT11)), (KO.f (by decide) (KO.tr (rfl : KO F F) hO11)), (KK.f (by decide) (KK.tr (rfl : KK F F) hK11)), trivial⟩
          · skip
            have e_88 := mt i_lt.mpr (show ¬ (x1 < (87 : Int32)) from c_83)
            unfold cb_X6_jump_60
            have l_89 : (1 : Int32).toInt = 1 := rfl
            refine WP.bind (cs_X11_truth hfu (1 : Int32) F11 G11 hI11 (by decide)) ?_
            rintro r90 _ _ ⟨rfl, rfl, hp90⟩
            dsimp only
            unfold cb_X6_jump_66
            have q_91 := i_rng r90
            refine WP.bind (cs_X6_push hfu r90 F11 G11 hI11) ?_
            rintro r92 F92 G92 ⟨hI92, hB92, hT92, hO92, hK92, hp92⟩
            dsimp only
            have q_93 := hI92.r 10 rfl
            have e_94 : (F92 10).toInt = (F11 10).toInt := hO92
            unfold cb_X6_jump_69
            refine WP.ite (fun c_95 => absurd c_95 (by decide)) (fun _ => ?_)
            unfold cb_X6_jump_73
            have q_96 := i_rng x2
            have j_97 : CI (fup F92 57 x2) G92 := CI.fr rfl hI92
            unfold cb_X6_jump_78
            refine WP.ret ?_
            exact ⟨j_97, (KB.f (by decide) (KB.tr (KB.tr (KB.rf : KB F G F G) hB11) hB92)), (KT.f (by decide) (KT.tr (KT.tr (rfl : KT F F) hT11) hT92)), (KO.f (by decide) (KO.tr (KO.tr (rfl : KO F F) hO11) hO92)), (KK.f (by decide) (KK.tr (KK.tr (rfl : KK F F) hK11) hK92)), trivial⟩
        · skip
          have l_98 : (87 : Int32).toInt = 87 := rfl
          have e_99 := mt i_eq.mpr (show ¬ (x1 = (87 : Int32)) from c_78)
          unfold cb_X6_jump_40
          unfold cb_X6_jump_41
          refine WP.ite (fun c_100 => absurd c_100 (by decide)) (fun _ => ?_)
          unfold cb_X6_jump_48
          unfold cb_X6_jump_49
          refine WP.ite (fun _ => ?_) (fun c_101 => absurd (by decide) c_101)
          unfold cb_X6_jump_69
          refine WP.ite (fun _ => ?_) (fun c_102 => absurd (by decide) c_102)
          unfold cb_X6_jump_78
          refine WP.ret ?_
          exact ⟨hI11, (KB.tr (KB.rf : KB F G F G) hB11), (KT.tr (rfl : KT F F) hT11), (KO.tr (rfl : KO F F) hO11), (KK.tr (rfl : KK F F) hK11), trivial⟩
theorem cz_X6_valueFrom_12 {fu : Nat} (hfu : 8589934592 ≤ fu) {F0 : PF} {G0 : PG} : ∀ (n : Nat) (x2 : Int32) (F : PF) (G : PG) (hI : CI F G) (hB : KB F0 G0 F G) (hT : KT F0 F) (hO : KO F0 F) (hK : KK F0 F) (hn : (2147483647 - x2.toInt).toNat < n), WP (cl_X6_valueFrom_12 fu n x2 F G) (fun r' F' G' => CI F' G' ∧ KB F0 G0 F' G' ∧ KT F0 F' ∧ KO F0 F' ∧ KK F0 F' ∧ True) := by
  intro n
  induction n with
  | zero =>
    intro x2 F G hI hB hT hO hK hn
    exact absurd hn (Nat.not_lt_zero _)
  | succ n ihn =>
    intro x2 F G hI hB hT hO hK hn
    show WP (cb_X6_valueFrom_12 fu (cl_X6_valueFrom_12 fu n)  x2 F G) _
    unfold cb_X6_valueFrom_12
    refine WP.ite (fun c_1 => ?_) (fun c_1 => ?_)
    · skip
      have l_2 : (100000000 : Int32).toInt = 100000000 := rfl
      have q_3 := i_rng x2
      have e_4 := i_le.mp (show (100000000 : Int32) ≤ x2 from c_1)
      unfold cb_X6_valueFrom_119
      refine WP.bind (cs_X6_pop hfu F G hI) ?_
      rintro r5 F5 G5 ⟨hI5, hB5, hT5, hO5, hK5, hp5⟩
      dsimp only
      have q_6 := hI.r 10 rfl
      have q_7 := hI5.r 10 rfl
      have e_8 : (F5 10).toInt = (F 10).toInt := hO5
      unfold cb_X6_valueFrom_123
      refine WP.ret ?_
      exact ⟨hI5, (KB.tr hB hB5), (KT.tr hT hT5), (KO.tr hO hO5), (KK.tr hK hK5), trivial⟩
    · skip
      have l_9 : (100000000 : Int32).toInt = 100000000 := rfl
      have q_10 := i_rng x2
      have e_11 := mt i_le.mpr (show ¬ ((100000000 : Int32) ≤ x2) from c_1)
      unfold cb_X6_valueFrom_18
      refine WP.ite (fun c_12 => ?_) (fun c_12 => ?_)
      · skip
        have q_13 := hI.r 6 rfl
        have q_14 := i_rng (F 57)
        have e_15 := i_le.mp (show (F 6) ≤ (F 57) from c_12)
        unfold cb_X6_valueFrom_119
        refine WP.bind (cs_X6_pop hfu F G hI) ?_
        rintro r16 F16 G16 ⟨hI16, hB16, hT16, hO16, hK16, hp16⟩
        dsimp only
        have q_17 := hI.r 10 rfl
        have q_18 := hI16.r 10 rfl
        have e_19 : (F16 10).toInt = (F 10).toInt := hO16
        unfold cb_X6_valueFrom_123
        refine WP.ret ?_
        exact ⟨hI16, (KB.tr hB hB16), (KT.tr hT hT16), (KO.tr hO hO16), (KK.tr hK hK16), trivial⟩
      · skip
        have q_20 := hI.r 6 rfl
        have q_21 := i_rng (F 57)
        have e_22 := mt i_le.mpr (show ¬ ((F 6) ≤ (F 57)) from c_12)
        unfold cb_X6_valueFrom_32
        refine WP.bind (cs_X6_next hfu F G hI) ?_
        rintro r23 F23 G23 ⟨hI23, hB23, hT23, hO23, hK23, hp23⟩
        dsimp only
        have q_24 := hI.r 10 rfl
        have q_25 := hI23.r 10 rfl
        have e_26 : (F23 10).toInt = (F 10).toInt := hO23
        unfold cb_X6_valueFrom_36
        refine WP.ite (fun c_27 => ?_) (fun c_27 => ?_)
        · skip
          have q_28 := i_rng r23
          have l_29 : (66 : Int32).toInt = 66 := rfl
          have e_30 := i_eq.mp (show r23 = (66 : Int32) from c_27)
          unfold cb_X6_valueFrom_43
          refine WP.bind (cs_X6_next hfu F23 G23 hI23) ?_
          rintro r31 F31 G31 ⟨hI31, hB31, hT31, hO31, hK31, hp31⟩
          dsimp only
          have q_32 := hI31.r 10 rfl
          have e_33 : (F31 10).toInt = (F23 10).toInt := hO31
          unfold cb_X6_valueFrom_48
          have q_34 := i_rng r31
          refine WP.bind (cs_X6_push hfu r31 F31 G31 hI31) ?_
          rintro r35 F35 G35 ⟨hI35, hB35, hT35, hO35, hK35, hp35⟩
          dsimp only
          have q_36 := hI35.r 10 rfl
          have e_37 : (F35 10).toInt = (F31 10).toInt := hO35
          unfold cb_X6_valueFrom_51
          unfold cb_X6_valueFrom_113
          first | have e_38 : (x2 + (1 : Int32)).toInt = x2.toInt + (1) := i_addn x2 rfl (by omega) (by omega) | have e_39 := i_rng (x2 + (1 : Int32))
          exact ihn (x2 + (1 : Int32)) F35 G35 hI35 (KB.tr (KB.tr (KB.tr hB hB23) hB31) hB35) (KT.tr (KT.tr (KT.tr hT hT23) hT31) hT35) (KO.tr (KO.tr (KO.tr hO hO23) hO31) hO35) (KK.tr (KK.tr (KK.tr hK hK23) hK31) hK35) (by omega)
        · skip
          have q_40 := i_rng r23
          have l_41 : (66 : Int32).toInt = 66 := rfl
          have e_42 := mt i_eq.mpr (show ¬ (r23 = (66 : Int32)) from c_27)
          unfold cb_X6_valueFrom_54
          refine WP.ite (fun c_43 => ?_) (fun c_43 => ?_)
          · skip
            have l_44 : (84 : Int32).toInt = 84 := rfl
            have e_45 := i_lt.mp (show r23 < (84 : Int32) from c_43)
            unfold cb_X6_valueFrom_72
            refine WP.ite (fun c_46 => ?_) (fun c_46 => ?_)
            · skip
              have l_47 : (62 : Int32).toInt = 62 := rfl
              have e_48 := i_lt.mp (show r23 < (62 : Int32) from c_46)
              unfold cb_X6_valueFrom_93
              refine WP.bind (cs_X6_pop hfu F23 G23 hI23) ?_
              rintro r49 F49 G49 ⟨hI49, hB49, hT49, hO49, hK49, hp49⟩
              dsimp only
              have q_50 := hI49.r 10 rfl
              have e_51 : (F49 10).toInt = (F23 10).toInt := hO49
              unfold cb_X6_valueFrom_97
              refine WP.bind (cs_X6_pop hfu F49 G49 hI49) ?_
              rintro r52 F52 G52 ⟨hI52, hB52, hT52, hO52, hK52, hp52⟩
              dsimp only
              have q_53 := hI52.r 10 rfl
              have e_54 : (F52 10).toInt = (F49 10).toInt := hO52
              unfold cb_X6_valueFrom_105
              have q_55 := i_rng r52
              have q_56 := i_rng r49
              refine WP.bind (cs_X11_joined hfu r23 r52 r49 F52 G52 hI52) ?_
              rintro r57 _ _ ⟨rfl, rfl, hp57⟩
              dsimp only
              unfold cb_X6_valueFrom_110
              have q_58 := i_rng r57
              refine WP.bind (cs_X6_push hfu r57 F52 G52 hI52) ?_
              rintro r59 F59 G59 ⟨hI59, hB59, hT59, hO59, hK59, hp59⟩
              dsimp only
              have q_60 := hI59.r 10 rfl
              have e_61 : (F59 10).toInt = (F52 10).toInt := hO59
              unfold cb_X6_valueFrom_113
              first | have e_62 : (x2 + (1 : Int32)).toInt = x2.toInt + (1) := i_addn x2 rfl (by omega) (by omega) | have e_63 := i_rng (x2 + (1 : Int32))
              exact ihn (x2 + (1 : Int32)) F59 G59 hI59 (KB.tr (KB.tr (KB.tr (KB.tr hB hB23) hB49) hB52) hB59) (KT.tr (KT.tr (KT.tr (KT.tr hT hT23) hT49) hT52) hT59) (KO.tr (KO.tr (KO.tr (KO.tr hO hO23) hO49) hO52) hO59) (KK.tr (KK.tr (KK.tr (KK.tr hK hK23) hK49) hK52) hK59) (by omega)
            · skip
              have l_64 : (62 : Int32).toInt = 62 := rfl
              have e_65 := mt i_lt.mpr (show ¬ (r23 < (62 : Int32)) from c_46)
              unfold cb_X6_valueFrom_78
              refine WP.bind (cs_X6_pop hfu F23 G23 hI23) ?_
              rintro r66 F66 G66 ⟨hI66, hB66, hT66, hO66, hK66, hp66⟩
              dsimp only
              have q_67 := hI66.r 10 rfl
              have e_68 : (F66 10).toInt = (F23 10).toInt := hO66
              unfold cb_X6_valueFrom_84
              have q_69 := i_rng r66
              refine WP.bind (cs_X6_changed hfu r23 r66 F66 G66 hI66) ?_
              rintro r70 _ _ ⟨rfl, rfl, hp70⟩
              dsimp only
              unfold cb_X6_valueFrom_87
              have q_71 := i_rng r70
              refine WP.bind (cs_X6_push hfu r70 F66 G66 hI66) ?_
              rintro r72 F72 G72 ⟨hI72, hB72, hT72, hO72, hK72, hp72⟩
              dsimp only
              have q_73 := hI72.r 10 rfl
              have e_74 : (F72 10).toInt = (F66 10).toInt := hO72
              unfold cb_X6_valueFrom_90
              unfold cb_X6_valueFrom_113
              first | have e_75 : (x2 + (1 : Int32)).toInt = x2.toInt + (1) := i_addn x2 rfl (by omega) (by omega) | have e_76 := i_rng (x2 + (1 : Int32))
              exact ihn (x2 + (1 : Int32)) F72 G72 hI72 (KB.tr (KB.tr (KB.tr hB hB23) hB66) hB72) (KT.tr (KT.tr (KT.tr hT hT23) hT66) hT72) (KO.tr (KO.tr (KO.tr hO hO23) hO66) hO72) (KK.tr (KK.tr (KK.tr hK hK23) hK66) hK72) (by omega)
          · skip
            have l_77 : (84 : Int32).toInt = 84 := rfl
            have e_78 := mt i_lt.mpr (show ¬ (r23 < (84 : Int32)) from c_43)
            unfold cb_X6_valueFrom_60
            refine WP.bind (cs_X6_next hfu F23 G23 hI23) ?_
            rintro r79 F79 G79 ⟨hI79, hB79, hT79, hO79, hK79, hp79⟩
            dsimp only
            have q_80 := hI79.r 10 rfl
            have e_81 : (F79 10).toInt = (F23 10).toInt := hO79
            unfold cb_X6_valueFrom_66
            have q_82 := i_rng r79
            refine WP.bind (cs_X6_jump hfu r23 r79 F79 G79 hI79) ?_
            rintro r83 F83 G83 ⟨hI83, hB83, hT83, hO83, hK83, hp83⟩
            dsimp only
            have q_84 := hI83.r 10 rfl
            have e_85 : (F83 10).toInt = (F79 10).toInt := hO83
            unfold cb_X6_valueFrom_69
            unfold cb_X6_valueFrom_113
            first | have e_86 : (x2 + (1 : Int32)).toInt = x2.toInt + (1) := i_addn x2 rfl (by omega) (by omega) | have e_87 := i_rng (x2 + (1 : Int32))
            exact ihn (x2 + (1 : Int32)) F83 G83 hI83 (KB.tr (KB.tr (KB.tr hB hB23) hB79) hB83) (KT.tr (KT.tr (KT.tr hT hT23) hT79) hT83) (KO.tr (KO.tr (KO.tr hO hO23) hO79) hO83) (KK.tr (KK.tr (KK.tr hK hK23) hK79) hK83) (by omega)
theorem cs_X6_valueFrom {fu : Nat} (hfu : 8589934592 ≤ fu) (x1 : Int32) (F : PF) (G : PG) (hI : CI F G) : WP (cf_X6_valueFrom fu x1 F G) (fun r' F' G' => CI F' G' ∧ KB F G F' G' ∧ KT F F' ∧ KO F F' ∧ KK F F' ∧ True) := by
  unfold cf_X6_valueFrom
  unfold cb_X6_valueFrom_0
  have q_1 := i_rng x1
  have j_2 : CI (fup F 57 x1) G := CI.fr rfl hI
  unfold cb_X6_valueFrom_5
  have l_3 : (0 : Int32).toInt = 0 := rfl
  have q_5 := hI.xx
  have j_4 : CI (fup (fup F 57 x1) 56 (0 : Int32)) G := CI.top j_2 (by omega) (show (0 : Int32).toInt ≤ (xn F : Int) by omega)
  unfold cb_X6_valueFrom_10
  exact cz_X6_valueFrom_12 (F0 := F) (G0 := G) hfu fu (0 : Int32) (fup (fup F 57 x1) 56 (0 : Int32)) G j_4 (KB.f (by decide) (KB.f (by decide) (KB.rf : KB F G F G))) (KT.f (by decide) (KT.f (by decide) (rfl : KT F F))) (KO.f (by decide) (KO.f (by decide) (rfl : KO F F))) (KK.f (by decide) (KK.f (by decide) (rfl : KK F F))) (by omega)
theorem cs_X3_constant {fu : Nat} (hfu : 8589934592 ≤ fu) (F : PF) (G : PG) (hI : CI F G) : WP (cf_X3_constant fu F G) (fun r' F' G' => CI F' G' ∧ KB F G F' G' ∧ KT F F' ∧ KO F F' ∧ True) := by
  unfold cf_X3_constant
  unfold cb_X3_constant_0
  refine WP.bind (cs_X5_startConstant hfu F G hI) ?_
  rintro r1 F1 G1 ⟨hI1, hB1, hT1, hO1, hK1, hp1⟩
  dsimp only
  have q_2 := hI.r 10 rfl
  have q_3 := hI1.r 10 rfl
  have e_4 : (F1 10).toInt = (F 10).toInt := hO1
  unfold cb_X3_constant_15
  refine WP.bind (cs_X3_expression hfu F1 G1 hI1) ?_
  rintro r5 F5 G5 ⟨hI5, hB5, hT5, hO5, hS5, hp5⟩
  dsimp only
  have q_6 := hI5.r 10 rfl
  have e_7 : (F5 10).toInt = (F1 10).toInt := hO5
  unfold cb_X3_constant_19
  refine WP.bind (cs_X5_endsConstant hfu F5 G5 hI5) ?_
  rintro r8 F8 G8 ⟨hI8, hB8, hT8, hO8, hK8, hp8⟩
  dsimp only
  have q_9 := hI8.r 10 rfl
  have e_10 : (F8 10).toInt = (F5 10).toInt := hO8
  have q_11 := b_rng hp8
  unfold cb_X3_constant_26
  refine WP.ite (fun c_12 => ?_) (fun c_12 => ?_)
  · skip
    have l_13 : (0 : Int32).toInt = 0 := rfl
    have e_14 := i_eq.mp (show r8 = (0 : Int32) from c_12)
    unfold cb_X3_constant_40
    unfold cb_X3_constant_41
    have q_15 := hI.r 6 rfl
    refine WP.bind (cs_X1_cut hfu (F 6) F8 G8 hI8) ?_
    rintro r16 F16 G16 ⟨hI16, hB16, hT16, hO16, hK16, hp16⟩
    dsimp only
    have q_17 := hI16.r 10 rfl
    have e_18 : (F16 10).toInt = (F8 10).toInt := hO16
    unfold cb_X3_constant_50
    refine WP.ret ?_
    exact ⟨hI16, (KB.tr (KB.tr (KB.tr (KB.tr (KB.rf : KB F G F G) hB1) hB5) hB8) hB16), (KT.tr (KT.tr (KT.tr (KT.tr (rfl : KT F F) hT1) hT5) hT8) hT16), (KO.tr (KO.tr (KO.tr (KO.tr (rfl : KO F F) hO1) hO5) hO8) hO16), trivial⟩
  · skip
    have l_19 : (0 : Int32).toInt = 0 := rfl
    have e_20 := mt i_eq.mpr (show ¬ (r8 = (0 : Int32)) from c_12)
    unfold cb_X3_constant_29
    have q_21 := hI.r 6 rfl
    refine WP.bind (cs_X6_valueFrom hfu (F 6) F8 G8 hI8) ?_
    rintro r22 F22 G22 ⟨hI22, hB22, hT22, hO22, hK22, hp22⟩
    dsimp only
    have q_23 := hI22.r 10 rfl
    have e_24 : (F22 10).toInt = (F8 10).toInt := hO22
    unfold cb_X3_constant_37
    unfold cb_X3_constant_41
    refine WP.bind (cs_X1_cut hfu (F 6) F22 G22 hI22) ?_
    rintro r25 F25 G25 ⟨hI25, hB25, hT25, hO25, hK25, hp25⟩
    dsimp only
    have q_26 := hI25.r 10 rfl
    have e_27 : (F25 10).toInt = (F22 10).toInt := hO25
    unfold cb_X3_constant_50
    refine WP.ret ?_
    exact ⟨hI25, (KB.tr (KB.tr (KB.tr (KB.tr (KB.tr (KB.rf : KB F G F G) hB1) hB5) hB8) hB22) hB25), (KT.tr (KT.tr (KT.tr (KT.tr (KT.tr (rfl : KT F F) hT1) hT5) hT8) hT22) hT25), (KO.tr (KO.tr (KO.tr (KO.tr (KO.tr (rfl : KO F F) hO1) hO5) hO8) hO22) hO25), trivial⟩
theorem cs_X5_elements {fu : Nat} (hfu : 8589934592 ≤ fu) (x1 : Int32) (x2 : Int32) (F : PF) (G : PG) (hI : CI F G) : WP (cf_X5_elements fu x1 x2 F G) (fun r' F' G' => CI F' G' ∧ KB F G F' G' ∧ KT F F' ∧ KO F F' ∧ KK F F' ∧ True) := by
  unfold cf_X5_elements
  unfold cb_X5_elements_0
  refine WP.ite (fun c_1 => ?_) (fun c_1 => ?_)
  · skip
    have q_2 := i_rng x1
    have l_3 : (1 : Int32).toInt = 1 := rfl
    have e_4 := i_lt.mp (show x1 < (1 : Int32) from c_1)
    unfold cb_X5_elements_12
    have l_5 : (7 : Int32).toInt = 7 := rfl
    have q_6 := i_rng x2
    refine WP.bind (cs_X5_note hfu (7 : Int32) x2 F G hI) ?_
    rintro r7 F7 G7 ⟨hI7, hB7, hT7, hO7, hK7, hp7⟩
    dsimp only
    have q_8 := hI.r 10 rfl
    have q_9 := hI7.r 10 rfl
    have e_10 : (F7 10).toInt = (F 10).toInt := hO7
    unfold cb_X5_elements_19
    refine WP.ret ?_
    exact ⟨hI7, (KB.tr (KB.rf : KB F G F G) hB7), (KT.tr (rfl : KT F F) hT7), (KO.tr (rfl : KO F F) hO7), (KK.tr (rfl : KK F F) hK7), trivial⟩
  · skip
    have q_11 := i_rng x1
    have l_12 : (1 : Int32).toInt = 1 := rfl
    have e_13 := mt i_lt.mpr (show ¬ (x1 < (1 : Int32)) from c_1)
    unfold cb_X5_elements_5
    refine WP.ite (fun c_14 => ?_) (fun c_14 => ?_)
    · skip
      have l_15 : (500 : Int32).toInt = 500 := rfl
      have e_16 := i_le.mp (show x1 ≤ (500 : Int32) from c_14)
      unfold cb_X5_elements_21
      refine WP.ret ?_
      exact ⟨hI, (KB.rf : KB F G F G), (rfl : KT F F), (rfl : KO F F), (rfl : KK F F), trivial⟩
    · skip
      have l_17 : (500 : Int32).toInt = 500 := rfl
      have e_18 := mt i_le.mpr (show ¬ (x1 ≤ (500 : Int32)) from c_14)
      unfold cb_X5_elements_12
      have l_19 : (7 : Int32).toInt = 7 := rfl
      have q_20 := i_rng x2
      refine WP.bind (cs_X5_note hfu (7 : Int32) x2 F G hI) ?_
      rintro r21 F21 G21 ⟨hI21, hB21, hT21, hO21, hK21, hp21⟩
      dsimp only
      have q_22 := hI.r 10 rfl
      have q_23 := hI21.r 10 rfl
      have e_24 : (F21 10).toInt = (F 10).toInt := hO21
      unfold cb_X5_elements_19
      refine WP.ret ?_
      exact ⟨hI21, (KB.tr (KB.rf : KB F G F G) hB21), (KT.tr (rfl : KT F F) hT21), (KO.tr (rfl : KO F F) hO21), (KK.tr (rfl : KK F F) hK21), trivial⟩
theorem cs_X3_arraySize {fu : Nat} (hfu : 8589934592 ≤ fu) (F : PF) (G : PG) (hI : CI F G) : WP (cf_X3_arraySize fu F G) (fun r' F' G' => CI F' G' ∧ KB F G F' G' ∧ KT F F' ∧ KO F F' ∧ True) := by
  unfold cf_X3_arraySize
  unfold cb_X3_arraySize_0
  have l_1 : (21 : Int32).toInt = 21 := rfl
  refine WP.bind (cs_X2_opens hfu (21 : Int32) F G hI (show (21 : Int32).toInt ≠ -2 by omega)) ?_
  rintro r2 F2 G2 ⟨hI2, hB2, hT2, hS2, hp2⟩
  dsimp only
  have q_3 := b_rng (hp2.1)
  have q_4 := hI.r 10 rfl
  have q_5 := hI2.r 10 rfl
  have q_6 := i_rng (F 11)
  have e_7 : r2.toInt = 1 → (F2 10).toInt = (F 10).toInt + 1 ∧ (F 10).toInt < 40 ∧ (F 11).toInt ≠ -2 := hp2.2.1
  have e_8 : r2.toInt = 0 → (F2 10).toInt = (F 10).toInt ∧ (F2 11).toInt = -2 := hp2.2.2
  unfold cb_X3_arraySize_9
  refine WP.ite (fun c_9 => ?_) (fun c_9 => ?_)
  · skip
    have l_10 : (0 : Int32).toInt = 0 := rfl
    have e_11 := i_eq.mp (show r2 = (0 : Int32) from c_9)
    unfold cb_X3_arraySize_12
    refine WP.ret ?_
    exact ⟨hI2, (KB.tr (KB.rf : KB F G F G) hB2), (KT.tr (rfl : KT F F) hT2), (show (F2 10).toInt = (F 10).toInt by omega), trivial⟩
  · skip
    have l_12 : (0 : Int32).toInt = 0 := rfl
    have e_13 := mt i_eq.mpr (show ¬ (r2 = (0 : Int32)) from c_9)
    unfold cb_X3_arraySize_14
    refine WP.bind (cs_X5_startConstant hfu F2 G2 hI2) ?_
    rintro r14 F14 G14 ⟨hI14, hB14, hT14, hO14, hK14, hp14⟩
    dsimp only
    have q_15 := hI14.r 10 rfl
    have e_16 : (F14 10).toInt = (F2 10).toInt := hO14
    unfold cb_X3_arraySize_37
    refine WP.bind (cs_X3_expression hfu F14 G14 hI14) ?_
    rintro r17 F17 G17 ⟨hI17, hB17, hT17, hO17, hS17, hp17⟩
    dsimp only
    have q_18 := hI17.r 10 rfl
    have e_19 : (F17 10).toInt = (F14 10).toInt := hO17
    unfold cb_X3_arraySize_41
    refine WP.bind (cs_X5_endsConstant hfu F17 G17 hI17) ?_
    rintro r20 F20 G20 ⟨hI20, hB20, hT20, hO20, hK20, hp20⟩
    dsimp only
    have q_21 := hI20.r 10 rfl
    have e_22 : (F20 10).toInt = (F17 10).toInt := hO20
    have q_23 := b_rng hp20
    unfold cb_X3_arraySize_48
    refine WP.ite (fun c_24 => ?_) (fun c_24 => ?_)
    · skip
      have e_25 := i_eq.mp (show r20 = (0 : Int32) from c_24)
      unfold cb_X3_arraySize_70
      unfold cb_X3_arraySize_71
      have q_26 := hI2.r 6 rfl
      refine WP.bind (cs_X1_cut hfu (F2 6) F20 G20 hI20) ?_
      rintro r27 F27 G27 ⟨hI27, hB27, hT27, hO27, hK27, hp27⟩
      dsimp only
      have q_28 := hI27.r 10 rfl
      have e_29 : (F27 10).toInt = (F20 10).toInt := hO27
      unfold cb_X3_arraySize_80
      have l_30 : (22 : Int32).toInt = 22 := rfl
      refine WP.bind (cs_X2_closesWith hfu (22 : Int32) F27 G27 hI27 (show 0 ≤ (F27 10).toInt by omega) (show (22 : Int32).toInt ≠ -2 by omega)) ?_
      rintro r31 F31 G31 ⟨hI31, hB31, hT31, hS31, hp31⟩
      dsimp only
      have q_32 := hI31.r 10 rfl
      have e_33 : (F31 10).toInt = (F27 10).toInt - 1 := hp31
      unfold cb_X3_arraySize_89
      refine WP.ret ?_
      exact ⟨hI31, (KB.tr (KB.tr (KB.tr (KB.tr (KB.tr (KB.tr (KB.rf : KB F G F G) hB2) hB14) hB17) hB20) hB27) hB31), (KT.tr (KT.tr (KT.tr (KT.tr (KT.tr (KT.tr (rfl : KT F F) hT2) hT14) hT17) hT20) hT27) hT31), (show (F31 10).toInt = (F 10).toInt by omega), trivial⟩
    · skip
      have e_34 := mt i_eq.mpr (show ¬ (r20 = (0 : Int32)) from c_24)
      unfold cb_X3_arraySize_51
      have q_35 := hI2.r 6 rfl
      refine WP.bind (cs_X6_valueFrom hfu (F2 6) F20 G20 hI20) ?_
      rintro r36 F36 G36 ⟨hI36, hB36, hT36, hO36, hK36, hp36⟩
      dsimp only
      have q_37 := hI36.r 10 rfl
      have e_38 : (F36 10).toInt = (F20 10).toInt := hO36
      unfold cb_X3_arraySize_63
      have q_39 := i_rng r36
      have q_40 := i_rng (F2 13)
      refine WP.bind (cs_X5_elements hfu r36 (F2 13) F36 G36 hI36) ?_
      rintro r41 F41 G41 ⟨hI41, hB41, hT41, hO41, hK41, hp41⟩
      dsimp only
      have q_42 := hI41.r 10 rfl
      have e_43 : (F41 10).toInt = (F36 10).toInt := hO41
      unfold cb_X3_arraySize_67
      unfold cb_X3_arraySize_71
      refine WP.bind (cs_X1_cut hfu (F2 6) F41 G41 hI41) ?_
      rintro r44 F44 G44 ⟨hI44, hB44, hT44, hO44, hK44, hp44⟩
      dsimp only
      have q_45 := hI44.r 10 rfl
      have e_46 : (F44 10).toInt = (F41 10).toInt := hO44
      unfold cb_X3_arraySize_80
      have l_47 : (22 : Int32).toInt = 22 := rfl
      refine WP.bind (cs_X2_closesWith hfu (22 : Int32) F44 G44 hI44 (show 0 ≤ (F44 10).toInt by omega) (show (22 : Int32).toInt ≠ -2 by omega)) ?_
      rintro r48 F48 G48 ⟨hI48, hB48, hT48, hS48, hp48⟩
      dsimp only
      have q_49 := hI48.r 10 rfl
      have e_50 : (F48 10).toInt = (F44 10).toInt - 1 := hp48
      unfold cb_X3_arraySize_89
      refine WP.ret ?_
      exact ⟨hI48, (KB.tr (KB.tr (KB.tr (KB.tr (KB.tr (KB.tr (KB.tr (KB.tr (KB.rf : KB F G F G) hB2) hB14) hB17) hB20) hB36) hB41) hB44) hB48), (KT.tr (KT.tr (KT.tr (KT.tr (KT.tr (KT.tr (KT.tr (KT.tr (rfl : KT F F) hT2) hT14) hT17) hT20) hT36) hT41) hT44) hT48), (show (F48 10).toInt = (F 10).toInt by omega), trivial⟩
theorem cs_X3_keep {fu : Nat} (hfu : 8589934592 ≤ fu) (x1 : Int32) (F : PF) (G : PG) (hI : CI F G) : WP (cf_X3_keep fu x1 F G) (fun r' F' G' => CI F' G' ∧ KB F G F' G' ∧ KT F F' ∧ KO F F' ∧ KK F F' ∧ True) := by
  unfold cf_X3_keep
  unfold cb_X3_keep_0
  have q_1 := i_rng x1
  refine WP.bind (cs_X5_kind hfu x1 F G hI) ?_
  rintro r2 _ _ ⟨rfl, rfl, hp2⟩
  dsimp only
  have q_3 := i_rng r2
  unfold cb_X3_keep_12
  refine WP.ite (fun c_4 => ?_) (fun c_4 => ?_)
  · skip
    have l_5 : (3 : Int32).toInt = 3 := rfl
    have e_6 := i_eq.mp (show r2 = (3 : Int32) from c_4)
    unfold cb_X3_keep_16
    unfold cb_X3_keep_23
    have l_7 : (80 : Int32).toInt = 80 := rfl
    refine WP.bind (cs_X1_add hfu (80 : Int32) F G hI) ?_
    rintro r8 F8 G8 ⟨hI8, hB8, hT8, hO8, hK8, hp8⟩
    dsimp only
    have q_9 := hI.r 10 rfl
    have q_10 := hI8.r 10 rfl
    have e_11 : (F8 10).toInt = (F 10).toInt := hO8
    have q_12 := hI.r 21 rfl
    have q_13 := hI8.r 21 rfl
    have e_14 : (F8 21).toInt = (F 21).toInt := congrArg Int32.toInt hp8
    unfold cb_X3_keep_26
    refine WP.ret ?_
    exact ⟨hI8, (KB.tr (KB.rf : KB F G F G) hB8), (KT.tr (rfl : KT F F) hT8), (KO.tr (rfl : KO F F) hO8), (KK.tr (rfl : KK F F) hK8), trivial⟩
  · skip
    have l_15 : (3 : Int32).toInt = 3 := rfl
    have e_16 := mt i_eq.mpr (show ¬ (r2 = (3 : Int32)) from c_4)
    unfold cb_X3_keep_21
    unfold cb_X3_keep_23
    have l_17 : (79 : Int32).toInt = 79 := rfl
    refine WP.bind (cs_X1_add hfu (79 : Int32) F G hI) ?_
    rintro r18 F18 G18 ⟨hI18, hB18, hT18, hO18, hK18, hp18⟩
    dsimp only
    have q_19 := hI.r 10 rfl
    have q_20 := hI18.r 10 rfl
    have e_21 : (F18 10).toInt = (F 10).toInt := hO18
    have q_22 := hI.r 21 rfl
    have q_23 := hI18.r 21 rfl
    have e_24 : (F18 21).toInt = (F 21).toInt := congrArg Int32.toInt hp18
    unfold cb_X3_keep_26
    refine WP.ret ?_
    exact ⟨hI18, (KB.tr (KB.rf : KB F G F G) hB18), (KT.tr (rfl : KT F F) hT18), (KO.tr (rfl : KO F F) hO18), (KK.tr (rfl : KK F F) hK18), trivial⟩
theorem cs_X3_store {fu : Nat} (hfu : 8589934592 ≤ fu) (x1 : Int32) (F : PF) (G : PG) (hI : CI F G) : WP (cf_X3_store fu x1 F G) (fun r' F' G' => CI F' G' ∧ KB F G F' G' ∧ KT F F' ∧ KO F F' ∧ KK F F' ∧ True) := by
  unfold cf_X3_store
  unfold cb_X3_store_0
  have q_1 := i_rng x1
  refine WP.bind (cs_X5_isGlobal hfu x1 F G hI) ?_
  rintro r2 _ _ ⟨rfl, rfl, hp2⟩
  dsimp only
  have q_3 := b_rng hp2
  unfold cb_X3_store_12
  refine WP.ite (fun c_4 => ?_) (fun c_4 => ?_)
  · skip
    have l_5 : (0 : Int32).toInt = 0 := rfl
    have e_6 := i_eq.mp (show r2 = (0 : Int32) from c_4)
    unfold cb_X3_store_20
    unfold cb_X3_store_22
    refine WP.bind (cs_X5_value hfu x1 F G hI) ?_
    rintro r7 _ _ ⟨rfl, rfl, hp7⟩
    dsimp only
    unfold cb_X3_store_30
    have l_8 : (72 : Int32).toInt = 72 := rfl
    have q_9 := i_rng r7
    refine WP.bind (cs_X1_addPair hfu (72 : Int32) r7 F G hI) ?_
    rintro r10 F10 G10 ⟨hI10, hB10, hT10, hO10, hK10, hp10⟩
    dsimp only
    have q_11 := hI.r 10 rfl
    have q_12 := hI10.r 10 rfl
    have e_13 : (F10 10).toInt = (F 10).toInt := hO10
    unfold cb_X3_store_33
    refine WP.ret ?_
    exact ⟨hI10, (KB.tr (KB.rf : KB F G F G) hB10), (KT.tr (rfl : KT F F) hT10), (KO.tr (rfl : KO F F) hO10), (KK.tr (rfl : KK F F) hK10), trivial⟩
  · skip
    have l_14 : (0 : Int32).toInt = 0 := rfl
    have e_15 := mt i_eq.mpr (show ¬ (r2 = (0 : Int32)) from c_4)
    unfold cb_X3_store_15
    unfold cb_X3_store_22
    refine WP.bind (cs_X5_value hfu x1 F G hI) ?_
    rintro r16 _ _ ⟨rfl, rfl, hp16⟩
    dsimp only
    unfold cb_X3_store_30
    have l_17 : (71 : Int32).toInt = 71 := rfl
    have q_18 := i_rng r16
    refine WP.bind (cs_X1_addPair hfu (71 : Int32) r16 F G hI) ?_
    rintro r19 F19 G19 ⟨hI19, hB19, hT19, hO19, hK19, hp19⟩
    dsimp only
    have q_20 := hI.r 10 rfl
    have q_21 := hI19.r 10 rfl
    have e_22 : (F19 10).toInt = (F 10).toInt := hO19
    unfold cb_X3_store_33
    refine WP.ret ?_
    exact ⟨hI19, (KB.tr (KB.rf : KB F G F G) hB19), (KT.tr (rfl : KT F F) hT19), (KO.tr (rfl : KO F F) hO19), (KK.tr (rfl : KK F F) hK19), trivial⟩
theorem cs_X5_clear {fu : Nat} (hfu : 8589934592 ≤ fu) (F : PF) (G : PG) (hI : CI F G) : WP (cf_X5_clear fu F G) (fun r' F' G' => CI F' G' ∧ KB F G F' G' ∧ KT F F' ∧ KO F F' ∧ KK F F' ∧ True) := by
  unfold cf_X5_clear
  unfold cb_X5_clear_0
  have l_1 : (0 : Int32).toInt = 0 := rfl
  have j_2 : CI (fup F 41 (0 : Int32)) G := CI.rg (k := 41) (x := (0 : Int32)) rfl (by decide) (by decide) hI ⟨by omega, by omega⟩
  unfold cb_X5_clear_5
  have j_3 : CI (fup (fup F 41 (0 : Int32)) 42 (0 : Int32)) G := CI.fr rfl j_2
  unfold cb_X5_clear_10
  have l_4 : (4001 : Int32).toInt = 4001 := rfl
  have j_5 : CI (fup (fup (fup F 41 (0 : Int32)) 42 (0 : Int32)) 43 (4001 : Int32)) G := CI.fr rfl j_3
  unfold cb_X5_clear_17
  have j_6 : CI (fup (fup (fup (fup F 41 (0 : Int32)) 42 (0 : Int32)) 43 (4001 : Int32)) 44 (0 : Int32)) G := CI.rg (k := 44) (x := (0 : Int32)) rfl (by decide) (by decide) j_5 ⟨by omega, by omega⟩
  unfold cb_X5_clear_22
  have j_7 : CI (fup (fup (fup (fup (fup F 41 (0 : Int32)) 42 (0 : Int32)) 43 (4001 : Int32)) 44 (0 : Int32)) 45 (0 : Int32)) G := CI.rg (k := 45) (x := (0 : Int32)) rfl (by decide) (by decide) j_6 ⟨by omega, by omega⟩
  unfold cb_X5_clear_27
  have j_8 : CI (fup (fup (fup (fup (fup (fup F 41 (0 : Int32)) 42 (0 : Int32)) 43 (4001 : Int32)) 44 (0 : Int32)) 45 (0 : Int32)) 46 (0 : Int32)) G := CI.rg (k := 46) (x := (0 : Int32)) rfl (by decide) (by decide) j_7 ⟨by omega, by omega⟩
  unfold cb_X5_clear_32
  have l_9 : (1 : Int32).toInt = 1 := rfl
  have j_10 : CI (fup (fup (fup (fup (fup (fup (fup F 41 (0 : Int32)) 42 (0 : Int32)) 43 (4001 : Int32)) 44 (0 : Int32)) 45 (0 : Int32)) 46 (0 : Int32)) 47 (1 : Int32)) G := CI.rg (k := 47) (x := (1 : Int32)) rfl (by decide) (by decide) j_8 ⟨by omega, by omega⟩
  unfold cb_X5_clear_37
  have l_11 : (-1 : Int32).toInt = -1 := rfl
  refine WP.bind (cs_fill_40 hfu (-1 : Int32) (fup (fup (fup (fup (fup (fup (fup F 41 (0 : Int32)) 42 (0 : Int32)) 43 (4001 : Int32)) 44 (0 : Int32)) 45 (0 : Int32)) 46 (0 : Int32)) 47 (1 : Int32)) G j_10) ?_
  rintro r12 F12 G12 ⟨hI12, hB12, hT12, hO12, hK12, hp12⟩
  dsimp only
  have q_13 := hI.r 10 rfl
  have q_14 := hI12.r 10 rfl
  have e_15 : (F12 10).toInt = (F 10).toInt := hO12
  unfold cb_X5_clear_45
  refine WP.ret ?_
  exact ⟨hI12, (KB.tr (KB.f (by decide) (KB.f (by decide) (KB.f (by decide) (KB.f (by decide) (KB.f (by decide) (KB.f (by decide) (KB.f (by decide) (KB.rf : KB F G F G)))))))) hB12), (KT.tr (KT.f (by decide) (KT.f (by decide) (KT.f (by decide) (KT.f (by decide) (KT.f (by decide) (KT.f (by decide) (KT.f (by decide) (rfl : KT F F)))))))) hT12), (KO.tr (KO.f (by decide) (KO.f (by decide) (KO.f (by decide) (KO.f (by decide) (KO.f (by decide) (KO.f (by decide) (KO.f (by decide) (rfl : KO F F)))))))) hO12), (KK.tr (KK.f (by decide) (KK.f (by decide) (KK.f (by decide) (KK.f (by decide) (KK.f (by decide) (KK.f (by decide) (KK.f (by decide) (rfl : KK F F)))))))) hK12), trivial⟩
theorem cs_X8_clear {fu : Nat} (hfu : 8589934592 ≤ fu) (F : PF) (G : PG) (hI : CI F G) : WP (cf_X8_clear fu F G) (fun r' F' G' => CI F' G' ∧ KB F G F' G' ∧ KT F F' ∧ KO F F' ∧ KK F F' ∧ True) := by
  unfold cf_X8_clear
  unfold cb_X8_clear_0
  have l_1 : (0 : Int32).toInt = 0 := rfl
  have j_2 : CI (fup F 73 (0 : Int32)) G := CI.rg (k := 73) (x := (0 : Int32)) rfl (by decide) (by decide) hI ⟨by omega, by omega⟩
  unfold cb_X8_clear_5
  have j_3 : CI (fup (fup F 73 (0 : Int32)) 74 (0 : Int32)) G := CI.rg (k := 74) (x := (0 : Int32)) rfl (by decide) (by decide) j_2 ⟨by omega, by omega⟩
  unfold cb_X8_clear_10
  have j_4 : CI (fup (fup (fup F 73 (0 : Int32)) 74 (0 : Int32)) 75 (0 : Int32)) G := CI.fr rfl j_3
  unfold cb_X8_clear_15
  have l_5 : (-1 : Int32).toInt = -1 := rfl
  have j_6 : CI (fup (fup (fup (fup F 73 (0 : Int32)) 74 (0 : Int32)) 75 (0 : Int32)) 76 (-1 : Int32)) G := CI.fr rfl j_4
  unfold cb_X8_clear_20
  have j_7 : CI (fup (fup (fup (fup (fup F 73 (0 : Int32)) 74 (0 : Int32)) 75 (0 : Int32)) 76 (-1 : Int32)) 85 (0 : Int32)) G := CI.rg (k := 85) (x := (0 : Int32)) rfl (by decide) (by decide) j_6 ⟨by omega, by omega⟩
  unfold cb_X8_clear_25
  refine WP.bind (cs_fill_86 hfu (0 : Int32) (fup (fup (fup (fup (fup F 73 (0 : Int32)) 74 (0 : Int32)) 75 (0 : Int32)) 76 (-1 : Int32)) 85 (0 : Int32)) G j_7) ?_
  rintro r8 F8 G8 ⟨hI8, hB8, hT8, hO8, hK8, hp8⟩
  dsimp only
  have q_9 := hI.r 10 rfl
  have q_10 := hI8.r 10 rfl
  have e_11 : (F8 10).toInt = (F 10).toInt := hO8
  unfold cb_X8_clear_33
  refine WP.ret ?_
  exact ⟨hI8, (KB.tr (KB.f (by decide) (KB.f (by decide) (KB.f (by decide) (KB.f (by decide) (KB.f (by decide) (KB.rf : KB F G F G)))))) hB8), (KT.tr (KT.f (by decide) (KT.f (by decide) (KT.f (by decide) (KT.f (by decide) (KT.f (by decide) (rfl : KT F F)))))) hT8), (KO.tr (KO.f (by decide) (KO.f (by decide) (KO.f (by decide) (KO.f (by decide) (KO.f (by decide) (rfl : KO F F)))))) hO8), (KK.tr (KK.f (by decide) (KK.f (by decide) (KK.f (by decide) (KK.f (by decide) (KK.f (by decide) (rfl : KK F F)))))) hK8), trivial⟩
theorem cs_X4_clear {fu : Nat} (hfu : 8589934592 ≤ fu) (x1 : Int32) (F : PF) (G : PG) (hI : CI F G) : WP (cf_X4_clear fu x1 F G) (fun r' F' G' => CI F' G' ∧ KB F G F' G' ∧ KT F F' ∧ KO F F' ∧ True) := by
  unfold cf_X4_clear
  unfold cb_X4_clear_0
  have q_1 := i_rng x1
  have j_2 : CI (fup F 27 x1) G := CI.fr rfl hI
  unfold cb_X4_clear_5
  refine WP.bind (cs_X8_clear hfu (fup F 27 x1) G j_2) ?_
  rintro r3 F3 G3 ⟨hI3, hB3, hT3, hO3, hK3, hp3⟩
  dsimp only
  have q_4 := hI.r 10 rfl
  have q_5 := hI3.r 10 rfl
  have e_6 : (F3 10).toInt = (F 10).toInt := hO3
  unfold cb_X4_clear_12
  refine WP.bind (cs_X5_clear hfu F3 G3 hI3) ?_
  rintro r7 F7 G7 ⟨hI7, hB7, hT7, hO7, hK7, hp7⟩
  dsimp only
  have q_8 := hI7.r 10 rfl
  have e_9 : (F7 10).toInt = (F3 10).toInt := hO7
  unfold cb_X4_clear_19
  have l_10 : (0 : Int32).toInt = 0 := rfl
  have j_11 : CI (fup F7 6 (0 : Int32)) G7 := CI.rg (k := 6) (x := (0 : Int32)) rfl (by decide) (by decide) hI7 ⟨by omega, by omega⟩
  unfold cb_X4_clear_27
  refine WP.ret ?_
  exact ⟨j_11, (KB.f (by decide) (KB.tr (KB.tr (KB.f (by decide) (KB.rf : KB F G F G)) hB3) hB7)), (KT.f (by decide) (KT.tr (KT.tr (KT.f (by decide) (rfl : KT F F)) hT3) hT7)), (KO.f (by decide) (KO.tr (KO.tr (KO.f (by decide) (rfl : KO F F)) hO3) hO7)), trivial⟩
theorem cs_X8_addFormal {fu : Nat} (hfu : 8589934592 ≤ fu) (x1 : Int32) (F : PF) (G : PG) (hI : CI F G) : WP (cf_X8_addFormal fu x1 F G) (fun r' F' G' => CI F' G' ∧ KB F G F' G' ∧ KT F F' ∧ KO F F' ∧ KK F F' ∧ True) := by
  unfold cf_X8_addFormal
  unfold cb_X8_addFormal_0
  refine WP.ite (fun c_1 => ?_) (fun c_1 => ?_)
  · skip
    have l_2 : (700 : Int32).toInt = 700 := rfl
    have q_3 := hI.r 85 rfl
    have e_4 := i_le.mp (show (700 : Int32) ≤ (F 85) from c_1)
    unfold cb_X8_addFormal_82
    refine WP.ret ?_
    exact ⟨hI, (KB.rf : KB F G F G), (rfl : KT F F), (rfl : KO F F), (rfl : KK F F), trivial⟩
  · skip
    have l_5 : (700 : Int32).toInt = 700 := rfl
    have q_6 := hI.r 85 rfl
    have e_7 := mt i_le.mpr (show ¬ ((700 : Int32) ≤ (F 85)) from c_1)
    unfold cb_X8_addFormal_10
    have q_8 := hI.r 74 rfl
    first | have e_9 : ((F 74) - (1 : Int32)).toInt = (F 74).toInt - (1) := i_subn (F 74) rfl (by omega) (by omega) | have e_10 := i_rng ((F 74) - (1 : Int32))
    refine WP.bind (cs_X8_has hfu ((F 74) - (1 : Int32)) F G hI) ?_
    rintro r11 _ _ ⟨rfl, rfl, hp11⟩
    dsimp only
    have q_12 := b_rng (hp11.1)
    unfold cb_X8_addFormal_20
    refine WP.ite (fun c_13 => ?_) (fun c_13 => ?_)
    · skip
      have l_14 : (0 : Int32).toInt = 0 := rfl
      have e_15 := i_eq.mp (show r11 = (0 : Int32) from c_13)
      unfold cb_X8_addFormal_82
      refine WP.ret ?_
      exact ⟨hI, (KB.rf : KB F G F G), (rfl : KT F F), (rfl : KO F F), (rfl : KK F F), trivial⟩
    · skip
      have l_16 : (0 : Int32).toInt = 0 := rfl
      have e_17 := mt i_eq.mpr (show ¬ (r11 = (0 : Int32)) from c_13)
      unfold cb_X8_addFormal_23
      refine WP.ix (show vp_in (F 85) 700 from vp_in_iff.mpr ⟨by omega, by omega⟩) ?_
      have j_18 : CI F (gup G 84 (F 85).toNatClampNeg x1) := CI.g (by decide) hI
      unfold cb_X8_addFormal_33
      first | have e_19 : ((F 85) + (1 : Int32)).toInt = (F 85).toInt + (1) := i_addn (F 85) rfl (by omega) (by omega) | have e_20 := i_rng ((F 85) + (1 : Int32))
      have j_21 : CI (fup F 85 ((F 85) + (1 : Int32))) (gup G 84 (F 85).toNatClampNeg x1) := CI.rg (k := 85) (x := ((F 85) + (1 : Int32))) rfl (by decide) (by decide) j_18 ⟨by omega, by omega⟩
      unfold cb_X8_addFormal_43
      refine WP.ix (show vp_in ((F 74) - (1 : Int32)) 450 from vp_in_iff.mpr ⟨by omega, by omega⟩) ?_
      refine WP.ix (show vp_in ((F 74) - (1 : Int32)) 450 from vp_in_iff.mpr ⟨by omega, by omega⟩) ?_
      have j_22 : CI (fup F 85 ((F 85) + (1 : Int32))) (gup (gup G 84 (F 85).toNatClampNeg x1) 78 ((F 74) - (1 : Int32)).toNatClampNeg (((gup G 84 (F 85).toNatClampNeg x1) 78 ((F 74) - (1 : Int32)).toNatClampNeg) + (1 : Int32))) := CI.g (by decide) j_21
      unfold cb_X8_addFormal_58
      refine WP.ix (show vp_in ((F 74) - (1 : Int32)) 450 from vp_in_iff.mpr ⟨by omega, by omega⟩) ?_
      refine WP.ite (fun c_23 => ?_) (fun c_23 => ?_)
      · skip
        have q_24 := i_rng x1
        have l_25 : (1 : Int32).toInt = 1 := rfl
        have e_26 := i_eq.mp (show x1 = (1 : Int32) from c_23)
        unfold cb_X8_addFormal_75
        unfold cb_X8_addFormal_80
        refine WP.ix (show vp_in ((F 74) - (1 : Int32)) 450 from vp_in_iff.mpr ⟨by omega, by omega⟩) ?_
        have j_27 : CI (fup F 85 ((F 85) + (1 : Int32))) (gup (gup (gup G 84 (F 85).toNatClampNeg x1) 78 ((F 74) - (1 : Int32)).toNatClampNeg (((gup G 84 (F 85).toNatClampNeg x1) 78 ((F 74) - (1 : Int32)).toNatClampNeg) + (1 : Int32))) 81 ((F 74) - (1 : Int32)).toNatClampNeg (((gup (gup G 84 (F 85).toNatClampNeg x1) 78 ((F 74) - (1 : Int32)).toNatClampNeg (((gup G 84 (F 85).toNatClampNeg x1) 78 ((F 74) - (1 : Int32)).toNatClampNeg) + (1 : Int32))) 81 ((F 74) - (1 : Int32)).toNatClampNeg) + (1 : Int32))) := CI.g (by decide) j_22
        unfold cb_X8_addFormal_82
        refine WP.ret ?_
        exact ⟨j_27, (KB.g (by decide) (KB.g (by decide) (KB.f (by decide) (KB.g (by decide) (KB.rf : KB F G F G))))), (KT.f (by decide) (rfl : KT F F)), (KO.f (by decide) (rfl : KO F F)), (KK.f (by decide) (rfl : KK F F)), trivial⟩
      · skip
        have q_28 := i_rng x1
        have l_29 : (1 : Int32).toInt = 1 := rfl
        have e_30 := mt i_eq.mpr (show ¬ (x1 = (1 : Int32)) from c_23)
        unfold cb_X8_addFormal_79
        unfold cb_X8_addFormal_80
        refine WP.ix (show vp_in ((F 74) - (1 : Int32)) 450 from vp_in_iff.mpr ⟨by omega, by omega⟩) ?_
        have j_31 : CI (fup F 85 ((F 85) + (1 : Int32))) (gup (gup (gup G 84 (F 85).toNatClampNeg x1) 78 ((F 74) - (1 : Int32)).toNatClampNeg (((gup G 84 (F 85).toNatClampNeg x1) 78 ((F 74) - (1 : Int32)).toNatClampNeg) + (1 : Int32))) 81 ((F 74) - (1 : Int32)).toNatClampNeg (((gup (gup G 84 (F 85).toNatClampNeg x1) 78 ((F 74) - (1 : Int32)).toNatClampNeg (((gup G 84 (F 85).toNatClampNeg x1) 78 ((F 74) - (1 : Int32)).toNatClampNeg) + (1 : Int32))) 81 ((F 74) - (1 : Int32)).toNatClampNeg) + (2 : Int32))) := CI.g (by decide) j_22
        unfold cb_X8_addFormal_82
        refine WP.ret ?_
        exact ⟨j_31, (KB.g (by decide) (KB.g (by decide) (KB.f (by decide) (KB.g (by decide) (KB.rf : KB F G F G))))), (KT.f (by decide) (rfl : KT F F)), (KO.f (by decide) (rfl : KO F F)), (KK.f (by decide) (rfl : KK F F)), trivial⟩
theorem cs_X5_measure {fu : Nat} (hfu : 8589934592 ≤ fu) (F : PF) (G : PG) (hI : CI F G) : WP (cf_X5_measure fu F G) (fun r' F' G' => F = F' ∧ G = G' ∧ True) := by
  unfold cf_X5_measure
  unfold cb_X5_measure_0
  refine WP.ret ?_
  exact ⟨rfl, rfl, trivial⟩
theorem cs_X5_install {fu : Nat} (hfu : 8589934592 ≤ fu) (x1 : Int32) (x2 : Int32) (x3 : Int32) (x4 : Int32) (x5 : Int32) (F : PF) (G : PG) (hI : CI F G) : WP (cf_X5_install fu x1 x2 x3 x4 x5 F G) (fun r' F' G' => CI F' G' ∧ KB F G F' G' ∧ KT F F' ∧ KO F F' ∧ KK F F' ∧ True) := by
  unfold cf_X5_install
  unfold cb_X5_install_0
  refine WP.ite (fun c_1 => ?_) (fun c_1 => ?_)
  · skip
    have l_2 : (700 : Int32).toInt = 700 := rfl
    have q_3 := hI.r 41 rfl
    have e_4 := i_le.mp (show (700 : Int32) ≤ (F 41) from c_1)
    unfold cb_X5_install_121
    refine WP.ret ?_
    exact ⟨hI, (KB.rf : KB F G F G), (rfl : KT F F), (rfl : KO F F), (rfl : KK F F), trivial⟩
  · skip
    have l_5 : (700 : Int32).toInt = 700 := rfl
    have q_6 := hI.r 41 rfl
    have e_7 := mt i_le.mpr (show ¬ ((700 : Int32) ≤ (F 41)) from c_1)
    unfold cb_X5_install_10
    refine WP.ite (fun c_8 => ?_) (fun c_8 => ?_)
    · skip
      have q_9 := i_rng x1
      have l_10 : (0 : Int32).toInt = 0 := rfl
      have e_11 := i_lt.mp (show x1 < (0 : Int32) from c_8)
      unfold cb_X5_install_121
      refine WP.ret ?_
      exact ⟨hI, (KB.rf : KB F G F G), (rfl : KT F F), (rfl : KO F F), (rfl : KK F F), trivial⟩
    · skip
      have q_12 := i_rng x1
      have l_13 : (0 : Int32).toInt = 0 := rfl
      have e_14 := mt i_lt.mpr (show ¬ (x1 < (0 : Int32)) from c_8)
      unfold cb_X5_install_14
      refine WP.ite (fun c_15 => ?_) (fun c_15 => ?_)
      · skip
        have l_16 : (1408 : Int32).toInt = 1408 := rfl
        have e_17 := i_le.mp (show (1408 : Int32) ≤ x1 from c_15)
        unfold cb_X5_install_121
        refine WP.ret ?_
        exact ⟨hI, (KB.rf : KB F G F G), (rfl : KT F F), (rfl : KO F F), (rfl : KK F F), trivial⟩
      · skip
        have l_18 : (1408 : Int32).toInt = 1408 := rfl
        have e_19 := mt i_le.mpr (show ¬ ((1408 : Int32) ≤ x1) from c_15)
        unfold cb_X5_install_21
        refine WP.ix (show vp_in (F 41) 700 from vp_in_iff.mpr ⟨by omega, by omega⟩) ?_
        have j_20 : CI F (gup G 33 (F 41).toNatClampNeg x1) := CI.g (by decide) hI
        unfold cb_X5_install_31
        refine WP.ix (show vp_in (F 41) 700 from vp_in_iff.mpr ⟨by omega, by omega⟩) ?_
        have j_21 : CI F (gup (gup G 33 (F 41).toNatClampNeg x1) 34 (F 41).toNatClampNeg (F 42)) := CI.g (by decide) j_20
        unfold cb_X5_install_44
        refine WP.ix (show vp_in (F 41) 700 from vp_in_iff.mpr ⟨by omega, by omega⟩) ?_
        have j_22 : CI F (gup (gup (gup G 33 (F 41).toNatClampNeg x1) 34 (F 41).toNatClampNeg (F 42)) 35 (F 41).toNatClampNeg x3) := CI.g (by decide) j_21
        unfold cb_X5_install_54
        refine WP.ix (show vp_in (F 41) 700 from vp_in_iff.mpr ⟨by omega, by omega⟩) ?_
        have j_23 : CI F (gup (gup (gup (gup G 33 (F 41).toNatClampNeg x1) 34 (F 41).toNatClampNeg (F 42)) 35 (F 41).toNatClampNeg x3) 36 (F 41).toNatClampNeg x2) := CI.g (by decide) j_22
        unfold cb_X5_install_64
        refine WP.ix (show vp_in (F 41) 700 from vp_in_iff.mpr ⟨by omega, by omega⟩) ?_
        have j_24 : CI F (gup (gup (gup (gup (gup G 33 (F 41).toNatClampNeg x1) 34 (F 41).toNatClampNeg (F 42)) 35 (F 41).toNatClampNeg x3) 36 (F 41).toNatClampNeg x2) 37 (F 41).toNatClampNeg x4) := CI.g (by decide) j_23
        unfold cb_X5_install_75
        refine WP.ix (show vp_in (F 41) 700 from vp_in_iff.mpr ⟨by omega, by omega⟩) ?_
        have j_25 : CI F (gup (gup (gup (gup (gup (gup G 33 (F 41).toNatClampNeg x1) 34 (F 41).toNatClampNeg (F 42)) 35 (F 41).toNatClampNeg x3) 36 (F 41).toNatClampNeg x2) 37 (F 41).toNatClampNeg x4) 38 (F 41).toNatClampNeg x5) := CI.g (by decide) j_24
        unfold cb_X5_install_86
        refine WP.ix (show vp_in x1 1408 from vp_in_iff.mpr ⟨by omega, by omega⟩) ?_
        refine WP.ix (show vp_in (F 41) 700 from vp_in_iff.mpr ⟨by omega, by omega⟩) ?_
        have j_26 : CI F (gup (gup (gup (gup (gup (gup (gup G 33 (F 41).toNatClampNeg x1) 34 (F 41).toNatClampNeg (F 42)) 35 (F 41).toNatClampNeg x3) 36 (F 41).toNatClampNeg x2) 37 (F 41).toNatClampNeg x4) 38 (F 41).toNatClampNeg x5) 39 (F 41).toNatClampNeg ((gup (gup (gup (gup (gup (gup G 33 (F 41).toNatClampNeg x1) 34 (F 41).toNatClampNeg (F 42)) 35 (F 41).toNatClampNeg x3) 36 (F 41).toNatClampNeg x2) 37 (F 41).toNatClampNeg x4) 38 (F 41).toNatClampNeg x5) 40 x1.toNatClampNeg)) := CI.g (by decide) j_25
        unfold cb_X5_install_101
        refine WP.ix (show vp_in x1 1408 from vp_in_iff.mpr ⟨by omega, by omega⟩) ?_
        have j_27 : CI F (gup (gup (gup (gup (gup (gup (gup (gup G 33 (F 41).toNatClampNeg x1) 34 (F 41).toNatClampNeg (F 42)) 35 (F 41).toNatClampNeg x3) 36 (F 41).toNatClampNeg x2) 37 (F 41).toNatClampNeg x4) 38 (F 41).toNatClampNeg x5) 39 (F 41).toNatClampNeg ((gup (gup (gup (gup (gup (gup G 33 (F 41).toNatClampNeg x1) 34 (F 41).toNatClampNeg (F 42)) 35 (F 41).toNatClampNeg x3) 36 (F 41).toNatClampNeg x2) 37 (F 41).toNatClampNeg x4) 38 (F 41).toNatClampNeg x5) 40 x1.toNatClampNeg)) 40 x1.toNatClampNeg (F 41)) := CI.g (by decide) j_26
        unfold cb_X5_install_111
        first | have e_28 : ((F 41) + (1 : Int32)).toInt = (F 41).toInt + (1) := i_addn (F 41) rfl (by omega) (by omega) | have e_29 := i_rng ((F 41) + (1 : Int32))
        have j_30 : CI (fup F 41 ((F 41) + (1 : Int32))) (gup (gup (gup (gup (gup (gup (gup (gup G 33 (F 41).toNatClampNeg x1) 34 (F 41).toNatClampNeg (F 42)) 35 (F 41).toNatClampNeg x3) 36 (F 41).toNatClampNeg x2) 37 (F 41).toNatClampNeg x4) 38 (F 41).toNatClampNeg x5) 39 (F 41).toNatClampNeg ((gup (gup (gup (gup (gup (gup G 33 (F 41).toNatClampNeg x1) 34 (F 41).toNatClampNeg (F 42)) 35 (F 41).toNatClampNeg x3) 36 (F 41).toNatClampNeg x2) 37 (F 41).toNatClampNeg x4) 38 (F 41).toNatClampNeg x5) 40 x1.toNatClampNeg)) 40 x1.toNatClampNeg (F 41)) := CI.rg (k := 41) (x := ((F 41) + (1 : Int32))) rfl (by decide) (by decide) j_27 ⟨by omega, by omega⟩
        unfold cb_X5_install_121
        refine WP.ret ?_
        exact ⟨j_30, (KB.f (by decide) (KB.g (by decide) (KB.g (by decide) (KB.g (by decide) (KB.g (by decide) (KB.g (by decide) (KB.g (by decide) (KB.g (by decide) (KB.g (by decide) (KB.rf : KB F G F G)))))))))), (KT.f (by decide) (rfl : KT F F)), (KO.f (by decide) (rfl : KO F F)), (KK.f (by decide) (rfl : KK F F)), trivial⟩
theorem cs_X5_tell {fu : Nat} (hfu : 8589934592 ≤ fu) (x1 : Int32) (x2 : Int32) (x3 : Int32) (x4 : Int32) (x5 : Int32) (F : PF) (G : PG) (hI : CI F G) : WP (cf_X5_tell fu x1 x2 x3 x4 x5 F G) (fun r' F' G' => CI F' G' ∧ KB F G F' G' ∧ KT F F' ∧ KO F F' ∧ KK F F' ∧ True) := by
  unfold cf_X5_tell
  unfold cb_X5_tell_0
  refine WP.ite (fun c_1 => ?_) (fun c_1 => ?_)
  · skip
    have q_2 := hI.r 45 rfl
    have l_3 : (0 : Int32).toInt = 0 := rfl
    have e_4 := i_eq.mp (show (F 45) = (0 : Int32) from c_1)
    unfold cb_X5_tell_7
    refine WP.ret ?_
    exact ⟨hI, (KB.rf : KB F G F G), (rfl : KT F F), (rfl : KO F F), (rfl : KK F F), trivial⟩
  · skip
    have q_5 := hI.r 45 rfl
    have l_6 : (0 : Int32).toInt = 0 := rfl
    have e_7 := mt i_eq.mpr (show ¬ ((F 45) = (0 : Int32)) from c_1)
    unfold cb_X5_tell_8
    have q_8 := i_rng x1
    refine WP.bind (cs_X5_known hfu x1 F G hI) ?_
    rintro r9 _ _ ⟨rfl, rfl, hp9⟩
    dsimp only
    unfold cb_X5_tell_13
    refine WP.ite (fun c_10 => ?_) (fun c_10 => ?_)
    · skip
      have q_11 := i_rng r9
      have e_12 := i_lt.mp (show r9 < (0 : Int32) from c_10)
      unfold cb_X5_tell_47
      unfold cb_X5_tell_48
      refine WP.ite (fun _ => ?_) (fun c_13 => absurd (by decide) c_13)
      unfold cb_X5_tell_81
      unfold cb_X5_tell_82
      refine WP.ite (fun _ => ?_) (fun c_14 => absurd (by decide) c_14)
      unfold cb_X5_tell_103
      have q_15 := i_rng x2
      have q_16 := i_rng x3
      have q_17 := i_rng x4
      have q_18 := i_rng x5
      refine WP.bind (cs_X5_install hfu x1 x2 x3 x4 x5 F G hI) ?_
      rintro r19 F19 G19 ⟨hI19, hB19, hT19, hO19, hK19, hp19⟩
      dsimp only
      have q_20 := hI.r 10 rfl
      have q_21 := hI19.r 10 rfl
      have e_22 : (F19 10).toInt = (F 10).toInt := hO19
      unfold cb_X5_tell_114
      refine WP.ret ?_
      exact ⟨hI19, (KB.tr (KB.rf : KB F G F G) hB19), (KT.tr (rfl : KT F F) hT19), (KO.tr (rfl : KO F F) hO19), (KK.tr (rfl : KK F F) hK19), trivial⟩
    · skip
      have q_23 := i_rng r9
      have e_24 := mt i_lt.mpr (show ¬ (r9 < (0 : Int32)) from c_10)
      unfold cb_X5_tell_20
      refine WP.ite (fun c_25 => ?_) (fun c_25 => ?_)
      · skip
        have q_26 := hI.r 41 rfl
        have e_27 := i_le.mp (show (F 41) ≤ r9 from c_25)
        unfold cb_X5_tell_47
        unfold cb_X5_tell_48
        refine WP.ite (fun _ => ?_) (fun c_28 => absurd (by decide) c_28)
        unfold cb_X5_tell_81
        unfold cb_X5_tell_82
        refine WP.ite (fun _ => ?_) (fun c_29 => absurd (by decide) c_29)
        unfold cb_X5_tell_103
        have q_30 := i_rng x2
        have q_31 := i_rng x3
        have q_32 := i_rng x4
        have q_33 := i_rng x5
        refine WP.bind (cs_X5_install hfu x1 x2 x3 x4 x5 F G hI) ?_
        rintro r34 F34 G34 ⟨hI34, hB34, hT34, hO34, hK34, hp34⟩
        dsimp only
        have q_35 := hI.r 10 rfl
        have q_36 := hI34.r 10 rfl
        have e_37 : (F34 10).toInt = (F 10).toInt := hO34
        unfold cb_X5_tell_114
        refine WP.ret ?_
        exact ⟨hI34, (KB.tr (KB.rf : KB F G F G) hB34), (KT.tr (rfl : KT F F) hT34), (KO.tr (rfl : KO F F) hO34), (KK.tr (rfl : KK F F) hK34), trivial⟩
      · skip
        have q_38 := hI.r 41 rfl
        have e_39 := mt i_le.mpr (show ¬ ((F 41) ≤ r9) from c_25)
        unfold cb_X5_tell_29
        refine WP.ix (show vp_in r9 700 from vp_in_iff.mpr ⟨by omega, by omega⟩) ?_
        refine WP.ite (fun c_40 => ?_) (fun c_40 => ?_)
        · skip
          have q_41 := i_rng (G 34 r9.toNatClampNeg)
          have q_42 := i_rng (F 42)
          have e_43 := i_eq.mp (show (G 34 r9.toNatClampNeg) = (F 42) from c_40)
          unfold cb_X5_tell_43
          unfold cb_X5_tell_48
          refine WP.ite (fun c_44 => absurd c_44 (by decide)) (fun _ => ?_)
          unfold cb_X5_tell_55
          refine WP.ix (show vp_in r9 700 from vp_in_iff.mpr ⟨by omega, by omega⟩) ?_
          refine WP.ite (fun c_45 => ?_) (fun c_45 => ?_)
          · skip
            have q_46 := i_rng (G 35 r9.toNatClampNeg)
            have l_47 : (4 : Int32).toInt = 4 := rfl
            have e_48 := i_eq.mp (show (G 35 r9.toNatClampNeg) = (4 : Int32) from c_45)
            unfold cb_X5_tell_66
            refine WP.ix (show vp_in r9 700 from vp_in_iff.mpr ⟨by omega, by omega⟩) ?_
            refine WP.ite (fun c_49 => ?_) (fun c_49 => ?_)
            · skip
              have q_50 := i_rng (G 36 r9.toNatClampNeg)
              have q_51 := i_rng x2
              have e_52 := i_le.mp (show (G 36 r9.toNatClampNeg) ≤ x2 from c_49)
              unfold cb_X5_tell_81
              unfold cb_X5_tell_82
              refine WP.ite (fun c_53 => absurd c_53 (by decide)) (fun _ => ?_)
              unfold cb_X5_tell_89
              refine WP.ite (fun _ => ?_) (fun c_54 => absurd (by decide) c_54)
              unfold cb_X5_tell_94
              have l_55 : (1 : Int32).toInt = 1 := rfl
              refine WP.bind (cs_X5_note hfu (1 : Int32) x2 F G hI) ?_
              rintro r56 F56 G56 ⟨hI56, hB56, hT56, hO56, hK56, hp56⟩
              dsimp only
              have q_57 := hI.r 10 rfl
              have q_58 := hI56.r 10 rfl
              have e_59 : (F56 10).toInt = (F 10).toInt := hO56
              unfold cb_X5_tell_100
              unfold cb_X5_tell_114
              refine WP.ret ?_
              exact ⟨hI56, (KB.tr (KB.rf : KB F G F G) hB56), (KT.tr (rfl : KT F F) hT56), (KO.tr (rfl : KO F F) hO56), (KK.tr (rfl : KK F F) hK56), trivial⟩
            · skip
              have q_60 := i_rng (G 36 r9.toNatClampNeg)
              have q_61 := i_rng x2
              have e_62 := mt i_le.mpr (show ¬ ((G 36 r9.toNatClampNeg) ≤ x2) from c_49)
              unfold cb_X5_tell_77
              unfold cb_X5_tell_82
              refine WP.ite (fun c_63 => absurd c_63 (by decide)) (fun _ => ?_)
              unfold cb_X5_tell_89
              refine WP.ite (fun c_64 => absurd c_64 (by decide)) (fun _ => ?_)
              unfold cb_X5_tell_103
              have q_65 := i_rng x3
              have q_66 := i_rng x4
              have q_67 := i_rng x5
              refine WP.bind (cs_X5_install hfu x1 x2 x3 x4 x5 F G hI) ?_
              rintro r68 F68 G68 ⟨hI68, hB68, hT68, hO68, hK68, hp68⟩
              dsimp only
              have q_69 := hI.r 10 rfl
              have q_70 := hI68.r 10 rfl
              have e_71 : (F68 10).toInt = (F 10).toInt := hO68
              unfold cb_X5_tell_114
              refine WP.ret ?_
              exact ⟨hI68, (KB.tr (KB.rf : KB F G F G) hB68), (KT.tr (rfl : KT F F) hT68), (KO.tr (rfl : KO F F) hO68), (KK.tr (rfl : KK F F) hK68), trivial⟩
          · skip
            have q_72 := i_rng (G 35 r9.toNatClampNeg)
            have l_73 : (4 : Int32).toInt = 4 := rfl
            have e_74 := mt i_eq.mpr (show ¬ ((G 35 r9.toNatClampNeg) = (4 : Int32)) from c_45)
            unfold cb_X5_tell_81
            unfold cb_X5_tell_82
            refine WP.ite (fun c_75 => absurd c_75 (by decide)) (fun _ => ?_)
            unfold cb_X5_tell_89
            refine WP.ite (fun _ => ?_) (fun c_76 => absurd (by decide) c_76)
            unfold cb_X5_tell_94
            have l_77 : (1 : Int32).toInt = 1 := rfl
            have q_78 := i_rng x2
            refine WP.bind (cs_X5_note hfu (1 : Int32) x2 F G hI) ?_
            rintro r79 F79 G79 ⟨hI79, hB79, hT79, hO79, hK79, hp79⟩
            dsimp only
            have q_80 := hI.r 10 rfl
            have q_81 := hI79.r 10 rfl
            have e_82 : (F79 10).toInt = (F 10).toInt := hO79
            unfold cb_X5_tell_100
            unfold cb_X5_tell_114
            refine WP.ret ?_
            exact ⟨hI79, (KB.tr (KB.rf : KB F G F G) hB79), (KT.tr (rfl : KT F F) hT79), (KO.tr (rfl : KO F F) hO79), (KK.tr (rfl : KK F F) hK79), trivial⟩
        · skip
          have q_83 := i_rng (G 34 r9.toNatClampNeg)
          have q_84 := i_rng (F 42)
          have e_85 := mt i_eq.mpr (show ¬ ((G 34 r9.toNatClampNeg) = (F 42)) from c_40)
          unfold cb_X5_tell_47
          unfold cb_X5_tell_48
          refine WP.ite (fun _ => ?_) (fun c_86 => absurd (by decide) c_86)
          unfold cb_X5_tell_81
          unfold cb_X5_tell_82
          refine WP.ite (fun _ => ?_) (fun c_87 => absurd (by decide) c_87)
          unfold cb_X5_tell_103
          have q_88 := i_rng x2
          have q_89 := i_rng x3
          have q_90 := i_rng x4
          have q_91 := i_rng x5
          refine WP.bind (cs_X5_install hfu x1 x2 x3 x4 x5 F G hI) ?_
          rintro r92 F92 G92 ⟨hI92, hB92, hT92, hO92, hK92, hp92⟩
          dsimp only
          have q_93 := hI.r 10 rfl
          have q_94 := hI92.r 10 rfl
          have e_95 : (F92 10).toInt = (F 10).toInt := hO92
          unfold cb_X5_tell_114
          refine WP.ret ?_
          exact ⟨hI92, (KB.tr (KB.rf : KB F G F G) hB92), (KT.tr (rfl : KT F F) hT92), (KO.tr (rfl : KO F F) hO92), (KK.tr (rfl : KK F F) hK92), trivial⟩
theorem cs_X5_tellFormal {fu : Nat} (hfu : 8589934592 ≤ fu) (x1 : Int32) (x2 : Int32) (x3 : Int32) (F : PF) (G : PG) (hI : CI F G) : WP (cf_X5_tellFormal fu x1 x2 x3 F G) (fun r' F' G' => CI F' G' ∧ KB F G F' G' ∧ KT F F' ∧ KO F F' ∧ KK F F' ∧ True) := by
  unfold cf_X5_tellFormal
  unfold cb_X5_tellFormal_0
  refine WP.bind (cs_X5_measure hfu F G hI) ?_
  rintro r1 _ _ ⟨rfl, rfl, hp1⟩
  dsimp only
  unfold cb_X5_tellFormal_4
  refine WP.ite (fun c_2 => ?_) (fun c_2 => ?_)
  · skip
    have q_3 := i_rng x3
    have l_4 : (1 : Int32).toInt = 1 := rfl
    have e_5 := i_eq.mp (show x3 = (1 : Int32) from c_2)
    unfold cb_X5_tellFormal_16
    unfold cb_X5_tellFormal_21
    have q_6 := i_rng (F 49)
    first | have e_7 : ((F 49) + (1 : Int32)).toInt = (F 49).toInt + (1) := i_addn (F 49) rfl (by omega) (by omega) | have e_8 := i_rng ((F 49) + (1 : Int32))
    have j_9 : CI (fup F 49 ((F 49) + (1 : Int32))) G := CI.fr rfl hI
    unfold cb_X5_tellFormal_25
    have q_10 := i_rng x1
    have q_11 := i_rng x2
    have q_12 := i_rng r1
    have l_13 : (0 : Int32).toInt = 0 := rfl
    refine WP.bind (cs_X5_tell hfu x1 x2 x3 r1 (0 : Int32) (fup F 49 ((F 49) + (1 : Int32))) G j_9) ?_
    rintro r14 F14 G14 ⟨hI14, hB14, hT14, hO14, hK14, hp14⟩
    dsimp only
    have q_15 := hI.r 10 rfl
    have q_16 := hI14.r 10 rfl
    have e_17 : (F14 10).toInt = (F 10).toInt := hO14
    unfold cb_X5_tellFormal_35
    refine WP.ret ?_
    exact ⟨hI14, (KB.tr (KB.f (by decide) (KB.rf : KB F G F G)) hB14), (KT.tr (KT.f (by decide) (rfl : KT F F)) hT14), (KO.tr (KO.f (by decide) (rfl : KO F F)) hO14), (KK.tr (KK.f (by decide) (rfl : KK F F)) hK14), trivial⟩
  · skip
    have q_18 := i_rng x3
    have l_19 : (1 : Int32).toInt = 1 := rfl
    have e_20 := mt i_eq.mpr (show ¬ (x3 = (1 : Int32)) from c_2)
    unfold cb_X5_tellFormal_20
    unfold cb_X5_tellFormal_21
    have q_21 := i_rng (F 49)
    first | have e_22 : ((F 49) + (2 : Int32)).toInt = (F 49).toInt + (2) := i_addn (F 49) rfl (by omega) (by omega) | have e_23 := i_rng ((F 49) + (2 : Int32))
    have j_24 : CI (fup F 49 ((F 49) + (2 : Int32))) G := CI.fr rfl hI
    unfold cb_X5_tellFormal_25
    have q_25 := i_rng x1
    have q_26 := i_rng x2
    have q_27 := i_rng r1
    have l_28 : (0 : Int32).toInt = 0 := rfl
    refine WP.bind (cs_X5_tell hfu x1 x2 x3 r1 (0 : Int32) (fup F 49 ((F 49) + (2 : Int32))) G j_24) ?_
    rintro r29 F29 G29 ⟨hI29, hB29, hT29, hO29, hK29, hp29⟩
    dsimp only
    have q_30 := hI.r 10 rfl
    have q_31 := hI29.r 10 rfl
    have e_32 : (F29 10).toInt = (F 10).toInt := hO29
    unfold cb_X5_tellFormal_35
    refine WP.ret ?_
    exact ⟨hI29, (KB.tr (KB.f (by decide) (KB.rf : KB F G F G)) hB29), (KT.tr (KT.f (by decide) (rfl : KT F F)) hT29), (KO.tr (KO.f (by decide) (rfl : KO F F)) hO29), (KK.tr (KK.f (by decide) (rfl : KK F F)) hK29), trivial⟩
theorem cs_X4_formal {fu : Nat} (hfu : 8589934592 ≤ fu) (x1 : Int32) (x2 : Int32) (F : PF) (G : PG) (hI : CI F G) (hz_x2 : x2 = 0 ∨ x2 = 1) : WP (cf_X4_formal fu x1 x2 F G) (fun r' F' G' => CI F' G' ∧ KB F G F' G' ∧ KT F F' ∧ KO F F' ∧ True) := by
  have q_x2 := b_rng hz_x2
  unfold cf_X4_formal
  unfold cb_X4_formal_0
  refine WP.ite (fun c_1 => ?_) (fun c_1 => ?_)
  · skip
    have q_2 := i_rng (F 11)
    have l_3 : (4 : Int32).toInt = 4 := rfl
    have e_4 := i_eq.mp (show (F 11) = (4 : Int32) from c_1)
    unfold cb_X4_formal_27
    refine WP.ite (fun c_5 => ?_) (fun c_5 => ?_)
    · skip
      have q_6 := i_rng x2
      have l_7 : (0 : Int32).toInt = 0 := rfl
      have e_8 := i_eq.mp (show x2 = (0 : Int32) from c_5)
      unfold cb_X4_formal_47
      refine WP.bind (cs_X2_next hfu F G hI) ?_
      rintro r9 F9 G9 ⟨hI9, hB9, hT9, hO9, hp9⟩
      dsimp only
      have q_10 := hI.r 10 rfl
      have q_11 := hI9.r 10 rfl
      have e_12 : (F9 10).toInt = (F 10).toInt := hO9
      unfold cb_X4_formal_54
      have l_13 : (2 : Int32).toInt = 2 := rfl
      refine WP.bind (cs_X2_expect hfu (2 : Int32) F9 G9 hI9 (show (2 : Int32).toInt ≠ -2 by omega)) ?_
      rintro r14 F14 G14 ⟨hI14, hB14, hT14, hO14, hS14, hp14⟩
      dsimp only
      have q_15 := hI14.r 10 rfl
      have e_16 : (F14 10).toInt = (F9 10).toInt := hO14
      unfold cb_X4_formal_80
      refine WP.ite (fun c_17 => ?_) (fun c_17 => ?_)
      · skip
        have q_18 := i_rng (F14 11)
        have l_19 : (21 : Int32).toInt = 21 := rfl
        have e_20 := i_eq.mp (show (F14 11) = (21 : Int32) from c_17)
        unfold cb_X4_formal_100
        refine WP.ite (fun c_21 => ?_) (fun c_21 => ?_)
        · skip
          have e_22 := i_eq.mp (show (F 11) = (4 : Int32) from c_21)
          unfold cb_X4_formal_105
          unfold cb_X4_formal_110
          refine WP.bind (cs_X2_opens hfu (21 : Int32) F14 G14 hI14 (show (21 : Int32).toInt ≠ -2 by omega)) ?_
          rintro r23 F23 G23 ⟨hI23, hB23, hT23, hS23, hp23⟩
          dsimp only
          have q_24 := b_rng (hp23.1)
          have q_25 := hI23.r 10 rfl
          have e_26 : r23.toInt = 1 → (F23 10).toInt = (F14 10).toInt + 1 ∧ (F14 10).toInt < 40 ∧ (F14 11).toInt ≠ -2 := hp23.2.1
          have e_27 : r23.toInt = 0 → (F23 10).toInt = (F14 10).toInt ∧ (F23 11).toInt = -2 := hp23.2.2
          unfold cb_X4_formal_121
          refine WP.ite (fun c_28 => ?_) (fun c_28 => ?_)
          · skip
            have e_29 := i_eq.mp (show r23 = (0 : Int32) from c_28)
            unfold cb_X4_formal_133
            refine WP.ite (fun c_30 => ?_) (fun c_30 => ?_)
            · skip
              have q_31 := hI23.r 45 rfl
              have e_32 := i_eq.mp (show (F23 45) = (0 : Int32) from c_30)
              unfold cb_X4_formal_143
              refine WP.bind (cs_X8_addFormal hfu (2 : Int32) F23 G23 hI23) ?_
              rintro r33 F33 G33 ⟨hI33, hB33, hT33, hO33, hK33, hp33⟩
              dsimp only
              have q_34 := hI33.r 10 rfl
              have e_35 : (F33 10).toInt = (F23 10).toInt := hO33
              unfold cb_X4_formal_152
              refine WP.ret ?_
              exact ⟨hI33, (KB.tr (KB.tr (KB.tr (KB.tr (KB.rf : KB F G F G) hB9) hB14) hB23) hB33), (KT.tr (KT.tr (KT.tr (KT.tr (rfl : KT F F) hT9) hT14) hT23) hT33), (show (F33 10).toInt = (F 10).toInt by omega), trivial⟩
            · skip
              have q_36 := hI23.r 45 rfl
              have e_37 := mt i_eq.mpr (show ¬ ((F23 45) = (0 : Int32)) from c_30)
              unfold cb_X4_formal_153
              have q_38 := i_rng (F9 12)
              have q_39 := i_rng (F9 13)
              refine WP.bind (cs_X5_tellFormal hfu (F9 12) (F9 13) (2 : Int32) F23 G23 hI23) ?_
              rintro r40 F40 G40 ⟨hI40, hB40, hT40, hO40, hK40, hp40⟩
              dsimp only
              have q_41 := hI40.r 10 rfl
              have e_42 : (F40 10).toInt = (F23 10).toInt := hO40
              unfold cb_X4_formal_166
              refine WP.ite (fun c_43 => ?_) (fun c_43 => ?_)
              · skip
                have q_44 := i_rng x1
                have e_45 := i_lt.mp (show x1 < (4 : Int32) from c_43)
                unfold cb_X4_formal_182
                refine WP.ret ?_
                exact ⟨hI40, (KB.tr (KB.tr (KB.tr (KB.tr (KB.rf : KB F G F G) hB9) hB14) hB23) hB40), (KT.tr (KT.tr (KT.tr (KT.tr (rfl : KT F F) hT9) hT14) hT23) hT40), (show (F40 10).toInt = (F 10).toInt by omega), trivial⟩
              · skip
                have q_46 := i_rng x1
                have e_47 := mt i_lt.mpr (show ¬ (x1 < (4 : Int32)) from c_43)
                unfold cb_X4_formal_171
                have l_48 : (8 : Int32).toInt = 8 := rfl
                refine WP.bind (cs_X5_note hfu (8 : Int32) (F9 13) F40 G40 hI40) ?_
                rintro r49 F49 G49 ⟨hI49, hB49, hT49, hO49, hK49, hp49⟩
                dsimp only
                have q_50 := hI49.r 10 rfl
                have e_51 : (F49 10).toInt = (F40 10).toInt := hO49
                unfold cb_X4_formal_182
                refine WP.ret ?_
                exact ⟨hI49, (KB.tr (KB.tr (KB.tr (KB.tr (KB.tr (KB.rf : KB F G F G) hB9) hB14) hB23) hB40) hB49), (KT.tr (KT.tr (KT.tr (KT.tr (KT.tr (rfl : KT F F) hT9) hT14) hT23) hT40) hT49), (show (F49 10).toInt = (F 10).toInt by omega), trivial⟩
          · skip
            have e_52 := mt i_eq.mpr (show ¬ (r23 = (0 : Int32)) from c_28)
            unfold cb_X4_formal_124
            have l_53 : (22 : Int32).toInt = 22 := rfl
            refine WP.bind (cs_X2_closesWith hfu (22 : Int32) F23 G23 hI23 (show 0 ≤ (F23 10).toInt by omega) (show (22 : Int32).toInt ≠ -2 by omega)) ?_
            rintro r54 F54 G54 ⟨hI54, hB54, hT54, hS54, hp54⟩
            dsimp only
            have q_55 := hI54.r 10 rfl
            have e_56 : (F54 10).toInt = (F23 10).toInt - 1 := hp54
            unfold cb_X4_formal_133
            refine WP.ite (fun c_57 => ?_) (fun c_57 => ?_)
            · skip
              have q_58 := hI54.r 45 rfl
              have e_59 := i_eq.mp (show (F54 45) = (0 : Int32) from c_57)
              unfold cb_X4_formal_143
              refine WP.bind (cs_X8_addFormal hfu (2 : Int32) F54 G54 hI54) ?_
              rintro r60 F60 G60 ⟨hI60, hB60, hT60, hO60, hK60, hp60⟩
              dsimp only
              have q_61 := hI60.r 10 rfl
              have e_62 : (F60 10).toInt = (F54 10).toInt := hO60
              unfold cb_X4_formal_152
              refine WP.ret ?_
              exact ⟨hI60, (KB.tr (KB.tr (KB.tr (KB.tr (KB.tr (KB.rf : KB F G F G) hB9) hB14) hB23) hB54) hB60), (KT.tr (KT.tr (KT.tr (KT.tr (KT.tr (rfl : KT F F) hT9) hT14) hT23) hT54) hT60), (show (F60 10).toInt = (F 10).toInt by omega), trivial⟩
            · skip
              have q_63 := hI54.r 45 rfl
              have e_64 := mt i_eq.mpr (show ¬ ((F54 45) = (0 : Int32)) from c_57)
              unfold cb_X4_formal_153
              have q_65 := i_rng (F9 12)
              have q_66 := i_rng (F9 13)
              refine WP.bind (cs_X5_tellFormal hfu (F9 12) (F9 13) (2 : Int32) F54 G54 hI54) ?_
              rintro r67 F67 G67 ⟨hI67, hB67, hT67, hO67, hK67, hp67⟩
              dsimp only
              have q_68 := hI67.r 10 rfl
              have e_69 : (F67 10).toInt = (F54 10).toInt := hO67
              unfold cb_X4_formal_166
              refine WP.ite (fun c_70 => ?_) (fun c_70 => ?_)
              · skip
                have q_71 := i_rng x1
                have e_72 := i_lt.mp (show x1 < (4 : Int32) from c_70)
                unfold cb_X4_formal_182
                refine WP.ret ?_
                exact ⟨hI67, (KB.tr (KB.tr (KB.tr (KB.tr (KB.tr (KB.rf : KB F G F G) hB9) hB14) hB23) hB54) hB67), (KT.tr (KT.tr (KT.tr (KT.tr (KT.tr (rfl : KT F F) hT9) hT14) hT23) hT54) hT67), (show (F67 10).toInt = (F 10).toInt by omega), trivial⟩
              · skip
                have q_73 := i_rng x1
                have e_74 := mt i_lt.mpr (show ¬ (x1 < (4 : Int32)) from c_70)
                unfold cb_X4_formal_171
                have l_75 : (8 : Int32).toInt = 8 := rfl
                refine WP.bind (cs_X5_note hfu (8 : Int32) (F9 13) F67 G67 hI67) ?_
                rintro r76 F76 G76 ⟨hI76, hB76, hT76, hO76, hK76, hp76⟩
                dsimp only
                have q_77 := hI76.r 10 rfl
                have e_78 : (F76 10).toInt = (F67 10).toInt := hO76
                unfold cb_X4_formal_182
                refine WP.ret ?_
                exact ⟨hI76, (KB.tr (KB.tr (KB.tr (KB.tr (KB.tr (KB.tr (KB.rf : KB F G F G) hB9) hB14) hB23) hB54) hB67) hB76), (KT.tr (KT.tr (KT.tr (KT.tr (KT.tr (KT.tr (rfl : KT F F) hT9) hT14) hT23) hT54) hT67) hT76), (show (F76 10).toInt = (F 10).toInt by omega), trivial⟩
        · skip
          have e_79 := mt i_eq.mpr (show ¬ ((F 11) = (4 : Int32)) from c_21)
          unfold cb_X4_formal_109
          unfold cb_X4_formal_110
          refine WP.bind (cs_X2_opens hfu (21 : Int32) F14 G14 hI14 (show (21 : Int32).toInt ≠ -2 by omega)) ?_
          rintro r80 F80 G80 ⟨hI80, hB80, hT80, hS80, hp80⟩
          dsimp only
          have q_81 := b_rng (hp80.1)
          have q_82 := hI80.r 10 rfl
          have e_83 : r80.toInt = 1 → (F80 10).toInt = (F14 10).toInt + 1 ∧ (F14 10).toInt < 40 ∧ (F14 11).toInt ≠ -2 := hp80.2.1
          have e_84 : r80.toInt = 0 → (F80 10).toInt = (F14 10).toInt ∧ (F80 11).toInt = -2 := hp80.2.2
          unfold cb_X4_formal_121
          refine WP.ite (fun c_85 => ?_) (fun c_85 => ?_)
          · skip
            have e_86 := i_eq.mp (show r80 = (0 : Int32) from c_85)
            unfold cb_X4_formal_133
            refine WP.ite (fun c_87 => ?_) (fun c_87 => ?_)
            · skip
              have q_88 := hI80.r 45 rfl
              have e_89 := i_eq.mp (show (F80 45) = (0 : Int32) from c_87)
              unfold cb_X4_formal_143
              have l_90 : (3 : Int32).toInt = 3 := rfl
              refine WP.bind (cs_X8_addFormal hfu (3 : Int32) F80 G80 hI80) ?_
              rintro r91 F91 G91 ⟨hI91, hB91, hT91, hO91, hK91, hp91⟩
              dsimp only
              have q_92 := hI91.r 10 rfl
              have e_93 : (F91 10).toInt = (F80 10).toInt := hO91
              unfold cb_X4_formal_152
              refine WP.ret ?_
              exact ⟨hI91, (KB.tr (KB.tr (KB.tr (KB.tr (KB.rf : KB F G F G) hB9) hB14) hB80) hB91), (KT.tr (KT.tr (KT.tr (KT.tr (rfl : KT F F) hT9) hT14) hT80) hT91), (show (F91 10).toInt = (F 10).toInt by omega), trivial⟩
            · skip
              have q_94 := hI80.r 45 rfl
              have e_95 := mt i_eq.mpr (show ¬ ((F80 45) = (0 : Int32)) from c_87)
              unfold cb_X4_formal_153
              have q_96 := i_rng (F9 12)
              have q_97 := i_rng (F9 13)
              have l_98 : (3 : Int32).toInt = 3 := rfl
              refine WP.bind (cs_X5_tellFormal hfu (F9 12) (F9 13) (3 : Int32) F80 G80 hI80) ?_
              rintro r99 F99 G99 ⟨hI99, hB99, hT99, hO99, hK99, hp99⟩
              dsimp only
              have q_100 := hI99.r 10 rfl
              have e_101 : (F99 10).toInt = (F80 10).toInt := hO99
              unfold cb_X4_formal_166
              refine WP.ite (fun c_102 => ?_) (fun c_102 => ?_)
              · skip
                have q_103 := i_rng x1
                have e_104 := i_lt.mp (show x1 < (4 : Int32) from c_102)
                unfold cb_X4_formal_182
                refine WP.ret ?_
                exact ⟨hI99, (KB.tr (KB.tr (KB.tr (KB.tr (KB.rf : KB F G F G) hB9) hB14) hB80) hB99), (KT.tr (KT.tr (KT.tr (KT.tr (rfl : KT F F) hT9) hT14) hT80) hT99), (show (F99 10).toInt = (F 10).toInt by omega), trivial⟩
              · skip
                have q_105 := i_rng x1
                have e_106 := mt i_lt.mpr (show ¬ (x1 < (4 : Int32)) from c_102)
                unfold cb_X4_formal_171
                have l_107 : (8 : Int32).toInt = 8 := rfl
                refine WP.bind (cs_X5_note hfu (8 : Int32) (F9 13) F99 G99 hI99) ?_
                rintro r108 F108 G108 ⟨hI108, hB108, hT108, hO108, hK108, hp108⟩
                dsimp only
                have q_109 := hI108.r 10 rfl
                have e_110 : (F108 10).toInt = (F99 10).toInt := hO108
                unfold cb_X4_formal_182
                refine WP.ret ?_
                exact ⟨hI108, (KB.tr (KB.tr (KB.tr (KB.tr (KB.tr (KB.rf : KB F G F G) hB9) hB14) hB80) hB99) hB108), (KT.tr (KT.tr (KT.tr (KT.tr (KT.tr (rfl : KT F F) hT9) hT14) hT80) hT99) hT108), (show (F108 10).toInt = (F 10).toInt by omega), trivial⟩
          · skip
            have e_111 := mt i_eq.mpr (show ¬ (r80 = (0 : Int32)) from c_85)
            unfold cb_X4_formal_124
            have l_112 : (22 : Int32).toInt = 22 := rfl
            refine WP.bind (cs_X2_closesWith hfu (22 : Int32) F80 G80 hI80 (show 0 ≤ (F80 10).toInt by omega) (show (22 : Int32).toInt ≠ -2 by omega)) ?_
            rintro r113 F113 G113 ⟨hI113, hB113, hT113, hS113, hp113⟩
            dsimp only
            have q_114 := hI113.r 10 rfl
            have e_115 : (F113 10).toInt = (F80 10).toInt - 1 := hp113
            unfold cb_X4_formal_133
            refine WP.ite (fun c_116 => ?_) (fun c_116 => ?_)
            · skip
              have q_117 := hI113.r 45 rfl
              have e_118 := i_eq.mp (show (F113 45) = (0 : Int32) from c_116)
              unfold cb_X4_formal_143
              have l_119 : (3 : Int32).toInt = 3 := rfl
              refine WP.bind (cs_X8_addFormal hfu (3 : Int32) F113 G113 hI113) ?_
              rintro r120 F120 G120 ⟨hI120, hB120, hT120, hO120, hK120, hp120⟩
              dsimp only
              have q_121 := hI120.r 10 rfl
              have e_122 : (F120 10).toInt = (F113 10).toInt := hO120
              unfold cb_X4_formal_152
              refine WP.ret ?_
              exact ⟨hI120, (KB.tr (KB.tr (KB.tr (KB.tr (KB.tr (KB.rf : KB F G F G) hB9) hB14) hB80) hB113) hB120), (KT.tr (KT.tr (KT.tr (KT.tr (KT.tr (rfl : KT F F) hT9) hT14) hT80) hT113) hT120), (show (F120 10).toInt = (F 10).toInt by omega), trivial⟩
            · skip
              have q_123 := hI113.r 45 rfl
              have e_124 := mt i_eq.mpr (show ¬ ((F113 45) = (0 : Int32)) from c_116)
              unfold cb_X4_formal_153
              have q_125 := i_rng (F9 12)
              have q_126 := i_rng (F9 13)
              have l_127 : (3 : Int32).toInt = 3 := rfl
              refine WP.bind (cs_X5_tellFormal hfu (F9 12) (F9 13) (3 : Int32) F113 G113 hI113) ?_
              rintro r128 F128 G128 ⟨hI128, hB128, hT128, hO128, hK128, hp128⟩
              dsimp only
              have q_129 := hI128.r 10 rfl
              have e_130 : (F128 10).toInt = (F113 10).toInt := hO128
              unfold cb_X4_formal_166
              refine WP.ite (fun c_131 => ?_) (fun c_131 => ?_)
              · skip
                have q_132 := i_rng x1
                have e_133 := i_lt.mp (show x1 < (4 : Int32) from c_131)
                unfold cb_X4_formal_182
                refine WP.ret ?_
                exact ⟨hI128, (KB.tr (KB.tr (KB.tr (KB.tr (KB.tr (KB.rf : KB F G F G) hB9) hB14) hB80) hB113) hB128), (KT.tr (KT.tr (KT.tr (KT.tr (KT.tr (rfl : KT F F) hT9) hT14) hT80) hT113) hT128), (show (F128 10).toInt = (F 10).toInt by omega), trivial⟩
              · skip
                have q_134 := i_rng x1
                have e_135 := mt i_lt.mpr (show ¬ (x1 < (4 : Int32)) from c_131)
                unfold cb_X4_formal_171
                have l_136 : (8 : Int32).toInt = 8 := rfl
                refine WP.bind (cs_X5_note hfu (8 : Int32) (F9 13) F128 G128 hI128) ?_
                rintro r137 F137 G137 ⟨hI137, hB137, hT137, hO137, hK137, hp137⟩
                dsimp only
                have q_138 := hI137.r 10 rfl
                have e_139 : (F137 10).toInt = (F128 10).toInt := hO137
                unfold cb_X4_formal_182
                refine WP.ret ?_
                exact ⟨hI137, (KB.tr (KB.tr (KB.tr (KB.tr (KB.tr (KB.tr (KB.rf : KB F G F G) hB9) hB14) hB80) hB113) hB128) hB137), (KT.tr (KT.tr (KT.tr (KT.tr (KT.tr (KT.tr (rfl : KT F F) hT9) hT14) hT80) hT113) hT128) hT137), (show (F137 10).toInt = (F 10).toInt by omega), trivial⟩
      · skip
        have q_140 := i_rng (F14 11)
        have l_141 : (21 : Int32).toInt = 21 := rfl
        have e_142 := mt i_eq.mpr (show ¬ ((F14 11) = (21 : Int32)) from c_17)
        unfold cb_X4_formal_95
        refine WP.ite (fun c_143 => ?_) (fun c_143 => ?_)
        · skip
          have l_144 : (5 : Int32).toInt = 5 := rfl
          have e_145 := i_eq.mp (show (F 11) = (5 : Int32) from c_143)
          unfold cb_X4_formal_100
          refine WP.ite (fun c_146 => ?_) (fun c_146 => ?_)
          · skip
            have e_147 := i_eq.mp (show (F 11) = (4 : Int32) from c_146)
            unfold cb_X4_formal_105
            unfold cb_X4_formal_110
            refine WP.bind (cs_X2_opens hfu (21 : Int32) F14 G14 hI14 (show (21 : Int32).toInt ≠ -2 by omega)) ?_
            rintro r148 F148 G148 ⟨hI148, hB148, hT148, hS148, hp148⟩
            dsimp only
            have q_149 := b_rng (hp148.1)
            have q_150 := hI148.r 10 rfl
            have e_151 : r148.toInt = 1 → (F148 10).toInt = (F14 10).toInt + 1 ∧ (F14 10).toInt < 40 ∧ (F14 11).toInt ≠ -2 := hp148.2.1
            have e_152 : r148.toInt = 0 → (F148 10).toInt = (F14 10).toInt ∧ (F148 11).toInt = -2 := hp148.2.2
            unfold cb_X4_formal_121
            refine WP.ite (fun c_153 => ?_) (fun c_153 => ?_)
            · skip
              have e_154 := i_eq.mp (show r148 = (0 : Int32) from c_153)
              unfold cb_X4_formal_133
              refine WP.ite (fun c_155 => ?_) (fun c_155 => ?_)
              · skip
                have q_156 := hI148.r 45 rfl
                have e_157 := i_eq.mp (show (F148 45) = (0 : Int32) from c_155)
                unfold cb_X4_formal_143
                refine WP.bind (cs_X8_addFormal hfu (2 : Int32) F148 G148 hI148) ?_
                rintro r158 F158 G158 ⟨hI158, hB158, hT158, hO158, hK158, hp158⟩
                dsimp only
                have q_159 := hI158.r 10 rfl
                have e_160 : (F158 10).toInt = (F148 10).toInt := hO158
                unfold cb_X4_formal_152
                refine WP.ret ?_
                exact ⟨hI158, (KB.tr (KB.tr (KB.tr (KB.tr (KB.rf : KB F G F G) hB9) hB14) hB148) hB158), (KT.tr (KT.tr (KT.tr (KT.tr (rfl : KT F F) hT9) hT14) hT148) hT158), (show (F158 10).toInt = (F 10).toInt by omega), trivial⟩
              · skip
                have q_161 := hI148.r 45 rfl
                have e_162 := mt i_eq.mpr (show ¬ ((F148 45) = (0 : Int32)) from c_155)
                unfold cb_X4_formal_153
                have q_163 := i_rng (F9 12)
                have q_164 := i_rng (F9 13)
                refine WP.bind (cs_X5_tellFormal hfu (F9 12) (F9 13) (2 : Int32) F148 G148 hI148) ?_
                rintro r165 F165 G165 ⟨hI165, hB165, hT165, hO165, hK165, hp165⟩
                dsimp only
                have q_166 := hI165.r 10 rfl
                have e_167 : (F165 10).toInt = (F148 10).toInt := hO165
                unfold cb_X4_formal_166
                refine WP.ite (fun c_168 => ?_) (fun c_168 => ?_)
                · skip
                  have q_169 := i_rng x1
                  have e_170 := i_lt.mp (show x1 < (4 : Int32) from c_168)
                  unfold cb_X4_formal_182
                  refine WP.ret ?_
                  exact ⟨hI165, (KB.tr (KB.tr (KB.tr (KB.tr (KB.rf : KB F G F G) hB9) hB14) hB148) hB165), (KT.tr (KT.tr (KT.tr (KT.tr (rfl : KT F F) hT9) hT14) hT148) hT165), (show (F165 10).toInt = (F 10).toInt by omega), trivial⟩
                · skip
                  have q_171 := i_rng x1
                  have e_172 := mt i_lt.mpr (show ¬ (x1 < (4 : Int32)) from c_168)
                  unfold cb_X4_formal_171
                  have l_173 : (8 : Int32).toInt = 8 := rfl
                  refine WP.bind (cs_X5_note hfu (8 : Int32) (F9 13) F165 G165 hI165) ?_
                  rintro r174 F174 G174 ⟨hI174, hB174, hT174, hO174, hK174, hp174⟩
                  dsimp only
                  have q_175 := hI174.r 10 rfl
                  have e_176 : (F174 10).toInt = (F165 10).toInt := hO174
                  unfold cb_X4_formal_182
                  refine WP.ret ?_
                  exact ⟨hI174, (KB.tr (KB.tr (KB.tr (KB.tr (KB.tr (KB.rf : KB F G F G) hB9) hB14) hB148) hB165) hB174), (KT.tr (KT.tr (KT.tr (KT.tr (KT.tr (rfl : KT F F) hT9) hT14) hT148) hT165) hT174), (show (F174 10).toInt = (F 10).toInt by omega), trivial⟩
            · skip
              have e_177 := mt i_eq.mpr (show ¬ (r148 = (0 : Int32)) from c_153)
              unfold cb_X4_formal_124
              have l_178 : (22 : Int32).toInt = 22 := rfl
              refine WP.bind (cs_X2_closesWith hfu (22 : Int32) F148 G148 hI148 (show 0 ≤ (F148 10).toInt by omega) (show (22 : Int32).toInt ≠ -2 by omega)) ?_
              rintro r179 F179 G179 ⟨hI179, hB179, hT179, hS179, hp179⟩
              dsimp only
              have q_180 := hI179.r 10 rfl
              have e_181 : (F179 10).toInt = (F148 10).toInt - 1 := hp179
              unfold cb_X4_formal_133
              refine WP.ite (fun c_182 => ?_) (fun c_182 => ?_)
              · skip
                have q_183 := hI179.r 45 rfl
                have e_184 := i_eq.mp (show (F179 45) = (0 : Int32) from c_182)
                unfold cb_X4_formal_143
                refine WP.bind (cs_X8_addFormal hfu (2 : Int32) F179 G179 hI179) ?_
                rintro r185 F185 G185 ⟨hI185, hB185, hT185, hO185, hK185, hp185⟩
                dsimp only
                have q_186 := hI185.r 10 rfl
                have e_187 : (F185 10).toInt = (F179 10).toInt := hO185
                unfold cb_X4_formal_152
                refine WP.ret ?_
                exact ⟨hI185, (KB.tr (KB.tr (KB.tr (KB.tr (KB.tr (KB.rf : KB F G F G) hB9) hB14) hB148) hB179) hB185), (KT.tr (KT.tr (KT.tr (KT.tr (KT.tr (rfl : KT F F) hT9) hT14) hT148) hT179) hT185), (show (F185 10).toInt = (F 10).toInt by omega), trivial⟩
              · skip
                have q_188 := hI179.r 45 rfl
                have e_189 := mt i_eq.mpr (show ¬ ((F179 45) = (0 : Int32)) from c_182)
                unfold cb_X4_formal_153
                have q_190 := i_rng (F9 12)
                have q_191 := i_rng (F9 13)
                refine WP.bind (cs_X5_tellFormal hfu (F9 12) (F9 13) (2 : Int32) F179 G179 hI179) ?_
                rintro r192 F192 G192 ⟨hI192, hB192, hT192, hO192, hK192, hp192⟩
                dsimp only
                have q_193 := hI192.r 10 rfl
                have e_194 : (F192 10).toInt = (F179 10).toInt := hO192
                unfold cb_X4_formal_166
                refine WP.ite (fun c_195 => ?_) (fun c_195 => ?_)
                · skip
                  have q_196 := i_rng x1
                  have e_197 := i_lt.mp (show x1 < (4 : Int32) from c_195)
                  unfold cb_X4_formal_182
                  refine WP.ret ?_
                  exact ⟨hI192, (KB.tr (KB.tr (KB.tr (KB.tr (KB.tr (KB.rf : KB F G F G) hB9) hB14) hB148) hB179) hB192), (KT.tr (KT.tr (KT.tr (KT.tr (KT.tr (rfl : KT F F) hT9) hT14) hT148) hT179) hT192), (show (F192 10).toInt = (F 10).toInt by omega), trivial⟩
                · skip
                  have q_198 := i_rng x1
                  have e_199 := mt i_lt.mpr (show ¬ (x1 < (4 : Int32)) from c_195)
                  unfold cb_X4_formal_171
                  have l_200 : (8 : Int32).toInt = 8 := rfl
                  refine WP.bind (cs_X5_note hfu (8 : Int32) (F9 13) F192 G192 hI192) ?_
                  rintro r201 F201 G201 ⟨hI201, hB201, hT201, hO201, hK201, hp201⟩
                  dsimp only
                  have q_202 := hI201.r 10 rfl
                  have e_203 : (F201 10).toInt = (F192 10).toInt := hO201
                  unfold cb_X4_formal_182
                  refine WP.ret ?_
                  exact ⟨hI201, (KB.tr (KB.tr (KB.tr (KB.tr (KB.tr (KB.tr (KB.rf : KB F G F G) hB9) hB14) hB148) hB179) hB192) hB201), (KT.tr (KT.tr (KT.tr (KT.tr (KT.tr (KT.tr (rfl : KT F F) hT9) hT14) hT148) hT179) hT192) hT201), (show (F201 10).toInt = (F 10).toInt by omega), trivial⟩
          · skip
            have e_204 := mt i_eq.mpr (show ¬ ((F 11) = (4 : Int32)) from c_146)
            unfold cb_X4_formal_109
            unfold cb_X4_formal_110
            refine WP.bind (cs_X2_opens hfu (21 : Int32) F14 G14 hI14 (show (21 : Int32).toInt ≠ -2 by omega)) ?_
            rintro r205 F205 G205 ⟨hI205, hB205, hT205, hS205, hp205⟩
            dsimp only
            have q_206 := b_rng (hp205.1)
            have q_207 := hI205.r 10 rfl
            have e_208 : r205.toInt = 1 → (F205 10).toInt = (F14 10).toInt + 1 ∧ (F14 10).toInt < 40 ∧ (F14 11).toInt ≠ -2 := hp205.2.1
            have e_209 : r205.toInt = 0 → (F205 10).toInt = (F14 10).toInt ∧ (F205 11).toInt = -2 := hp205.2.2
            unfold cb_X4_formal_121
            refine WP.ite (fun c_210 => ?_) (fun c_210 => ?_)
            · skip
              have e_211 := i_eq.mp (show r205 = (0 : Int32) from c_210)
              unfold cb_X4_formal_133
              refine WP.ite (fun c_212 => ?_) (fun c_212 => ?_)
              · skip
                have q_213 := hI205.r 45 rfl
                have e_214 := i_eq.mp (show (F205 45) = (0 : Int32) from c_212)
                unfold cb_X4_formal_143
                have l_215 : (3 : Int32).toInt = 3 := rfl
                refine WP.bind (cs_X8_addFormal hfu (3 : Int32) F205 G205 hI205) ?_
                rintro r216 F216 G216 ⟨hI216, hB216, hT216, hO216, hK216, hp216⟩
                dsimp only
                have q_217 := hI216.r 10 rfl
                have e_218 : (F216 10).toInt = (F205 10).toInt := hO216
                unfold cb_X4_formal_152
                refine WP.ret ?_
                exact ⟨hI216, (KB.tr (KB.tr (KB.tr (KB.tr (KB.rf : KB F G F G) hB9) hB14) hB205) hB216), (KT.tr (KT.tr (KT.tr (KT.tr (rfl : KT F F) hT9) hT14) hT205) hT216), (show (F216 10).toInt = (F 10).toInt by omega), trivial⟩
              · skip
                have q_219 := hI205.r 45 rfl
                have e_220 := mt i_eq.mpr (show ¬ ((F205 45) = (0 : Int32)) from c_212)
                unfold cb_X4_formal_153
                have q_221 := i_rng (F9 12)
                have q_222 := i_rng (F9 13)
                have l_223 : (3 : Int32).toInt = 3 := rfl
                refine WP.bind (cs_X5_tellFormal hfu (F9 12) (F9 13) (3 : Int32) F205 G205 hI205) ?_
                rintro r224 F224 G224 ⟨hI224, hB224, hT224, hO224, hK224, hp224⟩
                dsimp only
                have q_225 := hI224.r 10 rfl
                have e_226 : (F224 10).toInt = (F205 10).toInt := hO224
                unfold cb_X4_formal_166
                refine WP.ite (fun c_227 => ?_) (fun c_227 => ?_)
                · skip
                  have q_228 := i_rng x1
                  have e_229 := i_lt.mp (show x1 < (4 : Int32) from c_227)
                  unfold cb_X4_formal_182
                  refine WP.ret ?_
                  exact ⟨hI224, (KB.tr (KB.tr (KB.tr (KB.tr (KB.rf : KB F G F G) hB9) hB14) hB205) hB224), (KT.tr (KT.tr (KT.tr (KT.tr (rfl : KT F F) hT9) hT14) hT205) hT224), (show (F224 10).toInt = (F 10).toInt by omega), trivial⟩
                · skip
                  have q_230 := i_rng x1
                  have e_231 := mt i_lt.mpr (show ¬ (x1 < (4 : Int32)) from c_227)
                  unfold cb_X4_formal_171
                  have l_232 : (8 : Int32).toInt = 8 := rfl
                  refine WP.bind (cs_X5_note hfu (8 : Int32) (F9 13) F224 G224 hI224) ?_
                  rintro r233 F233 G233 ⟨hI233, hB233, hT233, hO233, hK233, hp233⟩
                  dsimp only
                  have q_234 := hI233.r 10 rfl
                  have e_235 : (F233 10).toInt = (F224 10).toInt := hO233
                  unfold cb_X4_formal_182
                  refine WP.ret ?_
                  exact ⟨hI233, (KB.tr (KB.tr (KB.tr (KB.tr (KB.tr (KB.rf : KB F G F G) hB9) hB14) hB205) hB224) hB233), (KT.tr (KT.tr (KT.tr (KT.tr (KT.tr (rfl : KT F F) hT9) hT14) hT205) hT224) hT233), (show (F233 10).toInt = (F 10).toInt by omega), trivial⟩
            · skip
              have e_236 := mt i_eq.mpr (show ¬ (r205 = (0 : Int32)) from c_210)
              unfold cb_X4_formal_124
              have l_237 : (22 : Int32).toInt = 22 := rfl
              refine WP.bind (cs_X2_closesWith hfu (22 : Int32) F205 G205 hI205 (show 0 ≤ (F205 10).toInt by omega) (show (22 : Int32).toInt ≠ -2 by omega)) ?_
              rintro r238 F238 G238 ⟨hI238, hB238, hT238, hS238, hp238⟩
              dsimp only
              have q_239 := hI238.r 10 rfl
              have e_240 : (F238 10).toInt = (F205 10).toInt - 1 := hp238
              unfold cb_X4_formal_133
              refine WP.ite (fun c_241 => ?_) (fun c_241 => ?_)
              · skip
                have q_242 := hI238.r 45 rfl
                have e_243 := i_eq.mp (show (F238 45) = (0 : Int32) from c_241)
                unfold cb_X4_formal_143
                have l_244 : (3 : Int32).toInt = 3 := rfl
                refine WP.bind (cs_X8_addFormal hfu (3 : Int32) F238 G238 hI238) ?_
                rintro r245 F245 G245 ⟨hI245, hB245, hT245, hO245, hK245, hp245⟩
                dsimp only
                have q_246 := hI245.r 10 rfl
                have e_247 : (F245 10).toInt = (F238 10).toInt := hO245
                unfold cb_X4_formal_152
                refine WP.ret ?_
                exact ⟨hI245, (KB.tr (KB.tr (KB.tr (KB.tr (KB.tr (KB.rf : KB F G F G) hB9) hB14) hB205) hB238) hB245), (KT.tr (KT.tr (KT.tr (KT.tr (KT.tr (rfl : KT F F) hT9) hT14) hT205) hT238) hT245), (show (F245 10).toInt = (F 10).toInt by omega), trivial⟩
              · skip
                have q_248 := hI238.r 45 rfl
                have e_249 := mt i_eq.mpr (show ¬ ((F238 45) = (0 : Int32)) from c_241)
                unfold cb_X4_formal_153
                have q_250 := i_rng (F9 12)
                have q_251 := i_rng (F9 13)
                have l_252 : (3 : Int32).toInt = 3 := rfl
                refine WP.bind (cs_X5_tellFormal hfu (F9 12) (F9 13) (3 : Int32) F238 G238 hI238) ?_
                rintro r253 F253 G253 ⟨hI253, hB253, hT253, hO253, hK253, hp253⟩
                dsimp only
                have q_254 := hI253.r 10 rfl
                have e_255 : (F253 10).toInt = (F238 10).toInt := hO253
                unfold cb_X4_formal_166
                refine WP.ite (fun c_256 => ?_) (fun c_256 => ?_)
                · skip
                  have q_257 := i_rng x1
                  have e_258 := i_lt.mp (show x1 < (4 : Int32) from c_256)
                  unfold cb_X4_formal_182
                  refine WP.ret ?_
                  exact ⟨hI253, (KB.tr (KB.tr (KB.tr (KB.tr (KB.tr (KB.rf : KB F G F G) hB9) hB14) hB205) hB238) hB253), (KT.tr (KT.tr (KT.tr (KT.tr (KT.tr (rfl : KT F F) hT9) hT14) hT205) hT238) hT253), (show (F253 10).toInt = (F 10).toInt by omega), trivial⟩
                · skip
                  have q_259 := i_rng x1
                  have e_260 := mt i_lt.mpr (show ¬ (x1 < (4 : Int32)) from c_256)
                  unfold cb_X4_formal_171
                  have l_261 : (8 : Int32).toInt = 8 := rfl
                  refine WP.bind (cs_X5_note hfu (8 : Int32) (F9 13) F253 G253 hI253) ?_
                  rintro r262 F262 G262 ⟨hI262, hB262, hT262, hO262, hK262, hp262⟩
                  dsimp only
                  have q_263 := hI262.r 10 rfl
                  have e_264 : (F262 10).toInt = (F253 10).toInt := hO262
                  unfold cb_X4_formal_182
                  refine WP.ret ?_
                  exact ⟨hI262, (KB.tr (KB.tr (KB.tr (KB.tr (KB.tr (KB.tr (KB.rf : KB F G F G) hB9) hB14) hB205) hB238) hB253) hB262), (KT.tr (KT.tr (KT.tr (KT.tr (KT.tr (KT.tr (rfl : KT F F) hT9) hT14) hT205) hT238) hT253) hT262), (show (F262 10).toInt = (F 10).toInt by omega), trivial⟩
        · skip
          have l_265 : (5 : Int32).toInt = 5 := rfl
          have e_266 := mt i_eq.mpr (show ¬ ((F 11) = (5 : Int32)) from c_143)
          unfold cb_X4_formal_133
          refine WP.ite (fun c_267 => ?_) (fun c_267 => ?_)
          · skip
            have q_268 := hI14.r 45 rfl
            have e_269 := i_eq.mp (show (F14 45) = (0 : Int32) from c_267)
            unfold cb_X4_formal_143
            have l_270 : (1 : Int32).toInt = 1 := rfl
            refine WP.bind (cs_X8_addFormal hfu (1 : Int32) F14 G14 hI14) ?_
            rintro r271 F271 G271 ⟨hI271, hB271, hT271, hO271, hK271, hp271⟩
            dsimp only
            have q_272 := hI271.r 10 rfl
            have e_273 : (F271 10).toInt = (F14 10).toInt := hO271
            unfold cb_X4_formal_152
            refine WP.ret ?_
            exact ⟨hI271, (KB.tr (KB.tr (KB.tr (KB.rf : KB F G F G) hB9) hB14) hB271), (KT.tr (KT.tr (KT.tr (rfl : KT F F) hT9) hT14) hT271), (KO.tr (KO.tr (KO.tr (rfl : KO F F) hO9) hO14) hO271), trivial⟩
          · skip
            have q_274 := hI14.r 45 rfl
            have e_275 := mt i_eq.mpr (show ¬ ((F14 45) = (0 : Int32)) from c_267)
            unfold cb_X4_formal_153
            have q_276 := i_rng (F9 12)
            have q_277 := i_rng (F9 13)
            have l_278 : (1 : Int32).toInt = 1 := rfl
            refine WP.bind (cs_X5_tellFormal hfu (F9 12) (F9 13) (1 : Int32) F14 G14 hI14) ?_
            rintro r279 F279 G279 ⟨hI279, hB279, hT279, hO279, hK279, hp279⟩
            dsimp only
            have q_280 := hI279.r 10 rfl
            have e_281 : (F279 10).toInt = (F14 10).toInt := hO279
            unfold cb_X4_formal_166
            refine WP.ite (fun c_282 => ?_) (fun c_282 => ?_)
            · skip
              have q_283 := i_rng x1
              have e_284 := i_lt.mp (show x1 < (4 : Int32) from c_282)
              unfold cb_X4_formal_182
              refine WP.ret ?_
              exact ⟨hI279, (KB.tr (KB.tr (KB.tr (KB.rf : KB F G F G) hB9) hB14) hB279), (KT.tr (KT.tr (KT.tr (rfl : KT F F) hT9) hT14) hT279), (KO.tr (KO.tr (KO.tr (rfl : KO F F) hO9) hO14) hO279), trivial⟩
            · skip
              have q_285 := i_rng x1
              have e_286 := mt i_lt.mpr (show ¬ (x1 < (4 : Int32)) from c_282)
              unfold cb_X4_formal_171
              have l_287 : (8 : Int32).toInt = 8 := rfl
              refine WP.bind (cs_X5_note hfu (8 : Int32) (F9 13) F279 G279 hI279) ?_
              rintro r288 F288 G288 ⟨hI288, hB288, hT288, hO288, hK288, hp288⟩
              dsimp only
              have q_289 := hI288.r 10 rfl
              have e_290 : (F288 10).toInt = (F279 10).toInt := hO288
              unfold cb_X4_formal_182
              refine WP.ret ?_
              exact ⟨hI288, (KB.tr (KB.tr (KB.tr (KB.tr (KB.rf : KB F G F G) hB9) hB14) hB279) hB288), (KT.tr (KT.tr (KT.tr (KT.tr (rfl : KT F F) hT9) hT14) hT279) hT288), (KO.tr (KO.tr (KO.tr (KO.tr (rfl : KO F F) hO9) hO14) hO279) hO288), trivial⟩
    · skip
      have q_291 := i_rng x2
      have l_292 : (0 : Int32).toInt = 0 := rfl
      have e_293 := mt i_eq.mpr (show ¬ (x2 = (0 : Int32)) from c_5)
      unfold cb_X4_formal_31
      have l_294 : (9 : Int32).toInt = 9 := rfl
      have q_295 := i_rng (F 13)
      refine WP.bind (cs_X5_note hfu (9 : Int32) (F 13) F G hI) ?_
      rintro r296 F296 G296 ⟨hI296, hB296, hT296, hO296, hK296, hp296⟩
      dsimp only
      have q_297 := hI.r 10 rfl
      have q_298 := hI296.r 10 rfl
      have e_299 : (F296 10).toInt = (F 10).toInt := hO296
      unfold cb_X4_formal_47
      refine WP.bind (cs_X2_next hfu F296 G296 hI296) ?_
      rintro r300 F300 G300 ⟨hI300, hB300, hT300, hO300, hp300⟩
      dsimp only
      have q_301 := hI300.r 10 rfl
      have e_302 : (F300 10).toInt = (F296 10).toInt := hO300
      unfold cb_X4_formal_54
      have l_303 : (2 : Int32).toInt = 2 := rfl
      refine WP.bind (cs_X2_expect hfu (2 : Int32) F300 G300 hI300 (show (2 : Int32).toInt ≠ -2 by omega)) ?_
      rintro r304 F304 G304 ⟨hI304, hB304, hT304, hO304, hS304, hp304⟩
      dsimp only
      have q_305 := hI304.r 10 rfl
      have e_306 : (F304 10).toInt = (F300 10).toInt := hO304
      unfold cb_X4_formal_80
      refine WP.ite (fun c_307 => ?_) (fun c_307 => ?_)
      · skip
        have q_308 := i_rng (F304 11)
        have l_309 : (21 : Int32).toInt = 21 := rfl
        have e_310 := i_eq.mp (show (F304 11) = (21 : Int32) from c_307)
        unfold cb_X4_formal_100
        refine WP.ite (fun c_311 => ?_) (fun c_311 => ?_)
        · skip
          have e_312 := i_eq.mp (show (F 11) = (4 : Int32) from c_311)
          unfold cb_X4_formal_105
          unfold cb_X4_formal_110
          refine WP.bind (cs_X2_opens hfu (21 : Int32) F304 G304 hI304 (show (21 : Int32).toInt ≠ -2 by omega)) ?_
          rintro r313 F313 G313 ⟨hI313, hB313, hT313, hS313, hp313⟩
          dsimp only
          have q_314 := b_rng (hp313.1)
          have q_315 := hI313.r 10 rfl
          have e_316 : r313.toInt = 1 → (F313 10).toInt = (F304 10).toInt + 1 ∧ (F304 10).toInt < 40 ∧ (F304 11).toInt ≠ -2 := hp313.2.1
          have e_317 : r313.toInt = 0 → (F313 10).toInt = (F304 10).toInt ∧ (F313 11).toInt = -2 := hp313.2.2
          unfold cb_X4_formal_121
          refine WP.ite (fun c_318 => ?_) (fun c_318 => ?_)
          · skip
            have e_319 := i_eq.mp (show r313 = (0 : Int32) from c_318)
            unfold cb_X4_formal_133
            refine WP.ite (fun c_320 => ?_) (fun c_320 => ?_)
            · skip
              have q_321 := hI313.r 45 rfl
              have e_322 := i_eq.mp (show (F313 45) = (0 : Int32) from c_320)
              unfold cb_X4_formal_143
              refine WP.bind (cs_X8_addFormal hfu (2 : Int32) F313 G313 hI313) ?_
              rintro r323 F323 G323 ⟨hI323, hB323, hT323, hO323, hK323, hp323⟩
              dsimp only
              have q_324 := hI323.r 10 rfl
              have e_325 : (F323 10).toInt = (F313 10).toInt := hO323
              unfold cb_X4_formal_152
              refine WP.ret ?_
              exact ⟨hI323, (KB.tr (KB.tr (KB.tr (KB.tr (KB.tr (KB.rf : KB F G F G) hB296) hB300) hB304) hB313) hB323), (KT.tr (KT.tr (KT.tr (KT.tr (KT.tr (rfl : KT F F) hT296) hT300) hT304) hT313) hT323), (show (F323 10).toInt = (F 10).toInt by omega), trivial⟩
            · skip
              have q_326 := hI313.r 45 rfl
              have e_327 := mt i_eq.mpr (show ¬ ((F313 45) = (0 : Int32)) from c_320)
              unfold cb_X4_formal_153
              have q_328 := i_rng (F300 12)
              have q_329 := i_rng (F300 13)
              refine WP.bind (cs_X5_tellFormal hfu (F300 12) (F300 13) (2 : Int32) F313 G313 hI313) ?_
              rintro r330 F330 G330 ⟨hI330, hB330, hT330, hO330, hK330, hp330⟩
              dsimp only
              have q_331 := hI330.r 10 rfl
              have e_332 : (F330 10).toInt = (F313 10).toInt := hO330
              unfold cb_X4_formal_166
              refine WP.ite (fun c_333 => ?_) (fun c_333 => ?_)
              · skip
                have q_334 := i_rng x1
                have e_335 := i_lt.mp (show x1 < (4 : Int32) from c_333)
                unfold cb_X4_formal_182
                refine WP.ret ?_
                exact ⟨hI330, (KB.tr (KB.tr (KB.tr (KB.tr (KB.tr (KB.rf : KB F G F G) hB296) hB300) hB304) hB313) hB330), (KT.tr (KT.tr (KT.tr (KT.tr (KT.tr (rfl : KT F F) hT296) hT300) hT304) hT313) hT330), (show (F330 10).toInt = (F 10).toInt by omega), trivial⟩
              · skip
                have q_336 := i_rng x1
                have e_337 := mt i_lt.mpr (show ¬ (x1 < (4 : Int32)) from c_333)
                unfold cb_X4_formal_171
                have l_338 : (8 : Int32).toInt = 8 := rfl
                refine WP.bind (cs_X5_note hfu (8 : Int32) (F300 13) F330 G330 hI330) ?_
                rintro r339 F339 G339 ⟨hI339, hB339, hT339, hO339, hK339, hp339⟩
                dsimp only
                have q_340 := hI339.r 10 rfl
                have e_341 : (F339 10).toInt = (F330 10).toInt := hO339
                unfold cb_X4_formal_182
                refine WP.ret ?_
                exact ⟨hI339, (KB.tr (KB.tr (KB.tr (KB.tr (KB.tr (KB.tr (KB.rf : KB F G F G) hB296) hB300) hB304) hB313) hB330) hB339), (KT.tr (KT.tr (KT.tr (KT.tr (KT.tr (KT.tr (rfl : KT F F) hT296) hT300) hT304) hT313) hT330) hT339), (show (F339 10).toInt = (F 10).toInt by omega), trivial⟩
          · skip
            have e_342 := mt i_eq.mpr (show ¬ (r313 = (0 : Int32)) from c_318)
            unfold cb_X4_formal_124
            have l_343 : (22 : Int32).toInt = 22 := rfl
            refine WP.bind (cs_X2_closesWith hfu (22 : Int32) F313 G313 hI313 (show 0 ≤ (F313 10).toInt by omega) (show (22 : Int32).toInt ≠ -2 by omega)) ?_
            rintro r344 F344 G344 ⟨hI344, hB344, hT344, hS344, hp344⟩
            dsimp only
            have q_345 := hI344.r 10 rfl
            have e_346 : (F344 10).toInt = (F313 10).toInt - 1 := hp344
            unfold cb_X4_formal_133
            refine WP.ite (fun c_347 => ?_) (fun c_347 => ?_)
            · skip
              have q_348 := hI344.r 45 rfl
              have e_349 := i_eq.mp (show (F344 45) = (0 : Int32) from c_347)
              unfold cb_X4_formal_143
              refine WP.bind (cs_X8_addFormal hfu (2 : Int32) F344 G344 hI344) ?_
              rintro r350 F350 G350 ⟨hI350, hB350, hT350, hO350, hK350, hp350⟩
              dsimp only
              have q_351 := hI350.r 10 rfl
              have e_352 : (F350 10).toInt = (F344 10).toInt := hO350
              unfold cb_X4_formal_152
              refine WP.ret ?_
              exact ⟨hI350, (KB.tr (KB.tr (KB.tr (KB.tr (KB.tr (KB.tr (KB.rf : KB F G F G) hB296) hB300) hB304) hB313) hB344) hB350), (KT.tr (KT.tr (KT.tr (KT.tr (KT.tr (KT.tr (rfl : KT F F) hT296) hT300) hT304) hT313) hT344) hT350), (show (F350 10).toInt = (F 10).toInt by omega), trivial⟩
            · skip
              have q_353 := hI344.r 45 rfl
              have e_354 := mt i_eq.mpr (show ¬ ((F344 45) = (0 : Int32)) from c_347)
              unfold cb_X4_formal_153
              have q_355 := i_rng (F300 12)
              have q_356 := i_rng (F300 13)
              refine WP.bind (cs_X5_tellFormal hfu (F300 12) (F300 13) (2 : Int32) F344 G344 hI344) ?_
              rintro r357 F357 G357 ⟨hI357, hB357, hT357, hO357, hK357, hp357⟩
              dsimp only
              have q_358 := hI357.r 10 rfl
              have e_359 : (F357 10).toInt = (F344 10).toInt := hO357
              unfold cb_X4_formal_166
              refine WP.ite (fun c_360 => ?_) (fun c_360 => ?_)
              · skip
                have q_361 := i_rng x1
                have e_362 := i_lt.mp (show x1 < (4 : Int32) from c_360)
                unfold cb_X4_formal_182
                refine WP.ret ?_
                exact ⟨hI357, (KB.tr (KB.tr (KB.tr (KB.tr (KB.tr (KB.tr (KB.rf : KB F G F G) hB296) hB300) hB304) hB313) hB344) hB357), (KT.tr (KT.tr (KT.tr (KT.tr (KT.tr (KT.tr (rfl : KT F F) hT296) hT300) hT304) hT313) hT344) hT357), (show (F357 10).toInt = (F 10).toInt by omega), trivial⟩
              · skip
                have q_363 := i_rng x1
                have e_364 := mt i_lt.mpr (show ¬ (x1 < (4 : Int32)) from c_360)
                unfold cb_X4_formal_171
                have l_365 : (8 : Int32).toInt = 8 := rfl
                refine WP.bind (cs_X5_note hfu (8 : Int32) (F300 13) F357 G357 hI357) ?_
                rintro r366 F366 G366 ⟨hI366, hB366, hT366, hO366, hK366, hp366⟩
                dsimp only
                have q_367 := hI366.r 10 rfl
                have e_368 : (F366 10).toInt = (F357 10).toInt := hO366
                unfold cb_X4_formal_182
                refine WP.ret ?_
                exact ⟨hI366, (KB.tr (KB.tr (KB.tr (KB.tr (KB.tr (KB.tr (KB.tr (KB.rf : KB F G F G) hB296) hB300) hB304) hB313) hB344) hB357) hB366), (KT.tr (KT.tr (KT.tr (KT.tr (KT.tr (KT.tr (KT.tr (rfl : KT F F) hT296) hT300) hT304) hT313) hT344) hT357) hT366), (show (F366 10).toInt = (F 10).toInt by omega), trivial⟩
        · skip
          have e_369 := mt i_eq.mpr (show ¬ ((F 11) = (4 : Int32)) from c_311)
          unfold cb_X4_formal_109
          unfold cb_X4_formal_110
          refine WP.bind (cs_X2_opens hfu (21 : Int32) F304 G304 hI304 (show (21 : Int32).toInt ≠ -2 by omega)) ?_
          rintro r370 F370 G370 ⟨hI370, hB370, hT370, hS370, hp370⟩
          dsimp only
          have q_371 := b_rng (hp370.1)
          have q_372 := hI370.r 10 rfl
          have e_373 : r370.toInt = 1 → (F370 10).toInt = (F304 10).toInt + 1 ∧ (F304 10).toInt < 40 ∧ (F304 11).toInt ≠ -2 := hp370.2.1
          have e_374 : r370.toInt = 0 → (F370 10).toInt = (F304 10).toInt ∧ (F370 11).toInt = -2 := hp370.2.2
          unfold cb_X4_formal_121
          refine WP.ite (fun c_375 => ?_) (fun c_375 => ?_)
          · skip
            have e_376 := i_eq.mp (show r370 = (0 : Int32) from c_375)
            unfold cb_X4_formal_133
            refine WP.ite (fun c_377 => ?_) (fun c_377 => ?_)
            · skip
              have q_378 := hI370.r 45 rfl
              have e_379 := i_eq.mp (show (F370 45) = (0 : Int32) from c_377)
              unfold cb_X4_formal_143
              have l_380 : (3 : Int32).toInt = 3 := rfl
              refine WP.bind (cs_X8_addFormal hfu (3 : Int32) F370 G370 hI370) ?_
              rintro r381 F381 G381 ⟨hI381, hB381, hT381, hO381, hK381, hp381⟩
              dsimp only
              have q_382 := hI381.r 10 rfl
              have e_383 : (F381 10).toInt = (F370 10).toInt := hO381
              unfold cb_X4_formal_152
              refine WP.ret ?_
              exact ⟨hI381, (KB.tr (KB.tr (KB.tr (KB.tr (KB.tr (KB.rf : KB F G F G) hB296) hB300) hB304) hB370) hB381), (KT.tr (KT.tr (KT.tr (KT.tr (KT.tr (rfl : KT F F) hT296) hT300) hT304) hT370) hT381), (show (F381 10).toInt = (F 10).toInt by omega), trivial⟩
            · skip
              have q_384 := hI370.r 45 rfl
              have e_385 := mt i_eq.mpr (show ¬ ((F370 45) = (0 : Int32)) from c_377)
              unfold cb_X4_formal_153
              have q_386 := i_rng (F300 12)
              have q_387 := i_rng (F300 13)
              have l_388 : (3 : Int32).toInt = 3 := rfl
              refine WP.bind (cs_X5_tellFormal hfu (F300 12) (F300 13) (3 : Int32) F370 G370 hI370) ?_
              rintro r389 F389 G389 ⟨hI389, hB389, hT389, hO389, hK389, hp389⟩
              dsimp only
              have q_390 := hI389.r 10 rfl
              have e_391 : (F389 10).toInt = (F370 10).toInt := hO389
              unfold cb_X4_formal_166
              refine WP.ite (fun c_392 => ?_) (fun c_392 => ?_)
              · skip
                have q_393 := i_rng x1
                have e_394 := i_lt.mp (show x1 < (4 : Int32) from c_392)
                unfold cb_X4_formal_182
                refine WP.ret ?_
                exact ⟨hI389, (KB.tr (KB.tr (KB.tr (KB.tr (KB.tr (KB.rf : KB F G F G) hB296) hB300) hB304) hB370) hB389), (KT.tr (KT.tr (KT.tr (KT.tr (KT.tr (rfl : KT F F) hT296) hT300) hT304) hT370) hT389), (show (F389 10).toInt = (F 10).toInt by omega), trivial⟩
              · skip
                have q_395 := i_rng x1
                have e_396 := mt i_lt.mpr (show ¬ (x1 < (4 : Int32)) from c_392)
                unfold cb_X4_formal_171
                have l_397 : (8 : Int32).toInt = 8 := rfl
                refine WP.bind (cs_X5_note hfu (8 : Int32) (F300 13) F389 G389 hI389) ?_
                rintro r398 F398 G398 ⟨hI398, hB398, hT398, hO398, hK398, hp398⟩
                dsimp only
                have q_399 := hI398.r 10 rfl
                have e_400 : (F398 10).toInt = (F389 10).toInt := hO398
                unfold cb_X4_formal_182
                refine WP.ret ?_
                exact ⟨hI398, (KB.tr (KB.tr (KB.tr (KB.tr (KB.tr (KB.tr (KB.rf : KB F G F G) hB296) hB300) hB304) hB370) hB389) hB398), (KT.tr (KT.tr (KT.tr (KT.tr (KT.tr (KT.tr (rfl : KT F F) hT296) hT300) hT304) hT370) hT389) hT398), (show (F398 10).toInt = (F 10).toInt by omega), trivial⟩
          · skip
            have e_401 := mt i_eq.mpr (show ¬ (r370 = (0 : Int32)) from c_375)
            unfold cb_X4_formal_124
            have l_402 : (22 : Int32).toInt = 22 := rfl
            refine WP.bind (cs_X2_closesWith hfu (22 : Int32) F370 G370 hI370 (show 0 ≤ (F370 10).toInt by omega) (show (22 : Int32).toInt ≠ -2 by omega)) ?_
            rintro r403 F403 G403 ⟨hI403, hB403, hT403, hS403, hp403⟩
            dsimp only
            have q_404 := hI403.r 10 rfl
            have e_405 : (F403 10).toInt = (F370 10).toInt - 1 := hp403
            unfold cb_X4_formal_133
            refine WP.ite (fun c_406 => ?_) (fun c_406 => ?_)
            · skip
              have q_407 := hI403.r 45 rfl
              have e_408 := i_eq.mp (show (F403 45) = (0 : Int32) from c_406)
              unfold cb_X4_formal_143
              have l_409 : (3 : Int32).toInt = 3 := rfl
              refine WP.bind (cs_X8_addFormal hfu (3 : Int32) F403 G403 hI403) ?_
              rintro r410 F410 G410 ⟨hI410, hB410, hT410, hO410, hK410, hp410⟩
              dsimp only
              have q_411 := hI410.r 10 rfl
              have e_412 : (F410 10).toInt = (F403 10).toInt := hO410
              unfold cb_X4_formal_152
              refine WP.ret ?_
              exact ⟨hI410, (KB.tr (KB.tr (KB.tr (KB.tr (KB.tr (KB.tr (KB.rf : KB F G F G) hB296) hB300) hB304) hB370) hB403) hB410), (KT.tr (KT.tr (KT.tr (KT.tr (KT.tr (KT.tr (rfl : KT F F) hT296) hT300) hT304) hT370) hT403) hT410), (show (F410 10).toInt = (F 10).toInt by omega), trivial⟩
            · skip
              have q_413 := hI403.r 45 rfl
              have e_414 := mt i_eq.mpr (show ¬ ((F403 45) = (0 : Int32)) from c_406)
              unfold cb_X4_formal_153
              have q_415 := i_rng (F300 12)
              have q_416 := i_rng (F300 13)
              have l_417 : (3 : Int32).toInt = 3 := rfl
              refine WP.bind (cs_X5_tellFormal hfu (F300 12) (F300 13) (3 : Int32) F403 G403 hI403) ?_
              rintro r418 F418 G418 ⟨hI418, hB418, hT418, hO418, hK418, hp418⟩
              dsimp only
              have q_419 := hI418.r 10 rfl
              have e_420 : (F418 10).toInt = (F403 10).toInt := hO418
              unfold cb_X4_formal_166
              refine WP.ite (fun c_421 => ?_) (fun c_421 => ?_)
              · skip
                have q_422 := i_rng x1
                have e_423 := i_lt.mp (show x1 < (4 : Int32) from c_421)
                unfold cb_X4_formal_182
                refine WP.ret ?_
                exact ⟨hI418, (KB.tr (KB.tr (KB.tr (KB.tr (KB.tr (KB.tr (KB.rf : KB F G F G) hB296) hB300) hB304) hB370) hB403) hB418), (KT.tr (KT.tr (KT.tr (KT.tr (KT.tr (KT.tr (rfl : KT F F) hT296) hT300) hT304) hT370) hT403) hT418), (show (F418 10).toInt = (F 10).toInt by omega), trivial⟩
              · skip
                have q_424 := i_rng x1
                have e_425 := mt i_lt.mpr (show ¬ (x1 < (4 : Int32)) from c_421)
                unfold cb_X4_formal_171
                have l_426 : (8 : Int32).toInt = 8 := rfl
                refine WP.bind (cs_X5_note hfu (8 : Int32) (F300 13) F418 G418 hI418) ?_
                rintro r427 F427 G427 ⟨hI427, hB427, hT427, hO427, hK427, hp427⟩
                dsimp only
                have q_428 := hI427.r 10 rfl
                have e_429 : (F427 10).toInt = (F418 10).toInt := hO427
                unfold cb_X4_formal_182
                refine WP.ret ?_
                exact ⟨hI427, (KB.tr (KB.tr (KB.tr (KB.tr (KB.tr (KB.tr (KB.tr (KB.rf : KB F G F G) hB296) hB300) hB304) hB370) hB403) hB418) hB427), (KT.tr (KT.tr (KT.tr (KT.tr (KT.tr (KT.tr (KT.tr (rfl : KT F F) hT296) hT300) hT304) hT370) hT403) hT418) hT427), (show (F427 10).toInt = (F 10).toInt by omega), trivial⟩
      · skip
        have q_430 := i_rng (F304 11)
        have l_431 : (21 : Int32).toInt = 21 := rfl
        have e_432 := mt i_eq.mpr (show ¬ ((F304 11) = (21 : Int32)) from c_307)
        unfold cb_X4_formal_95
        refine WP.ite (fun c_433 => ?_) (fun c_433 => ?_)
        · skip
          have l_434 : (5 : Int32).toInt = 5 := rfl
          have e_435 := i_eq.mp (show (F 11) = (5 : Int32) from c_433)
          unfold cb_X4_formal_100
          refine WP.ite (fun c_436 => ?_) (fun c_436 => ?_)
          · skip
            have e_437 := i_eq.mp (show (F 11) = (4 : Int32) from c_436)
            unfold cb_X4_formal_105
            unfold cb_X4_formal_110
            refine WP.bind (cs_X2_opens hfu (21 : Int32) F304 G304 hI304 (show (21 : Int32).toInt ≠ -2 by omega)) ?_
            rintro r438 F438 G438 ⟨hI438, hB438, hT438, hS438, hp438⟩
            dsimp only
            have q_439 := b_rng (hp438.1)
            have q_440 := hI438.r 10 rfl
            have e_441 : r438.toInt = 1 → (F438 10).toInt = (F304 10).toInt + 1 ∧ (F304 10).toInt < 40 ∧ (F304 11).toInt ≠ -2 := hp438.2.1
            have e_442 : r438.toInt = 0 → (F438 10).toInt = (F304 10).toInt ∧ (F438 11).toInt = -2 := hp438.2.2
            unfold cb_X4_formal_121
            refine WP.ite (fun c_443 => ?_) (fun c_443 => ?_)
            · skip
              have e_444 := i_eq.mp (show r438 = (0 : Int32) from c_443)
              unfold cb_X4_formal_133
              refine WP.ite (fun c_445 => ?_) (fun c_445 => ?_)
              · skip
                have q_446 := hI438.r 45 rfl
                have e_447 := i_eq.mp (show (F438 45) = (0 : Int32) from c_445)
                unfold cb_X4_formal_143
                refine WP.bind (cs_X8_addFormal hfu (2 : Int32) F438 G438 hI438) ?_
                rintro r448 F448 G448 ⟨hI448, hB448, hT448, hO448, hK448, hp448⟩
                dsimp only
                have q_449 := hI448.r 10 rfl
                have e_450 : (F448 10).toInt = (F438 10).toInt := hO448
                unfold cb_X4_formal_152
                refine WP.ret ?_
                exact ⟨hI448, (KB.tr (KB.tr (KB.tr (KB.tr (KB.tr (KB.rf : KB F G F G) hB296) hB300) hB304) hB438) hB448), (KT.tr (KT.tr (KT.tr (KT.tr (KT.tr (rfl : KT F F) hT296) hT300) hT304) hT438) hT448), (show (F448 10).toInt = (F 10).toInt by omega), trivial⟩
              · skip
                have q_451 := hI438.r 45 rfl
                have e_452 := mt i_eq.mpr (show ¬ ((F438 45) = (0 : Int32)) from c_445)
                unfold cb_X4_formal_153
                have q_453 := i_rng (F300 12)
                have q_454 := i_rng (F300 13)
                refine WP.bind (cs_X5_tellFormal hfu (F300 12) (F300 13) (2 : Int32) F438 G438 hI438) ?_
                rintro r455 F455 G455 ⟨hI455, hB455, hT455, hO455, hK455, hp455⟩
                dsimp only
                have q_456 := hI455.r 10 rfl
                have e_457 : (F455 10).toInt = (F438 10).toInt := hO455
                unfold cb_X4_formal_166
                refine WP.ite (fun c_458 => ?_) (fun c_458 => ?_)
                · skip
                  have q_459 := i_rng x1
                  have e_460 := i_lt.mp (show x1 < (4 : Int32) from c_458)
                  unfold cb_X4_formal_182
                  refine WP.ret ?_
                  exact ⟨hI455, (KB.tr (KB.tr (KB.tr (KB.tr (KB.tr (KB.rf : KB F G F G) hB296) hB300) hB304) hB438) hB455), (KT.tr (KT.tr (KT.tr (KT.tr (KT.tr (rfl : KT F F) hT296) hT300) hT304) hT438) hT455), (show (F455 10).toInt = (F 10).toInt by omega), trivial⟩
                · skip
                  have q_461 := i_rng x1
                  have e_462 := mt i_lt.mpr (show ¬ (x1 < (4 : Int32)) from c_458)
                  unfold cb_X4_formal_171
                  have l_463 : (8 : Int32).toInt = 8 := rfl
                  refine WP.bind (cs_X5_note hfu (8 : Int32) (F300 13) F455 G455 hI455) ?_
                  rintro r464 F464 G464 ⟨hI464, hB464, hT464, hO464, hK464, hp464⟩
                  dsimp only
                  have q_465 := hI464.r 10 rfl
                  have e_466 : (F464 10).toInt = (F455 10).toInt := hO464
                  unfold cb_X4_formal_182
                  refine WP.ret ?_
                  exact ⟨hI464, (KB.tr (KB.tr (KB.tr (KB.tr (KB.tr (KB.tr (KB.rf : KB F G F G) hB296) hB300) hB304) hB438) hB455) hB464), (KT.tr (KT.tr (KT.tr (KT.tr (KT.tr (KT.tr (rfl : KT F F) hT296) hT300) hT304) hT438) hT455) hT464), (show (F464 10).toInt = (F 10).toInt by omega), trivial⟩
            · skip
              have e_467 := mt i_eq.mpr (show ¬ (r438 = (0 : Int32)) from c_443)
              unfold cb_X4_formal_124
              have l_468 : (22 : Int32).toInt = 22 := rfl
              refine WP.bind (cs_X2_closesWith hfu (22 : Int32) F438 G438 hI438 (show 0 ≤ (F438 10).toInt by omega) (show (22 : Int32).toInt ≠ -2 by omega)) ?_
              rintro r469 F469 G469 ⟨hI469, hB469, hT469, hS469, hp469⟩
              dsimp only
              have q_470 := hI469.r 10 rfl
              have e_471 : (F469 10).toInt = (F438 10).toInt - 1 := hp469
              unfold cb_X4_formal_133
              refine WP.ite (fun c_472 => ?_) (fun c_472 => ?_)
              · skip
                have q_473 := hI469.r 45 rfl
                have e_474 := i_eq.mp (show (F469 45) = (0 : Int32) from c_472)
                unfold cb_X4_formal_143
                refine WP.bind (cs_X8_addFormal hfu (2 : Int32) F469 G469 hI469) ?_
                rintro r475 F475 G475 ⟨hI475, hB475, hT475, hO475, hK475, hp475⟩
                dsimp only
                have q_476 := hI475.r 10 rfl
                have e_477 : (F475 10).toInt = (F469 10).toInt := hO475
                unfold cb_X4_formal_152
                refine WP.ret ?_
                exact ⟨hI475, (KB.tr (KB.tr (KB.tr (KB.tr (KB.tr (KB.tr (KB.rf : KB F G F G) hB296) hB300) hB304) hB438) hB469) hB475), (KT.tr (KT.tr (KT.tr (KT.tr (KT.tr (KT.tr (rfl : KT F F) hT296) hT300) hT304) hT438) hT469) hT475), (show (F475 10).toInt = (F 10).toInt by omega), trivial⟩
              · skip
                have q_478 := hI469.r 45 rfl
                have e_479 := mt i_eq.mpr (show ¬ ((F469 45) = (0 : Int32)) from c_472)
                unfold cb_X4_formal_153
                have q_480 := i_rng (F300 12)
                have q_481 := i_rng (F300 13)
                refine WP.bind (cs_X5_tellFormal hfu (F300 12) (F300 13) (2 : Int32) F469 G469 hI469) ?_
                rintro r482 F482 G482 ⟨hI482, hB482, hT482, hO482, hK482, hp482⟩
                dsimp only
                have q_483 := hI482.r 10 rfl
                have e_484 : (F482 10).toInt = (F469 10).toInt := hO482
                unfold cb_X4_formal_166
                refine WP.ite (fun c_485 => ?_) (fun c_485 => ?_)
                · skip
                  have q_486 := i_rng x1
                  have e_487 := i_lt.mp (show x1 < (4 : Int32) from c_485)
                  unfold cb_X4_formal_182
                  refine WP.ret ?_
                  exact ⟨hI482, (KB.tr (KB.tr (KB.tr (KB.tr (KB.tr (KB.tr (KB.rf : KB F G F G) hB296) hB300) hB304) hB438) hB469) hB482), (KT.tr (KT.tr (KT.tr (KT.tr (KT.tr (KT.tr (rfl : KT F F) hT296) hT300) hT304) hT438) hT469) hT482), (show (F482 10).toInt = (F 10).toInt by omega), trivial⟩
                · skip
                  have q_488 := i_rng x1
                  have e_489 := mt i_lt.mpr (show ¬ (x1 < (4 : Int32)) from c_485)
                  unfold cb_X4_formal_171
                  have l_490 : (8 : Int32).toInt = 8 := rfl
                  refine WP.bind (cs_X5_note hfu (8 : Int32) (F300 13) F482 G482 hI482) ?_
                  rintro r491 F491 G491 ⟨hI491, hB491, hT491, hO491, hK491, hp491⟩
                  dsimp only
                  have q_492 := hI491.r 10 rfl
                  have e_493 : (F491 10).toInt = (F482 10).toInt := hO491
                  unfold cb_X4_formal_182
                  refine WP.ret ?_
                  exact ⟨hI491, (KB.tr (KB.tr (KB.tr (KB.tr (KB.tr (KB.tr (KB.tr (KB.rf : KB F G F G) hB296) hB300) hB304) hB438) hB469) hB482) hB491), (KT.tr (KT.tr (KT.tr (KT.tr (KT.tr (KT.tr (KT.tr (rfl : KT F F) hT296) hT300) hT304) hT438) hT469) hT482) hT491), (show (F491 10).toInt = (F 10).toInt by omega), trivial⟩
          · skip
            have e_494 := mt i_eq.mpr (show ¬ ((F 11) = (4 : Int32)) from c_436)
            unfold cb_X4_formal_109
            unfold cb_X4_formal_110
            refine WP.bind (cs_X2_opens hfu (21 : Int32) F304 G304 hI304 (show (21 : Int32).toInt ≠ -2 by omega)) ?_
            rintro r495 F495 G495 ⟨hI495, hB495, hT495, hS495, hp495⟩
            dsimp only
            have q_496 := b_rng (hp495.1)
            have q_497 := hI495.r 10 rfl
            have e_498 : r495.toInt = 1 → (F495 10).toInt = (F304 10).toInt + 1 ∧ (F304 10).toInt < 40 ∧ (F304 11).toInt ≠ -2 := hp495.2.1
            have e_499 : r495.toInt = 0 → (F495 10).toInt = (F304 10).toInt ∧ (F495 11).toInt = -2 := hp495.2.2
            unfold cb_X4_formal_121
            refine WP.ite (fun c_500 => ?_) (fun c_500 => ?_)
            · skip
              have e_501 := i_eq.mp (show r495 = (0 : Int32) from c_500)
              unfold cb_X4_formal_133
              refine WP.ite (fun c_502 => ?_) (fun c_502 => ?_)
              · skip
                have q_503 := hI495.r 45 rfl
                have e_504 := i_eq.mp (show (F495 45) = (0 : Int32) from c_502)
                unfold cb_X4_formal_143
                have l_505 : (3 : Int32).toInt = 3 := rfl
                refine WP.bind (cs_X8_addFormal hfu (3 : Int32) F495 G495 hI495) ?_
                rintro r506 F506 G506 ⟨hI506, hB506, hT506, hO506, hK506, hp506⟩
                dsimp only
                have q_507 := hI506.r 10 rfl
                have e_508 : (F506 10).toInt = (F495 10).toInt := hO506
                unfold cb_X4_formal_152
                refine WP.ret ?_
                exact ⟨hI506, (KB.tr (KB.tr (KB.tr (KB.tr (KB.tr (KB.rf : KB F G F G) hB296) hB300) hB304) hB495) hB506), (KT.tr (KT.tr (KT.tr (KT.tr (KT.tr (rfl : KT F F) hT296) hT300) hT304) hT495) hT506), (show (F506 10).toInt = (F 10).toInt by omega), trivial⟩
              · skip
                have q_509 := hI495.r 45 rfl
                have e_510 := mt i_eq.mpr (show ¬ ((F495 45) = (0 : Int32)) from c_502)
                unfold cb_X4_formal_153
                have q_511 := i_rng (F300 12)
                have q_512 := i_rng (F300 13)
                have l_513 : (3 : Int32).toInt = 3 := rfl
                refine WP.bind (cs_X5_tellFormal hfu (F300 12) (F300 13) (3 : Int32) F495 G495 hI495) ?_
                rintro r514 F514 G514 ⟨hI514, hB514, hT514, hO514, hK514, hp514⟩
                dsimp only
                have q_515 := hI514.r 10 rfl
                have e_516 : (F514 10).toInt = (F495 10).toInt := hO514
                unfold cb_X4_formal_166
                refine WP.ite (fun c_517 => ?_) (fun c_517 => ?_)
                · skip
                  have q_518 := i_rng x1
                  have e_519 := i_lt.mp (show x1 < (4 : Int32) from c_517)
                  unfold cb_X4_formal_182
                  refine WP.ret ?_
                  exact ⟨hI514, (KB.tr (KB.tr (KB.tr (KB.tr (KB.tr (KB.rf : KB F G F G) hB296) hB300) hB304) hB495) hB514), (KT.tr (KT.tr (KT.tr (KT.tr (KT.tr (rfl : KT F F) hT296) hT300) hT304) hT495) hT514), (show (F514 10).toInt = (F 10).toInt by omega), trivial⟩
                · skip
                  have q_520 := i_rng x1
                  have e_521 := mt i_lt.mpr (show ¬ (x1 < (4 : Int32)) from c_517)
                  unfold cb_X4_formal_171
                  have l_522 : (8 : Int32).toInt = 8 := rfl
                  refine WP.bind (cs_X5_note hfu (8 : Int32) (F300 13) F514 G514 hI514) ?_
                  rintro r523 F523 G523 ⟨hI523, hB523, hT523, hO523, hK523, hp523⟩
                  dsimp only
                  have q_524 := hI523.r 10 rfl
                  have e_525 : (F523 10).toInt = (F514 10).toInt := hO523
                  unfold cb_X4_formal_182
                  refine WP.ret ?_
                  exact ⟨hI523, (KB.tr (KB.tr (KB.tr (KB.tr (KB.tr (KB.tr (KB.rf : KB F G F G) hB296) hB300) hB304) hB495) hB514) hB523), (KT.tr (KT.tr (KT.tr (KT.tr (KT.tr (KT.tr (rfl : KT F F) hT296) hT300) hT304) hT495) hT514) hT523), (show (F523 10).toInt = (F 10).toInt by omega), trivial⟩
            · skip
              have e_526 := mt i_eq.mpr (show ¬ (r495 = (0 : Int32)) from c_500)
              unfold cb_X4_formal_124
              have l_527 : (22 : Int32).toInt = 22 := rfl
              refine WP.bind (cs_X2_closesWith hfu (22 : Int32) F495 G495 hI495 (show 0 ≤ (F495 10).toInt by omega) (show (22 : Int32).toInt ≠ -2 by omega)) ?_
              rintro r528 F528 G528 ⟨hI528, hB528, hT528, hS528, hp528⟩
              dsimp only
              have q_529 := hI528.r 10 rfl
              have e_530 : (F528 10).toInt = (F495 10).toInt - 1 := hp528
              unfold cb_X4_formal_133
              refine WP.ite (fun c_531 => ?_) (fun c_531 => ?_)
              · skip
                have q_532 := hI528.r 45 rfl
                have e_533 := i_eq.mp (show (F528 45) = (0 : Int32) from c_531)
                unfold cb_X4_formal_143
                have l_534 : (3 : Int32).toInt = 3 := rfl
                refine WP.bind (cs_X8_addFormal hfu (3 : Int32) F528 G528 hI528) ?_
                rintro r535 F535 G535 ⟨hI535, hB535, hT535, hO535, hK535, hp535⟩
                dsimp only
                have q_536 := hI535.r 10 rfl
                have e_537 : (F535 10).toInt = (F528 10).toInt := hO535
                unfold cb_X4_formal_152
                refine WP.ret ?_
                exact ⟨hI535, (KB.tr (KB.tr (KB.tr (KB.tr (KB.tr (KB.tr (KB.rf : KB F G F G) hB296) hB300) hB304) hB495) hB528) hB535), (KT.tr (KT.tr (KT.tr (KT.tr (KT.tr (KT.tr (rfl : KT F F) hT296) hT300) hT304) hT495) hT528) hT535), (show (F535 10).toInt = (F 10).toInt by omega), trivial⟩
              · skip
                have q_538 := hI528.r 45 rfl
                have e_539 := mt i_eq.mpr (show ¬ ((F528 45) = (0 : Int32)) from c_531)
                unfold cb_X4_formal_153
                have q_540 := i_rng (F300 12)
                have q_541 := i_rng (F300 13)
                have l_542 : (3 : Int32).toInt = 3 := rfl
                refine WP.bind (cs_X5_tellFormal hfu (F300 12) (F300 13) (3 : Int32) F528 G528 hI528) ?_
                rintro r543 F543 G543 ⟨hI543, hB543, hT543, hO543, hK543, hp543⟩
                dsimp only
                have q_544 := hI543.r 10 rfl
                have e_545 : (F543 10).toInt = (F528 10).toInt := hO543
                unfold cb_X4_formal_166
                refine WP.ite (fun c_546 => ?_) (fun c_546 => ?_)
                · skip
                  have q_547 := i_rng x1
                  have e_548 := i_lt.mp (show x1 < (4 : Int32) from c_546)
                  unfold cb_X4_formal_182
                  refine WP.ret ?_
                  exact ⟨hI543, (KB.tr (KB.tr (KB.tr (KB.tr (KB.tr (KB.tr (KB.rf : KB F G F G) hB296) hB300) hB304) hB495) hB528) hB543), (KT.tr (KT.tr (KT.tr (KT.tr (KT.tr (KT.tr (rfl : KT F F) hT296) hT300) hT304) hT495) hT528) hT543), (show (F543 10).toInt = (F 10).toInt by omega), trivial⟩
                · skip
                  have q_549 := i_rng x1
                  have e_550 := mt i_lt.mpr (show ¬ (x1 < (4 : Int32)) from c_546)
                  unfold cb_X4_formal_171
                  have l_551 : (8 : Int32).toInt = 8 := rfl
                  refine WP.bind (cs_X5_note hfu (8 : Int32) (F300 13) F543 G543 hI543) ?_
                  rintro r552 F552 G552 ⟨hI552, hB552, hT552, hO552, hK552, hp552⟩
                  dsimp only
                  have q_553 := hI552.r 10 rfl
                  have e_554 : (F552 10).toInt = (F543 10).toInt := hO552
                  unfold cb_X4_formal_182
                  refine WP.ret ?_
                  exact ⟨hI552, (KB.tr (KB.tr (KB.tr (KB.tr (KB.tr (KB.tr (KB.tr (KB.rf : KB F G F G) hB296) hB300) hB304) hB495) hB528) hB543) hB552), (KT.tr (KT.tr (KT.tr (KT.tr (KT.tr (KT.tr (KT.tr (rfl : KT F F) hT296) hT300) hT304) hT495) hT528) hT543) hT552), (show (F552 10).toInt = (F 10).toInt by omega), trivial⟩
        · skip
          have l_555 : (5 : Int32).toInt = 5 := rfl
          have e_556 := mt i_eq.mpr (show ¬ ((F 11) = (5 : Int32)) from c_433)
          unfold cb_X4_formal_133
          refine WP.ite (fun c_557 => ?_) (fun c_557 => ?_)
          · skip
            have q_558 := hI304.r 45 rfl
            have e_559 := i_eq.mp (show (F304 45) = (0 : Int32) from c_557)
            unfold cb_X4_formal_143
            have l_560 : (1 : Int32).toInt = 1 := rfl
            refine WP.bind (cs_X8_addFormal hfu (1 : Int32) F304 G304 hI304) ?_
            rintro r561 F561 G561 ⟨hI561, hB561, hT561, hO561, hK561, hp561⟩
            dsimp only
            have q_562 := hI561.r 10 rfl
            have e_563 : (F561 10).toInt = (F304 10).toInt := hO561
            unfold cb_X4_formal_152
            refine WP.ret ?_
            exact ⟨hI561, (KB.tr (KB.tr (KB.tr (KB.tr (KB.rf : KB F G F G) hB296) hB300) hB304) hB561), (KT.tr (KT.tr (KT.tr (KT.tr (rfl : KT F F) hT296) hT300) hT304) hT561), (KO.tr (KO.tr (KO.tr (KO.tr (rfl : KO F F) hO296) hO300) hO304) hO561), trivial⟩
          · skip
            have q_564 := hI304.r 45 rfl
            have e_565 := mt i_eq.mpr (show ¬ ((F304 45) = (0 : Int32)) from c_557)
            unfold cb_X4_formal_153
            have q_566 := i_rng (F300 12)
            have q_567 := i_rng (F300 13)
            have l_568 : (1 : Int32).toInt = 1 := rfl
            refine WP.bind (cs_X5_tellFormal hfu (F300 12) (F300 13) (1 : Int32) F304 G304 hI304) ?_
            rintro r569 F569 G569 ⟨hI569, hB569, hT569, hO569, hK569, hp569⟩
            dsimp only
            have q_570 := hI569.r 10 rfl
            have e_571 : (F569 10).toInt = (F304 10).toInt := hO569
            unfold cb_X4_formal_166
            refine WP.ite (fun c_572 => ?_) (fun c_572 => ?_)
            · skip
              have q_573 := i_rng x1
              have e_574 := i_lt.mp (show x1 < (4 : Int32) from c_572)
              unfold cb_X4_formal_182
              refine WP.ret ?_
              exact ⟨hI569, (KB.tr (KB.tr (KB.tr (KB.tr (KB.rf : KB F G F G) hB296) hB300) hB304) hB569), (KT.tr (KT.tr (KT.tr (KT.tr (rfl : KT F F) hT296) hT300) hT304) hT569), (KO.tr (KO.tr (KO.tr (KO.tr (rfl : KO F F) hO296) hO300) hO304) hO569), trivial⟩
            · skip
              have q_575 := i_rng x1
              have e_576 := mt i_lt.mpr (show ¬ (x1 < (4 : Int32)) from c_572)
              unfold cb_X4_formal_171
              have l_577 : (8 : Int32).toInt = 8 := rfl
              refine WP.bind (cs_X5_note hfu (8 : Int32) (F300 13) F569 G569 hI569) ?_
              rintro r578 F578 G578 ⟨hI578, hB578, hT578, hO578, hK578, hp578⟩
              dsimp only
              have q_579 := hI578.r 10 rfl
              have e_580 : (F578 10).toInt = (F569 10).toInt := hO578
              unfold cb_X4_formal_182
              refine WP.ret ?_
              exact ⟨hI578, (KB.tr (KB.tr (KB.tr (KB.tr (KB.tr (KB.rf : KB F G F G) hB296) hB300) hB304) hB569) hB578), (KT.tr (KT.tr (KT.tr (KT.tr (KT.tr (rfl : KT F F) hT296) hT300) hT304) hT569) hT578), (KO.tr (KO.tr (KO.tr (KO.tr (KO.tr (rfl : KO F F) hO296) hO300) hO304) hO569) hO578), trivial⟩
  · skip
    have q_581 := i_rng (F 11)
    have l_582 : (4 : Int32).toInt = 4 := rfl
    have e_583 := mt i_eq.mpr (show ¬ ((F 11) = (4 : Int32)) from c_1)
    unfold cb_X4_formal_13
    refine WP.ite (fun c_584 => ?_) (fun c_584 => ?_)
    · skip
      have l_585 : (5 : Int32).toInt = 5 := rfl
      have e_586 := i_eq.mp (show (F 11) = (5 : Int32) from c_584)
      unfold cb_X4_formal_27
      refine WP.ite (fun c_587 => ?_) (fun c_587 => ?_)
      · skip
        have q_588 := i_rng x2
        have l_589 : (0 : Int32).toInt = 0 := rfl
        have e_590 := i_eq.mp (show x2 = (0 : Int32) from c_587)
        unfold cb_X4_formal_47
        refine WP.bind (cs_X2_next hfu F G hI) ?_
        rintro r591 F591 G591 ⟨hI591, hB591, hT591, hO591, hp591⟩
        dsimp only
        have q_592 := hI.r 10 rfl
        have q_593 := hI591.r 10 rfl
        have e_594 : (F591 10).toInt = (F 10).toInt := hO591
        unfold cb_X4_formal_54
        have l_595 : (2 : Int32).toInt = 2 := rfl
        refine WP.bind (cs_X2_expect hfu (2 : Int32) F591 G591 hI591 (show (2 : Int32).toInt ≠ -2 by omega)) ?_
        rintro r596 F596 G596 ⟨hI596, hB596, hT596, hO596, hS596, hp596⟩
        dsimp only
        have q_597 := hI596.r 10 rfl
        have e_598 : (F596 10).toInt = (F591 10).toInt := hO596
        unfold cb_X4_formal_80
        refine WP.ite (fun c_599 => ?_) (fun c_599 => ?_)
        · skip
          have q_600 := i_rng (F596 11)
          have l_601 : (21 : Int32).toInt = 21 := rfl
          have e_602 := i_eq.mp (show (F596 11) = (21 : Int32) from c_599)
          unfold cb_X4_formal_100
          refine WP.ite (fun c_603 => ?_) (fun c_603 => ?_)
          · skip
            have e_604 := i_eq.mp (show (F 11) = (4 : Int32) from c_603)
            unfold cb_X4_formal_105
            unfold cb_X4_formal_110
            refine WP.bind (cs_X2_opens hfu (21 : Int32) F596 G596 hI596 (show (21 : Int32).toInt ≠ -2 by omega)) ?_
            rintro r605 F605 G605 ⟨hI605, hB605, hT605, hS605, hp605⟩
            dsimp only
            have q_606 := b_rng (hp605.1)
            have q_607 := hI605.r 10 rfl
            have e_608 : r605.toInt = 1 → (F605 10).toInt = (F596 10).toInt + 1 ∧ (F596 10).toInt < 40 ∧ (F596 11).toInt ≠ -2 := hp605.2.1
            have e_609 : r605.toInt = 0 → (F605 10).toInt = (F596 10).toInt ∧ (F605 11).toInt = -2 := hp605.2.2
            unfold cb_X4_formal_121
            refine WP.ite (fun c_610 => ?_) (fun c_610 => ?_)
            · skip
              have e_611 := i_eq.mp (show r605 = (0 : Int32) from c_610)
              unfold cb_X4_formal_133
              refine WP.ite (fun c_612 => ?_) (fun c_612 => ?_)
              · skip
                have q_613 := hI605.r 45 rfl
                have e_614 := i_eq.mp (show (F605 45) = (0 : Int32) from c_612)
                unfold cb_X4_formal_143
                refine WP.bind (cs_X8_addFormal hfu (2 : Int32) F605 G605 hI605) ?_
                rintro r615 F615 G615 ⟨hI615, hB615, hT615, hO615, hK615, hp615⟩
                dsimp only
                have q_616 := hI615.r 10 rfl
                have e_617 : (F615 10).toInt = (F605 10).toInt := hO615
                unfold cb_X4_formal_152
                refine WP.ret ?_
                exact ⟨hI615, (KB.tr (KB.tr (KB.tr (KB.tr (KB.rf : KB F G F G) hB591) hB596) hB605) hB615), (KT.tr (KT.tr (KT.tr (KT.tr (rfl : KT F F) hT591) hT596) hT605) hT615), (show (F615 10).toInt = (F 10).toInt by omega), trivial⟩
              · skip
                have q_618 := hI605.r 45 rfl
                have e_619 := mt i_eq.mpr (show ¬ ((F605 45) = (0 : Int32)) from c_612)
                unfold cb_X4_formal_153
                have q_620 := i_rng (F591 12)
                have q_621 := i_rng (F591 13)
                refine WP.bind (cs_X5_tellFormal hfu (F591 12) (F591 13) (2 : Int32) F605 G605 hI605) ?_
                rintro r622 F622 G622 ⟨hI622, hB622, hT622, hO622, hK622, hp622⟩
                dsimp only
                have q_623 := hI622.r 10 rfl
                have e_624 : (F622 10).toInt = (F605 10).toInt := hO622
                unfold cb_X4_formal_166
                refine WP.ite (fun c_625 => ?_) (fun c_625 => ?_)
                · skip
                  have q_626 := i_rng x1
                  have e_627 := i_lt.mp (show x1 < (4 : Int32) from c_625)
                  unfold cb_X4_formal_182
                  refine WP.ret ?_
                  exact ⟨hI622, (KB.tr (KB.tr (KB.tr (KB.tr (KB.rf : KB F G F G) hB591) hB596) hB605) hB622), (KT.tr (KT.tr (KT.tr (KT.tr (rfl : KT F F) hT591) hT596) hT605) hT622), (show (F622 10).toInt = (F 10).toInt by omega), trivial⟩
                · skip
                  have q_628 := i_rng x1
                  have e_629 := mt i_lt.mpr (show ¬ (x1 < (4 : Int32)) from c_625)
                  unfold cb_X4_formal_171
                  have l_630 : (8 : Int32).toInt = 8 := rfl
                  refine WP.bind (cs_X5_note hfu (8 : Int32) (F591 13) F622 G622 hI622) ?_
                  rintro r631 F631 G631 ⟨hI631, hB631, hT631, hO631, hK631, hp631⟩
                  dsimp only
                  have q_632 := hI631.r 10 rfl
                  have e_633 : (F631 10).toInt = (F622 10).toInt := hO631
                  unfold cb_X4_formal_182
                  refine WP.ret ?_
                  exact ⟨hI631, (KB.tr (KB.tr (KB.tr (KB.tr (KB.tr (KB.rf : KB F G F G) hB591) hB596) hB605) hB622) hB631), (KT.tr (KT.tr (KT.tr (KT.tr (KT.tr (rfl : KT F F) hT591) hT596) hT605) hT622) hT631), (show (F631 10).toInt = (F 10).toInt by omega), trivial⟩
            · skip
              have e_634 := mt i_eq.mpr (show ¬ (r605 = (0 : Int32)) from c_610)
              unfold cb_X4_formal_124
              have l_635 : (22 : Int32).toInt = 22 := rfl
              refine WP.bind (cs_X2_closesWith hfu (22 : Int32) F605 G605 hI605 (show 0 ≤ (F605 10).toInt by omega) (show (22 : Int32).toInt ≠ -2 by omega)) ?_
              rintro r636 F636 G636 ⟨hI636, hB636, hT636, hS636, hp636⟩
              dsimp only
              have q_637 := hI636.r 10 rfl
              have e_638 : (F636 10).toInt = (F605 10).toInt - 1 := hp636
              unfold cb_X4_formal_133
              refine WP.ite (fun c_639 => ?_) (fun c_639 => ?_)
              · skip
                have q_640 := hI636.r 45 rfl
                have e_641 := i_eq.mp (show (F636 45) = (0 : Int32) from c_639)
                unfold cb_X4_formal_143
                refine WP.bind (cs_X8_addFormal hfu (2 : Int32) F636 G636 hI636) ?_
                rintro r642 F642 G642 ⟨hI642, hB642, hT642, hO642, hK642, hp642⟩
                dsimp only
                have q_643 := hI642.r 10 rfl
                have e_644 : (F642 10).toInt = (F636 10).toInt := hO642
                unfold cb_X4_formal_152
                refine WP.ret ?_
                exact ⟨hI642, (KB.tr (KB.tr (KB.tr (KB.tr (KB.tr (KB.rf : KB F G F G) hB591) hB596) hB605) hB636) hB642), (KT.tr (KT.tr (KT.tr (KT.tr (KT.tr (rfl : KT F F) hT591) hT596) hT605) hT636) hT642), (show (F642 10).toInt = (F 10).toInt by omega), trivial⟩
              · skip
                have q_645 := hI636.r 45 rfl
                have e_646 := mt i_eq.mpr (show ¬ ((F636 45) = (0 : Int32)) from c_639)
                unfold cb_X4_formal_153
                have q_647 := i_rng (F591 12)
                have q_648 := i_rng (F591 13)
                refine WP.bind (cs_X5_tellFormal hfu (F591 12) (F591 13) (2 : Int32) F636 G636 hI636) ?_
                rintro r649 F649 G649 ⟨hI649, hB649, hT649, hO649, hK649, hp649⟩
                dsimp only
                have q_650 := hI649.r 10 rfl
                have e_651 : (F649 10).toInt = (F636 10).toInt := hO649
                unfold cb_X4_formal_166
                refine WP.ite (fun c_652 => ?_) (fun c_652 => ?_)
                · skip
                  have q_653 := i_rng x1
                  have e_654 := i_lt.mp (show x1 < (4 : Int32) from c_652)
                  unfold cb_X4_formal_182
                  refine WP.ret ?_
                  exact ⟨hI649, (KB.tr (KB.tr (KB.tr (KB.tr (KB.tr (KB.rf : KB F G F G) hB591) hB596) hB605) hB636) hB649), (KT.tr (KT.tr (KT.tr (KT.tr (KT.tr (rfl : KT F F) hT591) hT596) hT605) hT636) hT649), (show (F649 10).toInt = (F 10).toInt by omega), trivial⟩
                · skip
                  have q_655 := i_rng x1
                  have e_656 := mt i_lt.mpr (show ¬ (x1 < (4 : Int32)) from c_652)
                  unfold cb_X4_formal_171
                  have l_657 : (8 : Int32).toInt = 8 := rfl
                  refine WP.bind (cs_X5_note hfu (8 : Int32) (F591 13) F649 G649 hI649) ?_
                  rintro r658 F658 G658 ⟨hI658, hB658, hT658, hO658, hK658, hp658⟩
                  dsimp only
                  have q_659 := hI658.r 10 rfl
                  have e_660 : (F658 10).toInt = (F649 10).toInt := hO658
                  unfold cb_X4_formal_182
                  refine WP.ret ?_
                  exact ⟨hI658, (KB.tr (KB.tr (KB.tr (KB.tr (KB.tr (KB.tr (KB.rf : KB F G F G) hB591) hB596) hB605) hB636) hB649) hB658), (KT.tr (KT.tr (KT.tr (KT.tr (KT.tr (KT.tr (rfl : KT F F) hT591) hT596) hT605) hT636) hT649) hT658), (show (F658 10).toInt = (F 10).toInt by omega), trivial⟩
          · skip
            have e_661 := mt i_eq.mpr (show ¬ ((F 11) = (4 : Int32)) from c_603)
            unfold cb_X4_formal_109
            unfold cb_X4_formal_110
            refine WP.bind (cs_X2_opens hfu (21 : Int32) F596 G596 hI596 (show (21 : Int32).toInt ≠ -2 by omega)) ?_
            rintro r662 F662 G662 ⟨hI662, hB662, hT662, hS662, hp662⟩
            dsimp only
            have q_663 := b_rng (hp662.1)
            have q_664 := hI662.r 10 rfl
            have e_665 : r662.toInt = 1 → (F662 10).toInt = (F596 10).toInt + 1 ∧ (F596 10).toInt < 40 ∧ (F596 11).toInt ≠ -2 := hp662.2.1
            have e_666 : r662.toInt = 0 → (F662 10).toInt = (F596 10).toInt ∧ (F662 11).toInt = -2 := hp662.2.2
            unfold cb_X4_formal_121
            refine WP.ite (fun c_667 => ?_) (fun c_667 => ?_)
            · skip
              have e_668 := i_eq.mp (show r662 = (0 : Int32) from c_667)
              unfold cb_X4_formal_133
              refine WP.ite (fun c_669 => ?_) (fun c_669 => ?_)
              · skip
                have q_670 := hI662.r 45 rfl
                have e_671 := i_eq.mp (show (F662 45) = (0 : Int32) from c_669)
                unfold cb_X4_formal_143
                have l_672 : (3 : Int32).toInt = 3 := rfl
                refine WP.bind (cs_X8_addFormal hfu (3 : Int32) F662 G662 hI662) ?_
                rintro r673 F673 G673 ⟨hI673, hB673, hT673, hO673, hK673, hp673⟩
                dsimp only
                have q_674 := hI673.r 10 rfl
                have e_675 : (F673 10).toInt = (F662 10).toInt := hO673
                unfold cb_X4_formal_152
                refine WP.ret ?_
                exact ⟨hI673, (KB.tr (KB.tr (KB.tr (KB.tr (KB.rf : KB F G F G) hB591) hB596) hB662) hB673), (KT.tr (KT.tr (KT.tr (KT.tr (rfl : KT F F) hT591) hT596) hT662) hT673), (show (F673 10).toInt = (F 10).toInt by omega), trivial⟩
              · skip
                have q_676 := hI662.r 45 rfl
                have e_677 := mt i_eq.mpr (show ¬ ((F662 45) = (0 : Int32)) from c_669)
                unfold cb_X4_formal_153
                have q_678 := i_rng (F591 12)
                have q_679 := i_rng (F591 13)
                have l_680 : (3 : Int32).toInt = 3 := rfl
                refine WP.bind (cs_X5_tellFormal hfu (F591 12) (F591 13) (3 : Int32) F662 G662 hI662) ?_
                rintro r681 F681 G681 ⟨hI681, hB681, hT681, hO681, hK681, hp681⟩
                dsimp only
                have q_682 := hI681.r 10 rfl
                have e_683 : (F681 10).toInt = (F662 10).toInt := hO681
                unfold cb_X4_formal_166
                refine WP.ite (fun c_684 => ?_) (fun c_684 => ?_)
                · skip
                  have q_685 := i_rng x1
                  have e_686 := i_lt.mp (show x1 < (4 : Int32) from c_684)
                  unfold cb_X4_formal_182
                  refine WP.ret ?_
                  exact ⟨hI681, (KB.tr (KB.tr (KB.tr (KB.tr (KB.rf : KB F G F G) hB591) hB596) hB662) hB681), (KT.tr (KT.tr (KT.tr (KT.tr (rfl : KT F F) hT591) hT596) hT662) hT681), (show (F681 10).toInt = (F 10).toInt by omega), trivial⟩
                · skip
                  have q_687 := i_rng x1
                  have e_688 := mt i_lt.mpr (show ¬ (x1 < (4 : Int32)) from c_684)
                  unfold cb_X4_formal_171
                  have l_689 : (8 : Int32).toInt = 8 := rfl
                  refine WP.bind (cs_X5_note hfu (8 : Int32) (F591 13) F681 G681 hI681) ?_
                  rintro r690 F690 G690 ⟨hI690, hB690, hT690, hO690, hK690, hp690⟩
                  dsimp only
                  have q_691 := hI690.r 10 rfl
                  have e_692 : (F690 10).toInt = (F681 10).toInt := hO690
                  unfold cb_X4_formal_182
                  refine WP.ret ?_
                  exact ⟨hI690, (KB.tr (KB.tr (KB.tr (KB.tr (KB.tr (KB.rf : KB F G F G) hB591) hB596) hB662) hB681) hB690), (KT.tr (KT.tr (KT.tr (KT.tr (KT.tr (rfl : KT F F) hT591) hT596) hT662) hT681) hT690), (show (F690 10).toInt = (F 10).toInt by omega), trivial⟩
            · skip
              have e_693 := mt i_eq.mpr (show ¬ (r662 = (0 : Int32)) from c_667)
              unfold cb_X4_formal_124
              have l_694 : (22 : Int32).toInt = 22 := rfl
              refine WP.bind (cs_X2_closesWith hfu (22 : Int32) F662 G662 hI662 (show 0 ≤ (F662 10).toInt by omega) (show (22 : Int32).toInt ≠ -2 by omega)) ?_
              rintro r695 F695 G695 ⟨hI695, hB695, hT695, hS695, hp695⟩
              dsimp only
              have q_696 := hI695.r 10 rfl
              have e_697 : (F695 10).toInt = (F662 10).toInt - 1 := hp695
              unfold cb_X4_formal_133
              refine WP.ite (fun c_698 => ?_) (fun c_698 => ?_)
              · skip
                have q_699 := hI695.r 45 rfl
                have e_700 := i_eq.mp (show (F695 45) = (0 : Int32) from c_698)
                unfold cb_X4_formal_143
                have l_701 : (3 : Int32).toInt = 3 := rfl
                refine WP.bind (cs_X8_addFormal hfu (3 : Int32) F695 G695 hI695) ?_
                rintro r702 F702 G702 ⟨hI702, hB702, hT702, hO702, hK702, hp702⟩
                dsimp only
                have q_703 := hI702.r 10 rfl
                have e_704 : (F702 10).toInt = (F695 10).toInt := hO702
                unfold cb_X4_formal_152
                refine WP.ret ?_
                exact ⟨hI702, (KB.tr (KB.tr (KB.tr (KB.tr (KB.tr (KB.rf : KB F G F G) hB591) hB596) hB662) hB695) hB702), (KT.tr (KT.tr (KT.tr (KT.tr (KT.tr (rfl : KT F F) hT591) hT596) hT662) hT695) hT702), (show (F702 10).toInt = (F 10).toInt by omega), trivial⟩
              · skip
                have q_705 := hI695.r 45 rfl
                have e_706 := mt i_eq.mpr (show ¬ ((F695 45) = (0 : Int32)) from c_698)
                unfold cb_X4_formal_153
                have q_707 := i_rng (F591 12)
                have q_708 := i_rng (F591 13)
                have l_709 : (3 : Int32).toInt = 3 := rfl
                refine WP.bind (cs_X5_tellFormal hfu (F591 12) (F591 13) (3 : Int32) F695 G695 hI695) ?_
                rintro r710 F710 G710 ⟨hI710, hB710, hT710, hO710, hK710, hp710⟩
                dsimp only
                have q_711 := hI710.r 10 rfl
                have e_712 : (F710 10).toInt = (F695 10).toInt := hO710
                unfold cb_X4_formal_166
                refine WP.ite (fun c_713 => ?_) (fun c_713 => ?_)
                · skip
                  have q_714 := i_rng x1
                  have e_715 := i_lt.mp (show x1 < (4 : Int32) from c_713)
                  unfold cb_X4_formal_182
                  refine WP.ret ?_
                  exact ⟨hI710, (KB.tr (KB.tr (KB.tr (KB.tr (KB.tr (KB.rf : KB F G F G) hB591) hB596) hB662) hB695) hB710), (KT.tr (KT.tr (KT.tr (KT.tr (KT.tr (rfl : KT F F) hT591) hT596) hT662) hT695) hT710), (show (F710 10).toInt = (F 10).toInt by omega), trivial⟩
                · skip
                  have q_716 := i_rng x1
                  have e_717 := mt i_lt.mpr (show ¬ (x1 < (4 : Int32)) from c_713)
                  unfold cb_X4_formal_171
                  have l_718 : (8 : Int32).toInt = 8 := rfl
                  refine WP.bind (cs_X5_note hfu (8 : Int32) (F591 13) F710 G710 hI710) ?_
                  rintro r719 F719 G719 ⟨hI719, hB719, hT719, hO719, hK719, hp719⟩
                  dsimp only
                  have q_720 := hI719.r 10 rfl
                  have e_721 : (F719 10).toInt = (F710 10).toInt := hO719
                  unfold cb_X4_formal_182
                  refine WP.ret ?_
                  exact ⟨hI719, (KB.tr (KB.tr (KB.tr (KB.tr (KB.tr (KB.tr (KB.rf : KB F G F G) hB591) hB596) hB662) hB695) hB710) hB719), (KT.tr (KT.tr (KT.tr (KT.tr (KT.tr (KT.tr (rfl : KT F F) hT591) hT596) hT662) hT695) hT710) hT719), (show (F719 10).toInt = (F 10).toInt by omega), trivial⟩
        · skip
          have q_722 := i_rng (F596 11)
          have l_723 : (21 : Int32).toInt = 21 := rfl
          have e_724 := mt i_eq.mpr (show ¬ ((F596 11) = (21 : Int32)) from c_599)
          unfold cb_X4_formal_95
          refine WP.ite (fun c_725 => ?_) (fun c_725 => ?_)
          · skip
            have e_726 := i_eq.mp (show (F 11) = (5 : Int32) from c_725)
            unfold cb_X4_formal_100
            refine WP.ite (fun c_727 => ?_) (fun c_727 => ?_)
            · skip
              have e_728 := i_eq.mp (show (F 11) = (4 : Int32) from c_727)
              unfold cb_X4_formal_105
              unfold cb_X4_formal_110
              refine WP.bind (cs_X2_opens hfu (21 : Int32) F596 G596 hI596 (show (21 : Int32).toInt ≠ -2 by omega)) ?_
              rintro r729 F729 G729 ⟨hI729, hB729, hT729, hS729, hp729⟩
              dsimp only
              have q_730 := b_rng (hp729.1)
              have q_731 := hI729.r 10 rfl
              have e_732 : r729.toInt = 1 → (F729 10).toInt = (F596 10).toInt + 1 ∧ (F596 10).toInt < 40 ∧ (F596 11).toInt ≠ -2 := hp729.2.1
              have e_733 : r729.toInt = 0 → (F729 10).toInt = (F596 10).toInt ∧ (F729 11).toInt = -2 := hp729.2.2
              unfold cb_X4_formal_121
              refine WP.ite (fun c_734 => ?_) (fun c_734 => ?_)
              · skip
                have e_735 := i_eq.mp (show r729 = (0 : Int32) from c_734)
                unfold cb_X4_formal_133
                refine WP.ite (fun c_736 => ?_) (fun c_736 => ?_)
                · skip
                  have q_737 := hI729.r 45 rfl
                  have e_738 := i_eq.mp (show (F729 45) = (0 : Int32) from c_736)
                  unfold cb_X4_formal_143
                  refine WP.bind (cs_X8_addFormal hfu (2 : Int32) F729 G729 hI729) ?_
                  rintro r739 F739 G739 ⟨hI739, hB739, hT739, hO739, hK739, hp739⟩
                  dsimp only
                  have q_740 := hI739.r 10 rfl
                  have e_741 : (F739 10).toInt = (F729 10).toInt := hO739
                  unfold cb_X4_formal_152
                  refine WP.ret ?_
                  exact ⟨hI739, (KB.tr (KB.tr (KB.tr (KB.tr (KB.rf : KB F G F G) hB591) hB596) hB729) hB739), (KT.tr (KT.tr (KT.tr (KT.tr (rfl : KT F F) hT591) hT596) hT729) hT739), (show (F739 10).toInt = (F 10).toInt by omega), trivial⟩
                · skip
                  have q_742 := hI729.r 45 rfl
                  have e_743 := mt i_eq.mpr (show ¬ ((F729 45) = (0 : Int32)) from c_736)
                  unfold cb_X4_formal_153
                  have q_744 := i_rng (F591 12)
                  have q_745 := i_rng (F591 13)
                  refine WP.bind (cs_X5_tellFormal hfu (F591 12) (F591 13) (2 : Int32) F729 G729 hI729) ?_
                  rintro r746 F746 G746 ⟨hI746, hB746, hT746, hO746, hK746, hp746⟩
                  dsimp only
                  have q_747 := hI746.r 10 rfl
                  have e_748 : (F746 10).toInt = (F729 10).toInt := hO746
                  unfold cb_X4_formal_166
                  refine WP.ite (fun c_749 => ?_) (fun c_749 => ?_)
                  · skip
                    have q_750 := i_rng x1
                    have e_751 := i_lt.mp (show x1 < (4 : Int32) from c_749)
                    unfold cb_X4_formal_182
                    refine WP.ret ?_
                    exact ⟨hI746, (KB.tr (KB.tr (KB.tr (KB.tr (KB.rf : KB F G F G) hB591) hB596) hB729) hB746), (KT.tr (KT.tr (KT.tr (KT.tr (rfl : KT F F) hT591) hT596) hT729) hT746), (show (F746 10).toInt = (F 10).toInt by omega), trivial⟩
                  · skip
                    have q_752 := i_rng x1
                    have e_753 := mt i_lt.mpr (show ¬ (x1 < (4 : Int32)) from c_749)
                    unfold cb_X4_formal_171
                    have l_754 : (8 : Int32).toInt = 8 := rfl
                    refine WP.bind (cs_X5_note hfu (8 : Int32) (F591 13) F746 G746 hI746) ?_
                    rintro r755 F755 G755 ⟨hI755, hB755, hT755, hO755, hK755, hp755⟩
                    dsimp only
                    have q_756 := hI755.r 10 rfl
                    have e_757 : (F755 10).toInt = (F746 10).toInt := hO755
                    unfold cb_X4_formal_182
                    refine WP.ret ?_
                    exact ⟨hI755, (KB.tr (KB.tr (KB.tr (KB.tr (KB.tr (KB.rf : KB F G F G) hB591) hB596) hB729) hB746) hB755), (KT.tr (KT.tr (KT.tr (KT.tr (KT.tr (rfl : KT F F) hT591) hT596) hT729) hT746) hT755), (show (F755 10).toInt = (F 10).toInt by omega), trivial⟩
              · skip
                have e_758 := mt i_eq.mpr (show ¬ (r729 = (0 : Int32)) from c_734)
                unfold cb_X4_formal_124
                have l_759 : (22 : Int32).toInt = 22 := rfl
                refine WP.bind (cs_X2_closesWith hfu (22 : Int32) F729 G729 hI729 (show 0 ≤ (F729 10).toInt by omega) (show (22 : Int32).toInt ≠ -2 by omega)) ?_
                rintro r760 F760 G760 ⟨hI760, hB760, hT760, hS760, hp760⟩
                dsimp only
                have q_761 := hI760.r 10 rfl
                have e_762 : (F760 10).toInt = (F729 10).toInt - 1 := hp760
                unfold cb_X4_formal_133
                refine WP.ite (fun c_763 => ?_) (fun c_763 => ?_)
                · skip
                  have q_764 := hI760.r 45 rfl
                  have e_765 := i_eq.mp (show (F760 45) = (0 : Int32) from c_763)
                  unfold cb_X4_formal_143
                  refine WP.bind (cs_X8_addFormal hfu (2 : Int32) F760 G760 hI760) ?_
                  rintro r766 F766 G766 ⟨hI766, hB766, hT766, hO766, hK766, hp766⟩
                  dsimp only
                  have q_767 := hI766.r 10 rfl
                  have e_768 : (F766 10).toInt = (F760 10).toInt := hO766
                  unfold cb_X4_formal_152
                  refine WP.ret ?_
                  exact ⟨hI766, (KB.tr (KB.tr (KB.tr (KB.tr (KB.tr (KB.rf : KB F G F G) hB591) hB596) hB729) hB760) hB766), (KT.tr (KT.tr (KT.tr (KT.tr (KT.tr (rfl : KT F F) hT591) hT596) hT729) hT760) hT766), (show (F766 10).toInt = (F 10).toInt by omega), trivial⟩
                · skip
                  have q_769 := hI760.r 45 rfl
                  have e_770 := mt i_eq.mpr (show ¬ ((F760 45) = (0 : Int32)) from c_763)
                  unfold cb_X4_formal_153
                  have q_771 := i_rng (F591 12)
                  have q_772 := i_rng (F591 13)
                  refine WP.bind (cs_X5_tellFormal hfu (F591 12) (F591 13) (2 : Int32) F760 G760 hI760) ?_
                  rintro r773 F773 G773 ⟨hI773, hB773, hT773, hO773, hK773, hp773⟩
                  dsimp only
                  have q_774 := hI773.r 10 rfl
                  have e_775 : (F773 10).toInt = (F760 10).toInt := hO773
                  unfold cb_X4_formal_166
                  refine WP.ite (fun c_776 => ?_) (fun c_776 => ?_)
                  · skip
                    have q_777 := i_rng x1
                    have e_778 := i_lt.mp (show x1 < (4 : Int32) from c_776)
                    unfold cb_X4_formal_182
                    refine WP.ret ?_
                    exact ⟨hI773, (KB.tr (KB.tr (KB.tr (KB.tr (KB.tr (KB.rf : KB F G F G) hB591) hB596) hB729) hB760) hB773), (KT.tr (KT.tr (KT.tr (KT.tr (KT.tr (rfl : KT F F) hT591) hT596) hT729) hT760) hT773), (show (F773 10).toInt = (F 10).toInt by omega), trivial⟩
                  · skip
                    have q_779 := i_rng x1
                    have e_780 := mt i_lt.mpr (show ¬ (x1 < (4 : Int32)) from c_776)
                    unfold cb_X4_formal_171
                    have l_781 : (8 : Int32).toInt = 8 := rfl
                    refine WP.bind (cs_X5_note hfu (8 : Int32) (F591 13) F773 G773 hI773) ?_
                    rintro r782 F782 G782 ⟨hI782, hB782, hT782, hO782, hK782, hp782⟩
                    dsimp only
                    have q_783 := hI782.r 10 rfl
                    have e_784 : (F782 10).toInt = (F773 10).toInt := hO782
                    unfold cb_X4_formal_182
                    refine WP.ret ?_
                    exact ⟨hI782, (KB.tr (KB.tr (KB.tr (KB.tr (KB.tr (KB.tr (KB.rf : KB F G F G) hB591) hB596) hB729) hB760) hB773) hB782), (KT.tr (KT.tr (KT.tr (KT.tr (KT.tr (KT.tr (rfl : KT F F) hT591) hT596) hT729) hT760) hT773) hT782), (show (F782 10).toInt = (F 10).toInt by omega), trivial⟩
            · skip
              have e_785 := mt i_eq.mpr (show ¬ ((F 11) = (4 : Int32)) from c_727)
              unfold cb_X4_formal_109
              unfold cb_X4_formal_110
              refine WP.bind (cs_X2_opens hfu (21 : Int32) F596 G596 hI596 (show (21 : Int32).toInt ≠ -2 by omega)) ?_
              rintro r786 F786 G786 ⟨hI786, hB786, hT786, hS786, hp786⟩
              dsimp only
              have q_787 := b_rng (hp786.1)
              have q_788 := hI786.r 10 rfl
              have e_789 : r786.toInt = 1 → (F786 10).toInt = (F596 10).toInt + 1 ∧ (F596 10).toInt < 40 ∧ (F596 11).toInt ≠ -2 := hp786.2.1
              have e_790 : r786.toInt = 0 → (F786 10).toInt = (F596 10).toInt ∧ (F786 11).toInt = -2 := hp786.2.2
              unfold cb_X4_formal_121
              refine WP.ite (fun c_791 => ?_) (fun c_791 => ?_)
              · skip
                have e_792 := i_eq.mp (show r786 = (0 : Int32) from c_791)
                unfold cb_X4_formal_133
                refine WP.ite (fun c_793 => ?_) (fun c_793 => ?_)
                · skip
                  have q_794 := hI786.r 45 rfl
                  have e_795 := i_eq.mp (show (F786 45) = (0 : Int32) from c_793)
                  unfold cb_X4_formal_143
                  have l_796 : (3 : Int32).toInt = 3 := rfl
                  refine WP.bind (cs_X8_addFormal hfu (3 : Int32) F786 G786 hI786) ?_
                  rintro r797 F797 G797 ⟨hI797, hB797, hT797, hO797, hK797, hp797⟩
                  dsimp only
                  have q_798 := hI797.r 10 rfl
                  have e_799 : (F797 10).toInt = (F786 10).toInt := hO797
                  unfold cb_X4_formal_152
                  refine WP.ret ?_
                  exact ⟨hI797, (KB.tr (KB.tr (KB.tr (KB.tr (KB.rf : KB F G F G) hB591) hB596) hB786) hB797), (KT.tr (KT.tr (KT.tr (KT.tr (rfl : KT F F) hT591) hT596) hT786) hT797), (show (F797 10).toInt = (F 10).toInt by omega), trivial⟩
                · skip
                  have q_800 := hI786.r 45 rfl
                  have e_801 := mt i_eq.mpr (show ¬ ((F786 45) = (0 : Int32)) from c_793)
                  unfold cb_X4_formal_153
                  have q_802 := i_rng (F591 12)
                  have q_803 := i_rng (F591 13)
                  have l_804 : (3 : Int32).toInt = 3 := rfl
                  refine WP.bind (cs_X5_tellFormal hfu (F591 12) (F591 13) (3 : Int32) F786 G786 hI786) ?_
                  rintro r805 F805 G805 ⟨hI805, hB805, hT805, hO805, hK805, hp805⟩
                  dsimp only
                  have q_806 := hI805.r 10 rfl
                  have e_807 : (F805 10).toInt = (F786 10).toInt := hO805
                  unfold cb_X4_formal_166
                  refine WP.ite (fun c_808 => ?_) (fun c_808 => ?_)
                  · skip
                    have q_809 := i_rng x1
                    have e_810 := i_lt.mp (show x1 < (4 : Int32) from c_808)
                    unfold cb_X4_formal_182
                    refine WP.ret ?_
                    exact ⟨hI805, (KB.tr (KB.tr (KB.tr (KB.tr (KB.rf : KB F G F G) hB591) hB596) hB786) hB805), (KT.tr (KT.tr (KT.tr (KT.tr (rfl : KT F F) hT591) hT596) hT786) hT805), (show (F805 10).toInt = (F 10).toInt by omega), trivial⟩
                  · skip
                    have q_811 := i_rng x1
                    have e_812 := mt i_lt.mpr (show ¬ (x1 < (4 : Int32)) from c_808)
                    unfold cb_X4_formal_171
                    have l_813 : (8 : Int32).toInt = 8 := rfl
                    refine WP.bind (cs_X5_note hfu (8 : Int32) (F591 13) F805 G805 hI805) ?_
                    rintro r814 F814 G814 ⟨hI814, hB814, hT814, hO814, hK814, hp814⟩
                    dsimp only
                    have q_815 := hI814.r 10 rfl
                    have e_816 : (F814 10).toInt = (F805 10).toInt := hO814
                    unfold cb_X4_formal_182
                    refine WP.ret ?_
                    exact ⟨hI814, (KB.tr (KB.tr (KB.tr (KB.tr (KB.tr (KB.rf : KB F G F G) hB591) hB596) hB786) hB805) hB814), (KT.tr (KT.tr (KT.tr (KT.tr (KT.tr (rfl : KT F F) hT591) hT596) hT786) hT805) hT814), (show (F814 10).toInt = (F 10).toInt by omega), trivial⟩
              · skip
                have e_817 := mt i_eq.mpr (show ¬ (r786 = (0 : Int32)) from c_791)
                unfold cb_X4_formal_124
                have l_818 : (22 : Int32).toInt = 22 := rfl
                refine WP.bind (cs_X2_closesWith hfu (22 : Int32) F786 G786 hI786 (show 0 ≤ (F786 10).toInt by omega) (show (22 : Int32).toInt ≠ -2 by omega)) ?_
                rintro r819 F819 G819 ⟨hI819, hB819, hT819, hS819, hp819⟩
                dsimp only
                have q_820 := hI819.r 10 rfl
                have e_821 : (F819 10).toInt = (F786 10).toInt - 1 := hp819
                unfold cb_X4_formal_133
                refine WP.ite (fun c_822 => ?_) (fun c_822 => ?_)
                · skip
                  have q_823 := hI819.r 45 rfl
                  have e_824 := i_eq.mp (show (F819 45) = (0 : Int32) from c_822)
                  unfold cb_X4_formal_143
                  have l_825 : (3 : Int32).toInt = 3 := rfl
                  refine WP.bind (cs_X8_addFormal hfu (3 : Int32) F819 G819 hI819) ?_
                  rintro r826 F826 G826 ⟨hI826, hB826, hT826, hO826, hK826, hp826⟩
                  dsimp only
                  have q_827 := hI826.r 10 rfl
                  have e_828 : (F826 10).toInt = (F819 10).toInt := hO826
                  unfold cb_X4_formal_152
                  refine WP.ret ?_
                  exact ⟨hI826, (KB.tr (KB.tr (KB.tr (KB.tr (KB.tr (KB.rf : KB F G F G) hB591) hB596) hB786) hB819) hB826), (KT.tr (KT.tr (KT.tr (KT.tr (KT.tr (rfl : KT F F) hT591) hT596) hT786) hT819) hT826), (show (F826 10).toInt = (F 10).toInt by omega), trivial⟩
                · skip
                  have q_829 := hI819.r 45 rfl
                  have e_830 := mt i_eq.mpr (show ¬ ((F819 45) = (0 : Int32)) from c_822)
                  unfold cb_X4_formal_153
                  have q_831 := i_rng (F591 12)
                  have q_832 := i_rng (F591 13)
                  have l_833 : (3 : Int32).toInt = 3 := rfl
                  refine WP.bind (cs_X5_tellFormal hfu (F591 12) (F591 13) (3 : Int32) F819 G819 hI819) ?_
                  rintro r834 F834 G834 ⟨hI834, hB834, hT834, hO834, hK834, hp834⟩
                  dsimp only
                  have q_835 := hI834.r 10 rfl
                  have e_836 : (F834 10).toInt = (F819 10).toInt := hO834
                  unfold cb_X4_formal_166
                  refine WP.ite (fun c_837 => ?_) (fun c_837 => ?_)
                  · skip
                    have q_838 := i_rng x1
                    have e_839 := i_lt.mp (show x1 < (4 : Int32) from c_837)
                    unfold cb_X4_formal_182
                    refine WP.ret ?_
                    exact ⟨hI834, (KB.tr (KB.tr (KB.tr (KB.tr (KB.tr (KB.rf : KB F G F G) hB591) hB596) hB786) hB819) hB834), (KT.tr (KT.tr (KT.tr (KT.tr (KT.tr (rfl : KT F F) hT591) hT596) hT786) hT819) hT834), (show (F834 10).toInt = (F 10).toInt by omega), trivial⟩
                  · skip
                    have q_840 := i_rng x1
                    have e_841 := mt i_lt.mpr (show ¬ (x1 < (4 : Int32)) from c_837)
                    unfold cb_X4_formal_171
                    have l_842 : (8 : Int32).toInt = 8 := rfl
                    refine WP.bind (cs_X5_note hfu (8 : Int32) (F591 13) F834 G834 hI834) ?_
                    rintro r843 F843 G843 ⟨hI843, hB843, hT843, hO843, hK843, hp843⟩
                    dsimp only
                    have q_844 := hI843.r 10 rfl
                    have e_845 : (F843 10).toInt = (F834 10).toInt := hO843
                    unfold cb_X4_formal_182
                    refine WP.ret ?_
                    exact ⟨hI843, (KB.tr (KB.tr (KB.tr (KB.tr (KB.tr (KB.tr (KB.rf : KB F G F G) hB591) hB596) hB786) hB819) hB834) hB843), (KT.tr (KT.tr (KT.tr (KT.tr (KT.tr (KT.tr (rfl : KT F F) hT591) hT596) hT786) hT819) hT834) hT843), (show (F843 10).toInt = (F 10).toInt by omega), trivial⟩
          · skip
            have e_846 := mt i_eq.mpr (show ¬ ((F 11) = (5 : Int32)) from c_725)
            unfold cb_X4_formal_133
            refine WP.ite (fun c_847 => ?_) (fun c_847 => ?_)
            · skip
              have q_848 := hI596.r 45 rfl
              have e_849 := i_eq.mp (show (F596 45) = (0 : Int32) from c_847)
              unfold cb_X4_formal_143
              have l_850 : (1 : Int32).toInt = 1 := rfl
              refine WP.bind (cs_X8_addFormal hfu (1 : Int32) F596 G596 hI596) ?_
              rintro r851 F851 G851 ⟨hI851, hB851, hT851, hO851, hK851, hp851⟩
              dsimp only
              have q_852 := hI851.r 10 rfl
              have e_853 : (F851 10).toInt = (F596 10).toInt := hO851
              unfold cb_X4_formal_152
              refine WP.ret ?_
              exact ⟨hI851, (KB.tr (KB.tr (KB.tr (KB.rf : KB F G F G) hB591) hB596) hB851), (KT.tr (KT.tr (KT.tr (rfl : KT F F) hT591) hT596) hT851), (KO.tr (KO.tr (KO.tr (rfl : KO F F) hO591) hO596) hO851), trivial⟩
            · skip
              have q_854 := hI596.r 45 rfl
              have e_855 := mt i_eq.mpr (show ¬ ((F596 45) = (0 : Int32)) from c_847)
              unfold cb_X4_formal_153
              have q_856 := i_rng (F591 12)
              have q_857 := i_rng (F591 13)
              have l_858 : (1 : Int32).toInt = 1 := rfl
              refine WP.bind (cs_X5_tellFormal hfu (F591 12) (F591 13) (1 : Int32) F596 G596 hI596) ?_
              rintro r859 F859 G859 ⟨hI859, hB859, hT859, hO859, hK859, hp859⟩
              dsimp only
              have q_860 := hI859.r 10 rfl
              have e_861 : (F859 10).toInt = (F596 10).toInt := hO859
              unfold cb_X4_formal_166
              refine WP.ite (fun c_862 => ?_) (fun c_862 => ?_)
              · skip
                have q_863 := i_rng x1
                have e_864 := i_lt.mp (show x1 < (4 : Int32) from c_862)
                unfold cb_X4_formal_182
                refine WP.ret ?_
                exact ⟨hI859, (KB.tr (KB.tr (KB.tr (KB.rf : KB F G F G) hB591) hB596) hB859), (KT.tr (KT.tr (KT.tr (rfl : KT F F) hT591) hT596) hT859), (KO.tr (KO.tr (KO.tr (rfl : KO F F) hO591) hO596) hO859), trivial⟩
              · skip
                have q_865 := i_rng x1
                have e_866 := mt i_lt.mpr (show ¬ (x1 < (4 : Int32)) from c_862)
                unfold cb_X4_formal_171
                have l_867 : (8 : Int32).toInt = 8 := rfl
                refine WP.bind (cs_X5_note hfu (8 : Int32) (F591 13) F859 G859 hI859) ?_
                rintro r868 F868 G868 ⟨hI868, hB868, hT868, hO868, hK868, hp868⟩
                dsimp only
                have q_869 := hI868.r 10 rfl
                have e_870 : (F868 10).toInt = (F859 10).toInt := hO868
                unfold cb_X4_formal_182
                refine WP.ret ?_
                exact ⟨hI868, (KB.tr (KB.tr (KB.tr (KB.tr (KB.rf : KB F G F G) hB591) hB596) hB859) hB868), (KT.tr (KT.tr (KT.tr (KT.tr (rfl : KT F F) hT591) hT596) hT859) hT868), (KO.tr (KO.tr (KO.tr (KO.tr (rfl : KO F F) hO591) hO596) hO859) hO868), trivial⟩
      · skip
        have q_871 := i_rng x2
        have l_872 : (0 : Int32).toInt = 0 := rfl
        have e_873 := mt i_eq.mpr (show ¬ (x2 = (0 : Int32)) from c_587)
        unfold cb_X4_formal_31
        have l_874 : (9 : Int32).toInt = 9 := rfl
        have q_875 := i_rng (F 13)
        refine WP.bind (cs_X5_note hfu (9 : Int32) (F 13) F G hI) ?_
        rintro r876 F876 G876 ⟨hI876, hB876, hT876, hO876, hK876, hp876⟩
        dsimp only
        have q_877 := hI.r 10 rfl
        have q_878 := hI876.r 10 rfl
        have e_879 : (F876 10).toInt = (F 10).toInt := hO876
        unfold cb_X4_formal_47
        refine WP.bind (cs_X2_next hfu F876 G876 hI876) ?_
        rintro r880 F880 G880 ⟨hI880, hB880, hT880, hO880, hp880⟩
        dsimp only
        have q_881 := hI880.r 10 rfl
        have e_882 : (F880 10).toInt = (F876 10).toInt := hO880
        unfold cb_X4_formal_54
        have l_883 : (2 : Int32).toInt = 2 := rfl
        refine WP.bind (cs_X2_expect hfu (2 : Int32) F880 G880 hI880 (show (2 : Int32).toInt ≠ -2 by omega)) ?_
        rintro r884 F884 G884 ⟨hI884, hB884, hT884, hO884, hS884, hp884⟩
        dsimp only
        have q_885 := hI884.r 10 rfl
        have e_886 : (F884 10).toInt = (F880 10).toInt := hO884
        unfold cb_X4_formal_80
        refine WP.ite (fun c_887 => ?_) (fun c_887 => ?_)
        · skip
          have q_888 := i_rng (F884 11)
          have l_889 : (21 : Int32).toInt = 21 := rfl
          have e_890 := i_eq.mp (show (F884 11) = (21 : Int32) from c_887)
          unfold cb_X4_formal_100
          refine WP.ite (fun c_891 => ?_) (fun c_891 => ?_)
          · skip
            have e_892 := i_eq.mp (show (F 11) = (4 : Int32) from c_891)
            unfold cb_X4_formal_105
            unfold cb_X4_formal_110
            refine WP.bind (cs_X2_opens hfu (21 : Int32) F884 G884 hI884 (show (21 : Int32).toInt ≠ -2 by omega)) ?_
            rintro r893 F893 G893 ⟨hI893, hB893, hT893, hS893, hp893⟩
            dsimp only
            have q_894 := b_rng (hp893.1)
            have q_895 := hI893.r 10 rfl
            have e_896 : r893.toInt = 1 → (F893 10).toInt = (F884 10).toInt + 1 ∧ (F884 10).toInt < 40 ∧ (F884 11).toInt ≠ -2 := hp893.2.1
            have e_897 : r893.toInt = 0 → (F893 10).toInt = (F884 10).toInt ∧ (F893 11).toInt = -2 := hp893.2.2
            unfold cb_X4_formal_121
            refine WP.ite (fun c_898 => ?_) (fun c_898 => ?_)
            · skip
              have e_899 := i_eq.mp (show r893 = (0 : Int32) from c_898)
              unfold cb_X4_formal_133
              refine WP.ite (fun c_900 => ?_) (fun c_900 => ?_)
              · skip
                have q_901 := hI893.r 45 rfl
                have e_902 := i_eq.mp (show (F893 45) = (0 : Int32) from c_900)
                unfold cb_X4_formal_143
                refine WP.bind (cs_X8_addFormal hfu (2 : Int32) F893 G893 hI893) ?_
                rintro r903 F903 G903 ⟨hI903, hB903, hT903, hO903, hK903, hp903⟩
                dsimp only
                have q_904 := hI903.r 10 rfl
                have e_905 : (F903 10).toInt = (F893 10).toInt := hO903
                unfold cb_X4_formal_152
                refine WP.ret ?_
                exact ⟨hI903, (KB.tr (KB.tr (KB.tr (KB.tr (KB.tr (KB.rf : KB F G F G) hB876) hB880) hB884) hB893) hB903), (KT.tr (KT.tr (KT.tr (KT.tr (KT.tr (rfl : KT F F) hT876) hT880) hT884) hT893) hT903), (show (F903 10).toInt = (F 10).toInt by omega), trivial⟩
              · skip
                have q_906 := hI893.r 45 rfl
                have e_907 := mt i_eq.mpr (show ¬ ((F893 45) = (0 : Int32)) from c_900)
                unfold cb_X4_formal_153
                have q_908 := i_rng (F880 12)
                have q_909 := i_rng (F880 13)
                refine WP.bind (cs_X5_tellFormal hfu (F880 12) (F880 13) (2 : Int32) F893 G893 hI893) ?_
                rintro r910 F910 G910 ⟨hI910, hB910, hT910, hO910, hK910, hp910⟩
                dsimp only
                have q_911 := hI910.r 10 rfl
                have e_912 : (F910 10).toInt = (F893 10).toInt := hO910
                unfold cb_X4_formal_166
                refine WP.ite (fun c_913 => ?_) (fun c_913 => ?_)
                · skip
                  have q_914 := i_rng x1
                  have e_915 := i_lt.mp (show x1 < (4 : Int32) from c_913)
                  unfold cb_X4_formal_182
                  refine WP.ret ?_
                  exact ⟨hI910, (KB.tr (KB.tr (KB.tr (KB.tr (KB.tr (KB.rf : KB F G F G) hB876) hB880) hB884) hB893) hB910), (KT.tr (KT.tr (KT.tr (KT.tr (KT.tr (rfl : KT F F) hT876) hT880) hT884) hT893) hT910), (show (F910 10).toInt = (F 10).toInt by omega), trivial⟩
                · skip
                  have q_916 := i_rng x1
                  have e_917 := mt i_lt.mpr (show ¬ (x1 < (4 : Int32)) from c_913)
                  unfold cb_X4_formal_171
                  have l_918 : (8 : Int32).toInt = 8 := rfl
                  refine WP.bind (cs_X5_note hfu (8 : Int32) (F880 13) F910 G910 hI910) ?_
                  rintro r919 F919 G919 ⟨hI919, hB919, hT919, hO919, hK919, hp919⟩
                  dsimp only
                  have q_920 := hI919.r 10 rfl
                  have e_921 : (F919 10).toInt = (F910 10).toInt := hO919
                  unfold cb_X4_formal_182
                  refine WP.ret ?_
                  exact ⟨hI919, (KB.tr (KB.tr (KB.tr (KB.tr (KB.tr (KB.tr (KB.rf : KB F G F G) hB876) hB880) hB884) hB893) hB910) hB919), (KT.tr (KT.tr (KT.tr (KT.tr (KT.tr (KT.tr (rfl : KT F F) hT876) hT880) hT884) hT893) hT910) hT919), (show (F919 10).toInt = (F 10).toInt by omega), trivial⟩
            · skip
              have e_922 := mt i_eq.mpr (show ¬ (r893 = (0 : Int32)) from c_898)
              unfold cb_X4_formal_124
              have l_923 : (22 : Int32).toInt = 22 := rfl
              refine WP.bind (cs_X2_closesWith hfu (22 : Int32) F893 G893 hI893 (show 0 ≤ (F893 10).toInt by omega) (show (22 : Int32).toInt ≠ -2 by omega)) ?_
              rintro r924 F924 G924 ⟨hI924, hB924, hT924, hS924, hp924⟩
              dsimp only
              have q_925 := hI924.r 10 rfl
              have e_926 : (F924 10).toInt = (F893 10).toInt - 1 := hp924
              unfold cb_X4_formal_133
              refine WP.ite (fun c_927 => ?_) (fun c_927 => ?_)
              · skip
                have q_928 := hI924.r 45 rfl
                have e_929 := i_eq.mp (show (F924 45) = (0 : Int32) from c_927)
                unfold cb_X4_formal_143
                refine WP.bind (cs_X8_addFormal hfu (2 : Int32) F924 G924 hI924) ?_
                rintro r930 F930 G930 ⟨hI930, hB930, hT930, hO930, hK930, hp930⟩
                dsimp only
                have q_931 := hI930.r 10 rfl
                have e_932 : (F930 10).toInt = (F924 10).toInt := hO930
                unfold cb_X4_formal_152
                refine WP.ret ?_
                exact ⟨hI930, (KB.tr (KB.tr (KB.tr (KB.tr (KB.tr (KB.tr (KB.rf : KB F G F G) hB876) hB880) hB884) hB893) hB924) hB930), (KT.tr (KT.tr (KT.tr (KT.tr (KT.tr (KT.tr (rfl : KT F F) hT876) hT880) hT884) hT893) hT924) hT930), (show (F930 10).toInt = (F 10).toInt by omega), trivial⟩
              · skip
                have q_933 := hI924.r 45 rfl
                have e_934 := mt i_eq.mpr (show ¬ ((F924 45) = (0 : Int32)) from c_927)
                unfold cb_X4_formal_153
                have q_935 := i_rng (F880 12)
                have q_936 := i_rng (F880 13)
                refine WP.bind (cs_X5_tellFormal hfu (F880 12) (F880 13) (2 : Int32) F924 G924 hI924) ?_
                rintro r937 F937 G937 ⟨hI937, hB937, hT937, hO937, hK937, hp937⟩
                dsimp only
                have q_938 := hI937.r 10 rfl
                have e_939 : (F937 10).toInt = (F924 10).toInt := hO937
                unfold cb_X4_formal_166
                refine WP.ite (fun c_940 => ?_) (fun c_940 => ?_)
                · skip
                  have q_941 := i_rng x1
                  have e_942 := i_lt.mp (show x1 < (4 : Int32) from c_940)
                  unfold cb_X4_formal_182
                  refine WP.ret ?_
                  exact ⟨hI937, (KB.tr (KB.tr (KB.tr (KB.tr (KB.tr (KB.tr (KB.rf : KB F G F G) hB876) hB880) hB884) hB893) hB924) hB937), (KT.tr (KT.tr (KT.tr (KT.tr (KT.tr (KT.tr (rfl : KT F F) hT876) hT880) hT884) hT893) hT924) hT937), (show (F937 10).toInt = (F 10).toInt by omega), trivial⟩
                · skip
                  have q_943 := i_rng x1
                  have e_944 := mt i_lt.mpr (show ¬ (x1 < (4 : Int32)) from c_940)
                  unfold cb_X4_formal_171
                  have l_945 : (8 : Int32).toInt = 8 := rfl
                  refine WP.bind (cs_X5_note hfu (8 : Int32) (F880 13) F937 G937 hI937) ?_
                  rintro r946 F946 G946 ⟨hI946, hB946, hT946, hO946, hK946, hp946⟩
                  dsimp only
                  have q_947 := hI946.r 10 rfl
                  have e_948 : (F946 10).toInt = (F937 10).toInt := hO946
                  unfold cb_X4_formal_182
                  refine WP.ret ?_
                  exact ⟨hI946, (KB.tr (KB.tr (KB.tr (KB.tr (KB.tr (KB.tr (KB.tr (KB.rf : KB F G F G) hB876) hB880) hB884) hB893) hB924) hB937) hB946), (KT.tr (KT.tr (KT.tr (KT.tr (KT.tr (KT.tr (KT.tr (rfl : KT F F) hT876) hT880) hT884) hT893) hT924) hT937) hT946), (show (F946 10).toInt = (F 10).toInt by omega), trivial⟩
          · skip
            have e_949 := mt i_eq.mpr (show ¬ ((F 11) = (4 : Int32)) from c_891)
            unfold cb_X4_formal_109
            unfold cb_X4_formal_110
            refine WP.bind (cs_X2_opens hfu (21 : Int32) F884 G884 hI884 (show (21 : Int32).toInt ≠ -2 by omega)) ?_
            rintro r950 F950 G950 ⟨hI950, hB950, hT950, hS950, hp950⟩
            dsimp only
            have q_951 := b_rng (hp950.1)
            have q_952 := hI950.r 10 rfl
            have e_953 : r950.toInt = 1 → (F950 10).toInt = (F884 10).toInt + 1 ∧ (F884 10).toInt < 40 ∧ (F884 11).toInt ≠ -2 := hp950.2.1
            have e_954 : r950.toInt = 0 → (F950 10).toInt = (F884 10).toInt ∧ (F950 11).toInt = -2 := hp950.2.2
            unfold cb_X4_formal_121
            refine WP.ite (fun c_955 => ?_) (fun c_955 => ?_)
            · skip
              have e_956 := i_eq.mp (show r950 = (0 : Int32) from c_955)
              unfold cb_X4_formal_133
              refine WP.ite (fun c_957 => ?_) (fun c_957 => ?_)
              · skip
                have q_958 := hI950.r 45 rfl
                have e_959 := i_eq.mp (show (F950 45) = (0 : Int32) from c_957)
                unfold cb_X4_formal_143
                have l_960 : (3 : Int32).toInt = 3 := rfl
                refine WP.bind (cs_X8_addFormal hfu (3 : Int32) F950 G950 hI950) ?_
                rintro r961 F961 G961 ⟨hI961, hB961, hT961, hO961, hK961, hp961⟩
                dsimp only
                have q_962 := hI961.r 10 rfl
                have e_963 : (F961 10).toInt = (F950 10).toInt := hO961
                unfold cb_X4_formal_152
                refine WP.ret ?_
                exact ⟨hI961, (KB.tr (KB.tr (KB.tr (KB.tr (KB.tr (KB.rf : KB F G F G) hB876) hB880) hB884) hB950) hB961), (KT.tr (KT.tr (KT.tr (KT.tr (KT.tr (rfl : KT F F) hT876) hT880) hT884) hT950) hT961), (show (F961 10).toInt = (F 10).toInt by omega), trivial⟩
              · skip
                have q_964 := hI950.r 45 rfl
                have e_965 := mt i_eq.mpr (show ¬ ((F950 45) = (0 : Int32)) from c_957)
                unfold cb_X4_formal_153
                have q_966 := i_rng (F880 12)
                have q_967 := i_rng (F880 13)
                have l_968 : (3 : Int32).toInt = 3 := rfl
                refine WP.bind (cs_X5_tellFormal hfu (F880 12) (F880 13) (3 : Int32) F950 G950 hI950) ?_
                rintro r969 F969 G969 ⟨hI969, hB969, hT969, hO969, hK969, hp969⟩
                dsimp only
                have q_970 := hI969.r 10 rfl
                have e_971 : (F969 10).toInt = (F950 10).toInt := hO969
                unfold cb_X4_formal_166
                refine WP.ite (fun c_972 => ?_) (fun c_972 => ?_)
                · skip
                  have q_973 := i_rng x1
                  have e_974 := i_lt.mp (show x1 < (4 : Int32) from c_972)
                  unfold cb_X4_formal_182
                  refine WP.ret ?_
                  exact ⟨hI969, (KB.tr (KB.tr (KB.tr (KB.tr (KB.tr (KB.rf : KB F G F G) hB876) hB880) hB884) hB950) hB969), (KT.tr (KT.tr (KT.tr (KT.tr (KT.tr (rfl : KT F F) hT876) hT880) hT884) hT950) hT969), (show (F969 10).toInt = (F 10).toInt by omega), trivial⟩
                · skip
                  have q_975 := i_rng x1
                  have e_976 := mt i_lt.mpr (show ¬ (x1 < (4 : Int32)) from c_972)
                  unfold cb_X4_formal_171
                  have l_977 : (8 : Int32).toInt = 8 := rfl
                  refine WP.bind (cs_X5_note hfu (8 : Int32) (F880 13) F969 G969 hI969) ?_
                  rintro r978 F978 G978 ⟨hI978, hB978, hT978, hO978, hK978, hp978⟩
                  dsimp only
                  have q_979 := hI978.r 10 rfl
                  have e_980 : (F978 10).toInt = (F969 10).toInt := hO978
                  unfold cb_X4_formal_182
                  refine WP.ret ?_
                  exact ⟨hI978, (KB.tr (KB.tr (KB.tr (KB.tr (KB.tr (KB.tr (KB.rf : KB F G F G) hB876) hB880) hB884) hB950) hB969) hB978), (KT.tr (KT.tr (KT.tr (KT.tr (KT.tr (KT.tr (rfl : KT F F) hT876) hT880) hT884) hT950) hT969) hT978), (show (F978 10).toInt = (F 10).toInt by omega), trivial⟩
            · skip
              have e_981 := mt i_eq.mpr (show ¬ (r950 = (0 : Int32)) from c_955)
              unfold cb_X4_formal_124
              have l_982 : (22 : Int32).toInt = 22 := rfl
              refine WP.bind (cs_X2_closesWith hfu (22 : Int32) F950 G950 hI950 (show 0 ≤ (F950 10).toInt by omega) (show (22 : Int32).toInt ≠ -2 by omega)) ?_
              rintro r983 F983 G983 ⟨hI983, hB983, hT983, hS983, hp983⟩
              dsimp only
              have q_984 := hI983.r 10 rfl
              have e_985 : (F983 10).toInt = (F950 10).toInt - 1 := hp983
              unfold cb_X4_formal_133
              refine WP.ite (fun c_986 => ?_) (fun c_986 => ?_)
              · skip
                have q_987 := hI983.r 45 rfl
                have e_988 := i_eq.mp (show (F983 45) = (0 : Int32) from c_986)
                unfold cb_X4_formal_143
                have l_989 : (3 : Int32).toInt = 3 := rfl
                refine WP.bind (cs_X8_addFormal hfu (3 : Int32) F983 G983 hI983) ?_
                rintro r990 F990 G990 ⟨hI990, hB990, hT990, hO990, hK990, hp990⟩
                dsimp only
                have q_991 := hI990.r 10 rfl
                have e_992 : (F990 10).toInt = (F983 10).toInt := hO990
                unfold cb_X4_formal_152
                refine WP.ret ?_
                exact ⟨hI990, (KB.tr (KB.tr (KB.tr (KB.tr (KB.tr (KB.tr (KB.rf : KB F G F G) hB876) hB880) hB884) hB950) hB983) hB990), (KT.tr (KT.tr (KT.tr (KT.tr (KT.tr (KT.tr (rfl : KT F F) hT876) hT880) hT884) hT950) hT983) hT990), (show (F990 10).toInt = (F 10).toInt by omega), trivial⟩
              · skip
                have q_993 := hI983.r 45 rfl
                have e_994 := mt i_eq.mpr (show ¬ ((F983 45) = (0 : Int32)) from c_986)
                unfold cb_X4_formal_153
                have q_995 := i_rng (F880 12)
                have q_996 := i_rng (F880 13)
                have l_997 : (3 : Int32).toInt = 3 := rfl
                refine WP.bind (cs_X5_tellFormal hfu (F880 12) (F880 13) (3 : Int32) F983 G983 hI983) ?_
                rintro r998 F998 G998 ⟨hI998, hB998, hT998, hO998, hK998, hp998⟩
                dsimp only
                have q_999 := hI998.r 10 rfl
                have e_1000 : (F998 10).toInt = (F983 10).toInt := hO998
                unfold cb_X4_formal_166
                refine WP.ite (fun c_1001 => ?_) (fun c_1001 => ?_)
                · skip
                  have q_1002 := i_rng x1
                  have e_1003 := i_lt.mp (show x1 < (4 : Int32) from c_1001)
                  unfold cb_X4_formal_182
                  refine WP.ret ?_
                  exact ⟨hI998, (KB.tr (KB.tr (KB.tr (KB.tr (KB.tr (KB.tr (KB.rf : KB F G F G) hB876) hB880) hB884) hB950) hB983) hB998), (KT.tr (KT.tr (KT.tr (KT.tr (KT.tr (KT.tr (rfl : KT F F) hT876) hT880) hT884) hT950) hT983) hT998), (show (F998 10).toInt = (F 10).toInt by omega), trivial⟩
                · skip
                  have q_1004 := i_rng x1
                  have e_1005 := mt i_lt.mpr (show ¬ (x1 < (4 : Int32)) from c_1001)
                  unfold cb_X4_formal_171
                  have l_1006 : (8 : Int32).toInt = 8 := rfl
                  refine WP.bind (cs_X5_note hfu (8 : Int32) (F880 13) F998 G998 hI998) ?_
                  rintro r1007 F1007 G1007 ⟨hI1007, hB1007, hT1007, hO1007, hK1007, hp1007⟩
                  dsimp only
                  have q_1008 := hI1007.r 10 rfl
                  have e_1009 : (F1007 10).toInt = (F998 10).toInt := hO1007
                  unfold cb_X4_formal_182
                  refine WP.ret ?_
                  exact ⟨hI1007, (KB.tr (KB.tr (KB.tr (KB.tr (KB.tr (KB.tr (KB.tr (KB.rf : KB F G F G) hB876) hB880) hB884) hB950) hB983) hB998) hB1007), (KT.tr (KT.tr (KT.tr (KT.tr (KT.tr (KT.tr (KT.tr (rfl : KT F F) hT876) hT880) hT884) hT950) hT983) hT998) hT1007), (show (F1007 10).toInt = (F 10).toInt by omega), trivial⟩
        · skip
          have q_1010 := i_rng (F884 11)
          have l_1011 : (21 : Int32).toInt = 21 := rfl
          have e_1012 := mt i_eq.mpr (show ¬ ((F884 11) = (21 : Int32)) from c_887)
          unfold cb_X4_formal_95
          refine WP.ite (fun c_1013 => ?_) (fun c_1013 => ?_)
          · skip
            have e_1014 := i_eq.mp (show (F 11) = (5 : Int32) from c_1013)
            unfold cb_X4_formal_100
            refine WP.ite (fun c_1015 => ?_) (fun c_1015 => ?_)
            · skip
              have e_1016 := i_eq.mp (show (F 11) = (4 : Int32) from c_1015)
              unfold cb_X4_formal_105
              unfold cb_X4_formal_110
              refine WP.bind (cs_X2_opens hfu (21 : Int32) F884 G884 hI884 (show (21 : Int32).toInt ≠ -2 by omega)) ?_
              rintro r1017 F1017 G1017 ⟨hI1017, hB1017, hT1017, hS1017, hp1017⟩
              dsimp only
              have q_1018 := b_rng (hp1017.1)
              have q_1019 := hI1017.r 10 rfl
              have e_1020 : r1017.toInt = 1 → (F1017 10).toInt = (F884 10).toInt + 1 ∧ (F884 10).toInt < 40 ∧ (F884 11).toInt ≠ -2 := hp1017.2.1
              have e_1021 : r1017.toInt = 0 → (F1017 10).toInt = (F884 10).toInt ∧ (F1017 11).toInt = -2 := hp1017.2.2
              unfold cb_X4_formal_121
              refine WP.ite (fun c_1022 => ?_) (fun c_1022 => ?_)
              · skip
                have e_1023 := i_eq.mp (show r1017 = (0 : Int32) from c_1022)
                unfold cb_X4_formal_133
                refine WP.ite (fun c_1024 => ?_) (fun c_1024 => ?_)
                · skip
                  have q_1025 := hI1017.r 45 rfl
                  have e_1026 := i_eq.mp (show (F1017 45) = (0 : Int32) from c_1024)
                  unfold cb_X4_formal_143
                  refine WP.bind (cs_X8_addFormal hfu (2 : Int32) F1017 G1017 hI1017) ?_
                  rintro r1027 F1027 G1027 ⟨hI1027, hB1027, hT1027, hO1027, hK1027, hp1027⟩
                  dsimp only
                  have q_1028 := hI1027.r 10 rfl
                  have e_1029 : (F1027 10).toInt = (F1017 10).toInt := hO1027
                  unfold cb_X4_formal_152
                  refine WP.ret ?_
                  exact ⟨hI1027, (KB.tr (KB.tr (KB.tr (KB.tr (KB.tr (KB.rf : KB F G F G) hB876) hB880) hB884) hB1017) hB1027), (KT.tr (KT.tr (KT.tr (KT.tr (KT.tr (rfl : KT F F) hT876) hT880) hT884) hT1017) hT1027), (show (F1027 10).toInt = (F 10).toInt by omega), trivial⟩
                · skip
                  have q_1030 := hI1017.r 45 rfl
                  have e_1031 := mt i_eq.mpr (show ¬ ((F1017 45) = (0 : Int32)) from c_1024)
                  unfold cb_X4_formal_153
                  have q_1032 := i_rng (F880 12)
                  have q_1033 := i_rng (F880 13)
                  refine WP.bind (cs_X5_tellFormal hfu (F880 12) (F880 13) (2 : Int32) F1017 G1017 hI1017) ?_
                  rintro r1034 F1034 G1034 ⟨hI1034, hB1034, hT1034, hO1034, hK1034, hp1034⟩
                  dsimp only
                  have q_1035 := hI1034.r 10 rfl
                  have e_1036 : (F1034 10).toInt = (F1017 10).toInt := hO1034
                  unfold cb_X4_formal_166
                  refine WP.ite (fun c_1037 => ?_) (fun c_1037 => ?_)
                  · skip
                    have q_1038 := i_rng x1
                    have e_1039 := i_lt.mp (show x1 < (4 : Int32) from c_1037)
                    unfold cb_X4_formal_182
                    refine WP.ret ?_
                    exact ⟨hI1034, (KB.tr (KB.tr (KB.tr (KB.tr (KB.tr (KB.rf : KB F G F G) hB876) hB880) hB884) hB1017) hB1034), (KT.tr (KT.tr (KT.tr (KT.tr (KT.tr (rfl : KT F F) hT876) hT880) hT884) hT1017) hT1034), (show (F1034 10).toInt = (F 10).toInt by omega), trivial⟩
                  · skip
                    have q_1040 := i_rng x1
                    have e_1041 := mt i_lt.mpr (show ¬ (x1 < (4 : Int32)) from c_1037)
                    unfold cb_X4_formal_171
                    have l_1042 : (8 : Int32).toInt = 8 := rfl
                    refine WP.bind (cs_X5_note hfu (8 : Int32) (F880 13) F1034 G1034 hI1034) ?_
                    rintro r1043 F1043 G1043 ⟨hI1043, hB1043, hT1043, hO1043, hK1043, hp1043⟩
                    dsimp only
                    have q_1044 := hI1043.r 10 rfl
                    have e_1045 : (F1043 10).toInt = (F1034 10).toInt := hO1043
                    unfold cb_X4_formal_182
                    refine WP.ret ?_
                    exact ⟨hI1043, (KB.tr (KB.tr (KB.tr (KB.tr (KB.tr (KB.tr (KB.rf : KB F G F G) hB876) hB880) hB884) hB1017) hB1034) hB1043), (KT.tr (KT.tr (KT.tr (KT.tr (KT.tr (KT.tr (rfl : KT F F) hT876) hT880) hT884) hT1017) hT1034) hT1043), (show (F1043 10).toInt = (F 10).toInt by omega), trivial⟩
              · skip
                have e_1046 := mt i_eq.mpr (show ¬ (r1017 = (0 : Int32)) from c_1022)
                unfold cb_X4_formal_124
                have l_1047 : (22 : Int32).toInt = 22 := rfl
                refine WP.bind (cs_X2_closesWith hfu (22 : Int32) F1017 G1017 hI1017 (show 0 ≤ (F1017 10).toInt by omega) (show (22 : Int32).toInt ≠ -2 by omega)) ?_
                rintro r1048 F1048 G1048 ⟨hI1048, hB1048, hT1048, hS1048, hp1048⟩
                dsimp only
                have q_1049 := hI1048.r 10 rfl
                have e_1050 : (F1048 10).toInt = (F1017 10).toInt - 1 := hp1048
                unfold cb_X4_formal_133
                refine WP.ite (fun c_1051 => ?_) (fun c_1051 => ?_)
                · skip
                  have q_1052 := hI1048.r 45 rfl
                  have e_1053 := i_eq.mp (show (F1048 45) = (0 : Int32) from c_1051)
                  unfold cb_X4_formal_143
                  refine WP.bind (cs_X8_addFormal hfu (2 : Int32) F1048 G1048 hI1048) ?_
                  rintro r1054 F1054 G1054 ⟨hI1054, hB1054, hT1054, hO1054, hK1054, hp1054⟩
                  dsimp only
                  have q_1055 := hI1054.r 10 rfl
                  have e_1056 : (F1054 10).toInt = (F1048 10).toInt := hO1054
                  unfold cb_X4_formal_152
                  refine WP.ret ?_
                  exact ⟨hI1054, (KB.tr (KB.tr (KB.tr (KB.tr (KB.tr (KB.tr (KB.rf : KB F G F G) hB876) hB880) hB884) hB1017) hB1048) hB1054), (KT.tr (KT.tr (KT.tr (KT.tr (KT.tr (KT.tr (rfl : KT F F) hT876) hT880) hT884) hT1017) hT1048) hT1054), (show (F1054 10).toInt = (F 10).toInt by omega), trivial⟩
                · skip
                  have q_1057 := hI1048.r 45 rfl
                  have e_1058 := mt i_eq.mpr (show ¬ ((F1048 45) = (0 : Int32)) from c_1051)
                  unfold cb_X4_formal_153
                  have q_1059 := i_rng (F880 12)
                  have q_1060 := i_rng (F880 13)
                  refine WP.bind (cs_X5_tellFormal hfu (F880 12) (F880 13) (2 : Int32) F1048 G1048 hI1048) ?_
                  rintro r1061 F1061 G1061 ⟨hI1061, hB1061, hT1061, hO1061, hK1061, hp1061⟩
                  dsimp only
                  have q_1062 := hI1061.r 10 rfl
                  have e_1063 : (F1061 10).toInt = (F1048 10).toInt := hO1061
                  unfold cb_X4_formal_166
                  refine WP.ite (fun c_1064 => ?_) (fun c_1064 => ?_)
                  · skip
                    have q_1065 := i_rng x1
                    have e_1066 := i_lt.mp (show x1 < (4 : Int32) from c_1064)
                    unfold cb_X4_formal_182
                    refine WP.ret ?_
                    exact ⟨hI1061, (KB.tr (KB.tr (KB.tr (KB.tr (KB.tr (KB.tr (KB.rf : KB F G F G) hB876) hB880) hB884) hB1017) hB1048) hB1061), (KT.tr (KT.tr (KT.tr (KT.tr (KT.tr (KT.tr (rfl : KT F F) hT876) hT880) hT884) hT1017) hT1048) hT1061), (show (F1061 10).toInt = (F 10).toInt by omega), trivial⟩
                  · skip
                    have q_1067 := i_rng x1
                    have e_1068 := mt i_lt.mpr (show ¬ (x1 < (4 : Int32)) from c_1064)
                    unfold cb_X4_formal_171
                    have l_1069 : (8 : Int32).toInt = 8 := rfl
                    refine WP.bind (cs_X5_note hfu (8 : Int32) (F880 13) F1061 G1061 hI1061) ?_
                    rintro r1070 F1070 G1070 ⟨hI1070, hB1070, hT1070, hO1070, hK1070, hp1070⟩
                    dsimp only
                    have q_1071 := hI1070.r 10 rfl
                    have e_1072 : (F1070 10).toInt = (F1061 10).toInt := hO1070
                    unfold cb_X4_formal_182
                    refine WP.ret ?_
                    exact ⟨hI1070, (KB.tr (KB.tr (KB.tr (KB.tr (KB.tr (KB.tr (KB.tr (KB.rf : KB F G F G) hB876) hB880) hB884) hB1017) hB1048) hB1061) hB1070), (KT.tr (KT.tr (KT.tr (KT.tr (KT.tr (KT.tr (KT.tr (rfl : KT F F) hT876) hT880) hT884) hT1017) hT1048) hT1061) hT1070), (show (F1070 10).toInt = (F 10).toInt by omega), trivial⟩
            · skip
              have e_1073 := mt i_eq.mpr (show ¬ ((F 11) = (4 : Int32)) from c_1015)
              unfold cb_X4_formal_109
              unfold cb_X4_formal_110
              refine WP.bind (cs_X2_opens hfu (21 : Int32) F884 G884 hI884 (show (21 : Int32).toInt ≠ -2 by omega)) ?_
              rintro r1074 F1074 G1074 ⟨hI1074, hB1074, hT1074, hS1074, hp1074⟩
              dsimp only
              have q_1075 := b_rng (hp1074.1)
              have q_1076 := hI1074.r 10 rfl
              have e_1077 : r1074.toInt = 1 → (F1074 10).toInt = (F884 10).toInt + 1 ∧ (F884 10).toInt < 40 ∧ (F884 11).toInt ≠ -2 := hp1074.2.1
              have e_1078 : r1074.toInt = 0 → (F1074 10).toInt = (F884 10).toInt ∧ (F1074 11).toInt = -2 := hp1074.2.2
              unfold cb_X4_formal_121
              refine WP.ite (fun c_1079 => ?_) (fun c_1079 => ?_)
              · skip
                have e_1080 := i_eq.mp (show r1074 = (0 : Int32) from c_1079)
                unfold cb_X4_formal_133
                refine WP.ite (fun c_1081 => ?_) (fun c_1081 => ?_)
                · skip
                  have q_1082 := hI1074.r 45 rfl
                  have e_1083 := i_eq.mp (show (F1074 45) = (0 : Int32) from c_1081)
                  unfold cb_X4_formal_143
                  have l_1084 : (3 : Int32).toInt = 3 := rfl
                  refine WP.bind (cs_X8_addFormal hfu (3 : Int32) F1074 G1074 hI1074) ?_
                  rintro r1085 F1085 G1085 ⟨hI1085, hB1085, hT1085, hO1085, hK1085, hp1085⟩
                  dsimp only
                  have q_1086 := hI1085.r 10 rfl
                  have e_1087 : (F1085 10).toInt = (F1074 10).toInt := hO1085
                  unfold cb_X4_formal_152
                  refine WP.ret ?_
                  exact ⟨hI1085, (KB.tr (KB.tr (KB.tr (KB.tr (KB.tr (KB.rf : KB F G F G) hB876) hB880) hB884) hB1074) hB1085), (KT.tr (KT.tr (KT.tr (KT.tr (KT.tr (rfl : KT F F) hT876) hT880) hT884) hT1074) hT1085), (show (F1085 10).toInt = (F 10).toInt by omega), trivial⟩
                · skip
                  have q_1088 := hI1074.r 45 rfl
                  have e_1089 := mt i_eq.mpr (show ¬ ((F1074 45) = (0 : Int32)) from c_1081)
                  unfold cb_X4_formal_153
                  have q_1090 := i_rng (F880 12)
                  have q_1091 := i_rng (F880 13)
                  have l_1092 : (3 : Int32).toInt = 3 := rfl
                  refine WP.bind (cs_X5_tellFormal hfu (F880 12) (F880 13) (3 : Int32) F1074 G1074 hI1074) ?_
                  rintro r1093 F1093 G1093 ⟨hI1093, hB1093, hT1093, hO1093, hK1093, hp1093⟩
                  dsimp only
                  have q_1094 := hI1093.r 10 rfl
                  have e_1095 : (F1093 10).toInt = (F1074 10).toInt := hO1093
                  unfold cb_X4_formal_166
                  refine WP.ite (fun c_1096 => ?_) (fun c_1096 => ?_)
                  · skip
                    have q_1097 := i_rng x1
                    have e_1098 := i_lt.mp (show x1 < (4 : Int32) from c_1096)
                    unfold cb_X4_formal_182
                    refine WP.ret ?_
                    exact ⟨hI1093, (KB.tr (KB.tr (KB.tr (KB.tr (KB.tr (KB.rf : KB F G F G) hB876) hB880) hB884) hB1074) hB1093), (KT.tr (KT.tr (KT.tr (KT.tr (KT.tr (rfl : KT F F) hT876) hT880) hT884) hT1074) hT1093), (show (F1093 10).toInt = (F 10).toInt by omega), trivial⟩
                  · skip
                    have q_1099 := i_rng x1
                    have e_1100 := mt i_lt.mpr (show ¬ (x1 < (4 : Int32)) from c_1096)
                    unfold cb_X4_formal_171
                    have l_1101 : (8 : Int32).toInt = 8 := rfl
                    refine WP.bind (cs_X5_note hfu (8 : Int32) (F880 13) F1093 G1093 hI1093) ?_
                    rintro r1102 F1102 G1102 ⟨hI1102, hB1102, hT1102, hO1102, hK1102, hp1102⟩
                    dsimp only
                    have q_1103 := hI1102.r 10 rfl
                    have e_1104 : (F1102 10).toInt = (F1093 10).toInt := hO1102
                    unfold cb_X4_formal_182
                    refine WP.ret ?_
                    exact ⟨hI1102, (KB.tr (KB.tr (KB.tr (KB.tr (KB.tr (KB.tr (KB.rf : KB F G F G) hB876) hB880) hB884) hB1074) hB1093) hB1102), (KT.tr (KT.tr (KT.tr (KT.tr (KT.tr (KT.tr (rfl : KT F F) hT876) hT880) hT884) hT1074) hT1093) hT1102), (show (F1102 10).toInt = (F 10).toInt by omega), trivial⟩
              · skip
                have e_1105 := mt i_eq.mpr (show ¬ (r1074 = (0 : Int32)) from c_1079)
                unfold cb_X4_formal_124
                have l_1106 : (22 : Int32).toInt = 22 := rfl
                refine WP.bind (cs_X2_closesWith hfu (22 : Int32) F1074 G1074 hI1074 (show 0 ≤ (F1074 10).toInt by omega) (show (22 : Int32).toInt ≠ -2 by omega)) ?_
                rintro r1107 F1107 G1107 ⟨hI1107, hB1107, hT1107, hS1107, hp1107⟩
                dsimp only
                have q_1108 := hI1107.r 10 rfl
                have e_1109 : (F1107 10).toInt = (F1074 10).toInt - 1 := hp1107
                unfold cb_X4_formal_133
                refine WP.ite (fun c_1110 => ?_) (fun c_1110 => ?_)
                · skip
                  have q_1111 := hI1107.r 45 rfl
                  have e_1112 := i_eq.mp (show (F1107 45) = (0 : Int32) from c_1110)
                  unfold cb_X4_formal_143
                  have l_1113 : (3 : Int32).toInt = 3 := rfl
                  refine WP.bind (cs_X8_addFormal hfu (3 : Int32) F1107 G1107 hI1107) ?_
                  rintro r1114 F1114 G1114 ⟨hI1114, hB1114, hT1114, hO1114, hK1114, hp1114⟩
                  dsimp only
                  have q_1115 := hI1114.r 10 rfl
                  have e_1116 : (F1114 10).toInt = (F1107 10).toInt := hO1114
                  unfold cb_X4_formal_152
                  refine WP.ret ?_
                  exact ⟨hI1114, (KB.tr (KB.tr (KB.tr (KB.tr (KB.tr (KB.tr (KB.rf : KB F G F G) hB876) hB880) hB884) hB1074) hB1107) hB1114), (KT.tr (KT.tr (KT.tr (KT.tr (KT.tr (KT.tr (rfl : KT F F) hT876) hT880) hT884) hT1074) hT1107) hT1114), (show (F1114 10).toInt = (F 10).toInt by omega), trivial⟩
                · skip
                  have q_1117 := hI1107.r 45 rfl
                  have e_1118 := mt i_eq.mpr (show ¬ ((F1107 45) = (0 : Int32)) from c_1110)
                  unfold cb_X4_formal_153
                  have q_1119 := i_rng (F880 12)
                  have q_1120 := i_rng (F880 13)
                  have l_1121 : (3 : Int32).toInt = 3 := rfl
                  refine WP.bind (cs_X5_tellFormal hfu (F880 12) (F880 13) (3 : Int32) F1107 G1107 hI1107) ?_
                  rintro r1122 F1122 G1122 ⟨hI1122, hB1122, hT1122, hO1122, hK1122, hp1122⟩
                  dsimp only
                  have q_1123 := hI1122.r 10 rfl
                  have e_1124 : (F1122 10).toInt = (F1107 10).toInt := hO1122
                  unfold cb_X4_formal_166
                  refine WP.ite (fun c_1125 => ?_) (fun c_1125 => ?_)
                  · skip
                    have q_1126 := i_rng x1
                    have e_1127 := i_lt.mp (show x1 < (4 : Int32) from c_1125)
                    unfold cb_X4_formal_182
                    refine WP.ret ?_
                    exact ⟨hI1122, (KB.tr (KB.tr (KB.tr (KB.tr (KB.tr (KB.tr (KB.rf : KB F G F G) hB876) hB880) hB884) hB1074) hB1107) hB1122), (KT.tr (KT.tr (KT.tr (KT.tr (KT.tr (KT.tr (rfl : KT F F) hT876) hT880) hT884) hT1074) hT1107) hT1122), (show (F1122 10).toInt = (F 10).toInt by omega), trivial⟩
                  · skip
                    have q_1128 := i_rng x1
                    have e_1129 := mt i_lt.mpr (show ¬ (x1 < (4 : Int32)) from c_1125)
                    unfold cb_X4_formal_171
                    have l_1130 : (8 : Int32).toInt = 8 := rfl
                    refine WP.bind (cs_X5_note hfu (8 : Int32) (F880 13) F1122 G1122 hI1122) ?_
                    rintro r1131 F1131 G1131 ⟨hI1131, hB1131, hT1131, hO1131, hK1131, hp1131⟩
                    dsimp only
                    have q_1132 := hI1131.r 10 rfl
                    have e_1133 : (F1131 10).toInt = (F1122 10).toInt := hO1131
                    unfold cb_X4_formal_182
                    refine WP.ret ?_
                    exact ⟨hI1131, (KB.tr (KB.tr (KB.tr (KB.tr (KB.tr (KB.tr (KB.tr (KB.rf : KB F G F G) hB876) hB880) hB884) hB1074) hB1107) hB1122) hB1131), (KT.tr (KT.tr (KT.tr (KT.tr (KT.tr (KT.tr (KT.tr (rfl : KT F F) hT876) hT880) hT884) hT1074) hT1107) hT1122) hT1131), (show (F1131 10).toInt = (F 10).toInt by omega), trivial⟩
          · skip
            have e_1134 := mt i_eq.mpr (show ¬ ((F 11) = (5 : Int32)) from c_1013)
            unfold cb_X4_formal_133
            refine WP.ite (fun c_1135 => ?_) (fun c_1135 => ?_)
            · skip
              have q_1136 := hI884.r 45 rfl
              have e_1137 := i_eq.mp (show (F884 45) = (0 : Int32) from c_1135)
              unfold cb_X4_formal_143
              have l_1138 : (1 : Int32).toInt = 1 := rfl
              refine WP.bind (cs_X8_addFormal hfu (1 : Int32) F884 G884 hI884) ?_
              rintro r1139 F1139 G1139 ⟨hI1139, hB1139, hT1139, hO1139, hK1139, hp1139⟩
              dsimp only
              have q_1140 := hI1139.r 10 rfl
              have e_1141 : (F1139 10).toInt = (F884 10).toInt := hO1139
              unfold cb_X4_formal_152
              refine WP.ret ?_
              exact ⟨hI1139, (KB.tr (KB.tr (KB.tr (KB.tr (KB.rf : KB F G F G) hB876) hB880) hB884) hB1139), (KT.tr (KT.tr (KT.tr (KT.tr (rfl : KT F F) hT876) hT880) hT884) hT1139), (KO.tr (KO.tr (KO.tr (KO.tr (rfl : KO F F) hO876) hO880) hO884) hO1139), trivial⟩
            · skip
              have q_1142 := hI884.r 45 rfl
              have e_1143 := mt i_eq.mpr (show ¬ ((F884 45) = (0 : Int32)) from c_1135)
              unfold cb_X4_formal_153
              have q_1144 := i_rng (F880 12)
              have q_1145 := i_rng (F880 13)
              have l_1146 : (1 : Int32).toInt = 1 := rfl
              refine WP.bind (cs_X5_tellFormal hfu (F880 12) (F880 13) (1 : Int32) F884 G884 hI884) ?_
              rintro r1147 F1147 G1147 ⟨hI1147, hB1147, hT1147, hO1147, hK1147, hp1147⟩
              dsimp only
              have q_1148 := hI1147.r 10 rfl
              have e_1149 : (F1147 10).toInt = (F884 10).toInt := hO1147
              unfold cb_X4_formal_166
              refine WP.ite (fun c_1150 => ?_) (fun c_1150 => ?_)
              · skip
                have q_1151 := i_rng x1
                have e_1152 := i_lt.mp (show x1 < (4 : Int32) from c_1150)
                unfold cb_X4_formal_182
                refine WP.ret ?_
                exact ⟨hI1147, (KB.tr (KB.tr (KB.tr (KB.tr (KB.rf : KB F G F G) hB876) hB880) hB884) hB1147), (KT.tr (KT.tr (KT.tr (KT.tr (rfl : KT F F) hT876) hT880) hT884) hT1147), (KO.tr (KO.tr (KO.tr (KO.tr (rfl : KO F F) hO876) hO880) hO884) hO1147), trivial⟩
              · skip
                have q_1153 := i_rng x1
                have e_1154 := mt i_lt.mpr (show ¬ (x1 < (4 : Int32)) from c_1150)
                unfold cb_X4_formal_171
                have l_1155 : (8 : Int32).toInt = 8 := rfl
                refine WP.bind (cs_X5_note hfu (8 : Int32) (F880 13) F1147 G1147 hI1147) ?_
                rintro r1156 F1156 G1156 ⟨hI1156, hB1156, hT1156, hO1156, hK1156, hp1156⟩
                dsimp only
                have q_1157 := hI1156.r 10 rfl
                have e_1158 : (F1156 10).toInt = (F1147 10).toInt := hO1156
                unfold cb_X4_formal_182
                refine WP.ret ?_
                exact ⟨hI1156, (KB.tr (KB.tr (KB.tr (KB.tr (KB.tr (KB.rf : KB F G F G) hB876) hB880) hB884) hB1147) hB1156), (KT.tr (KT.tr (KT.tr (KT.tr (KT.tr (rfl : KT F F) hT876) hT880) hT884) hT1147) hT1156), (KO.tr (KO.tr (KO.tr (KO.tr (KO.tr (rfl : KO F F) hO876) hO880) hO884) hO1147) hO1156), trivial⟩
    · skip
      have l_1159 : (5 : Int32).toInt = 5 := rfl
      have e_1160 := mt i_eq.mpr (show ¬ ((F 11) = (5 : Int32)) from c_584)
      unfold cb_X4_formal_18
      have l_1161 : (2 : Int32).toInt = 2 := rfl
      refine WP.bind (cs_X2_fail hfu (2 : Int32) F G hI) ?_
      rintro r1162 F1162 G1162 ⟨hI1162, hB1162, hT1162, hO1162, hp1162⟩
      dsimp only
      have q_1163 := hI.r 10 rfl
      have q_1164 := hI1162.r 10 rfl
      have e_1165 : (F1162 10).toInt = (F 10).toInt := hO1162
      have q_1166 := i_rng (F1162 11)
      have e_1167 : (F1162 11).toInt = -2 := hp1162
      unfold cb_X4_formal_26
      refine WP.ret ?_
      exact ⟨hI1162, (KB.tr (KB.rf : KB F G F G) hB1162), (KT.tr (rfl : KT F F) hT1162), (KO.tr (rfl : KO F F) hO1162), trivial⟩
