theorem cs_X11_look {fu : Nat} (hfu : 8589934592 ≤ fu) (x1 : Int32) (x2 : Int32) (F : PF) (G : PG) (hI : CI F G) : WP (cf_X11_look fu x1 x2 F G) (fun r' F' G' => F = F' ∧ G = G' ∧ True) := by
  unfold cf_X11_look
  unfold cb_X11_look_0
  refine WP.ite (fun c_1 => ?_) (fun c_1 => ?_)
  · skip
    have q_2 := hI.r 73 rfl
    have l_3 : (0 : Int32).toInt = 0 := rfl
    have e_4 := i_eq.mp (show (F 73) = (0 : Int32) from c_1)
    unfold cb_X11_look_10
    refine WP.ret ?_
    exact ⟨rfl, rfl, trivial⟩
  · skip
    have q_5 := hI.r 73 rfl
    have l_6 : (0 : Int32).toInt = 0 := rfl
    have e_7 := mt i_eq.mpr (show ¬ ((F 73) = (0 : Int32)) from c_1)
    unfold cb_X11_look_12
    refine WP.ite (fun c_8 => ?_) (fun c_8 => ?_)
    · skip
      have q_9 := i_rng x1
      have e_10 := i_eq.mp (show x1 = (0 : Int32) from c_8)
      unfold cb_X11_look_16
      refine WP.ret ?_
      exact ⟨rfl, rfl, trivial⟩
    · skip
      have q_11 := i_rng x1
      have e_12 := mt i_eq.mpr (show ¬ (x1 = (0 : Int32)) from c_8)
      unfold cb_X11_look_24
      refine WP.ite (fun c_13 => ?_) (fun c_13 => ?_)
      · skip
        have l_14 : (1 : Int32).toInt = 1 := rfl
        have e_15 := i_eq.mp (show x1 = (1 : Int32) from c_13)
        unfold cb_X11_look_29
        refine WP.ret ?_
        exact ⟨rfl, rfl, trivial⟩
      · skip
        have l_16 : (1 : Int32).toInt = 1 := rfl
        have e_17 := mt i_eq.mpr (show ¬ (x1 = (1 : Int32)) from c_13)
        unfold cb_X11_look_37
        refine WP.ite (fun c_18 => ?_) (fun c_18 => ?_)
        · skip
          have q_19 := i_rng x2
          have e_20 := i_lt.mp (show x2 < (0 : Int32) from c_18)
          unfold cb_X11_look_52
          refine WP.ret ?_
          exact ⟨rfl, rfl, trivial⟩
        · skip
          have q_21 := i_rng x2
          have e_22 := mt i_lt.mpr (show ¬ (x2 < (0 : Int32)) from c_18)
          unfold cb_X11_look_41
          refine WP.ite (fun c_23 => ?_) (fun c_23 => ?_)
          · skip
            have q_24 := hI.r 74 rfl
            have e_25 := i_lt.mp (show x2 < (F 74) from c_23)
            unfold cb_X11_look_54
            refine WP.ite (fun c_26 => ?_) (fun c_26 => ?_)
            · have e_27 : x1.toInt < 2 ∨ 5 < x1.toInt := c_26
              unfold cb_X11_look_131
              refine WP.ret ?_
              exact ⟨rfl, rfl, trivial⟩
            have e_28 : ¬ (x1.toInt < 2 ∨ 5 < x1.toInt) := c_26
            refine WP.ite (fun c_29 => ?_) (fun c_29 => ?_)
            · skip
              have l_30 : (2 : Int32).toInt = 2 := rfl
              have e_31 := i_eq.mp (show x1 = (2 : Int32) from c_29)
              unfold cb_X11_look_84
              refine WP.ix (show vp_in x2 450 from vp_in_iff.mpr ⟨by omega, by omega⟩) ?_
              refine WP.ret ?_
              exact ⟨rfl, rfl, trivial⟩
            have l_32 : (2 : Int32).toInt = 2 := rfl
            have e_33 := mt i_eq.mpr (show ¬ (x1 = (2 : Int32)) from c_29)
            refine WP.ite (fun c_34 => ?_) (fun c_34 => ?_)
            · skip
              have l_35 : (3 : Int32).toInt = 3 := rfl
              have e_36 := i_eq.mp (show x1 = (3 : Int32) from c_34)
              unfold cb_X11_look_94
              refine WP.ix (show vp_in x2 450 from vp_in_iff.mpr ⟨by omega, by omega⟩) ?_
              refine WP.ret ?_
              exact ⟨rfl, rfl, trivial⟩
            have l_37 : (3 : Int32).toInt = 3 := rfl
            have e_38 := mt i_eq.mpr (show ¬ (x1 = (3 : Int32)) from c_34)
            refine WP.ite (fun c_39 => ?_) (fun c_39 => ?_)
            · skip
              have l_40 : (4 : Int32).toInt = 4 := rfl
              have e_41 := i_eq.mp (show x1 = (4 : Int32) from c_39)
              unfold cb_X11_look_104
              refine WP.ix (show vp_in x2 450 from vp_in_iff.mpr ⟨by omega, by omega⟩) ?_
              refine WP.ret ?_
              exact ⟨rfl, rfl, trivial⟩
            have l_42 : (4 : Int32).toInt = 4 := rfl
            have e_43 := mt i_eq.mpr (show ¬ (x1 = (4 : Int32)) from c_39)
            unfold cb_X11_look_114
            refine WP.bind (cs_X8_gives hfu x2 F G hI) ?_
            rintro r44 _ _ ⟨rfl, rfl, hp44⟩
            dsimp only
            have q_45 := b_rng hp44
            unfold cb_X11_look_122
            refine WP.ite (fun c_46 => ?_) (fun c_46 => ?_)
            · skip
              have e_47 := i_eq.mp (show r44 = (0 : Int32) from c_46)
              unfold cb_X11_look_129
              unfold cb_X11_look_130
              refine WP.ret ?_
              exact ⟨rfl, rfl, trivial⟩
            · skip
              have e_48 := mt i_eq.mpr (show ¬ (r44 = (0 : Int32)) from c_46)
              unfold cb_X11_look_125
              unfold cb_X11_look_130
              refine WP.ret ?_
              exact ⟨rfl, rfl, trivial⟩
          · skip
            have q_49 := hI.r 74 rfl
            have e_50 := mt i_lt.mpr (show ¬ (x2 < (F 74)) from c_23)
            unfold cb_X11_look_52
            refine WP.ret ?_
            exact ⟨rfl, rfl, trivial⟩
theorem cs_X11_give {fu : Nat} (hfu : 8589934592 ≤ fu) (x1 : Int32) (F : PF) (G : PG) (hI : CI F G) : WP (cf_X11_give fu x1 F G) (fun r' F' G' => CI F' G' ∧ KB F G F' G' ∧ KT F F' ∧ KO F F' ∧ True) := by
  unfold cf_X11_give
  unfold cb_X11_give_0
  refine WP.ite (fun c_1 => ?_) (fun c_1 => ?_)
  · skip
    have q_2 := hI.r 73 rfl
    have l_3 : (0 : Int32).toInt = 0 := rfl
    have e_4 := i_eq.mp (show (F 73) = (0 : Int32) from c_1)
    unfold cb_X11_give_21
    refine WP.ret ?_
    exact ⟨hI, (KB.rf : KB F G F G), (rfl : KT F F), (rfl : KO F F), trivial⟩
  · skip
    have q_5 := hI.r 73 rfl
    have l_6 : (0 : Int32).toInt = 0 := rfl
    have e_7 := mt i_eq.mpr (show ¬ ((F 73) = (0 : Int32)) from c_1)
    unfold cb_X11_give_10
    have q_8 := i_rng x1
    refine WP.bind (cs_X7_takes hfu x1 F G hI) ?_
    rintro r9 F9 G9 ⟨hI9, hB9, hT9, hO9, hK9, hp9⟩
    dsimp only
    have q_10 := hI.r 10 rfl
    have q_11 := hI9.r 10 rfl
    have e_12 : (F9 10).toInt = (F 10).toInt := hO9
    have q_13 := b_rng hp9
    unfold cb_X11_give_18
    refine WP.ite (fun c_14 => ?_) (fun c_14 => ?_)
    · skip
      have e_15 := i_eq.mp (show r9 = (0 : Int32) from c_14)
      unfold cb_X11_give_21
      refine WP.ret ?_
      exact ⟨hI9, (KB.tr (KB.rf : KB F G F G) hB9), (KT.tr (rfl : KT F F) hT9), (KO.tr (rfl : KO F F) hO9), trivial⟩
    · skip
      have e_16 := mt i_eq.mpr (show ¬ (r9 = (0 : Int32)) from c_14)
      unfold cb_X11_give_23
      refine WP.ret ?_
      exact ⟨hI9, (KB.tr (KB.rf : KB F G F G) hB9), (KT.tr (rfl : KT F F) hT9), (KO.tr (rfl : KO F F) hO9), trivial⟩
theorem cs_X11_begin {fu : Nat} (hfu : 8589934592 ≤ fu) (x1 : Int32) (F : PF) (G : PG) (hI : CI F G) : WP (cf_X11_begin fu x1 F G) (fun r' F' G' => CI F' G' ∧ KB F G F' G' ∧ KT F F' ∧ KO F F' ∧ (r' = 0 ∨ r' = 1)) := by
  unfold cf_X11_begin
  unfold cb_X11_begin_0
  refine WP.ite (fun c_1 => ?_) (fun c_1 => ?_)
  · skip
    have q_2 := hI.r 73 rfl
    have l_3 : (0 : Int32).toInt = 0 := rfl
    have e_4 := i_eq.mp (show (F 73) = (0 : Int32) from c_1)
    unfold cb_X11_begin_22
    refine WP.ret ?_
    exact ⟨hI, (KB.rf : KB F G F G), (rfl : KT F F), (rfl : KO F F), (by decide)⟩
  · skip
    have q_5 := hI.r 73 rfl
    have l_6 : (0 : Int32).toInt = 0 := rfl
    have e_7 := mt i_eq.mpr (show ¬ ((F 73) = (0 : Int32)) from c_1)
    unfold cb_X11_begin_10
    refine WP.ite (fun c_8 => ?_) (fun c_8 => ?_)
    · skip
      have q_9 := i_rng x1
      have l_10 : (4 : Int32).toInt = 4 := rfl
      have e_11 := i_lt.mp (show x1 < (4 : Int32) from c_8)
      unfold cb_X11_begin_22
      refine WP.ret ?_
      exact ⟨hI, (KB.rf : KB F G F G), (rfl : KT F F), (rfl : KO F F), (by decide)⟩
    · skip
      have q_12 := i_rng x1
      have l_13 : (4 : Int32).toInt = 4 := rfl
      have e_14 := mt i_lt.mpr (show ¬ (x1 < (4 : Int32)) from c_8)
      unfold cb_X11_begin_15
      refine WP.ite (fun c_15 => ?_) (fun c_15 => ?_)
      · skip
        have l_16 : (2000 : Int32).toInt = 2000 := rfl
        have e_17 := i_le.mp (show x1 ≤ (2000 : Int32) from c_15)
        unfold cb_X11_begin_24
        refine WP.bind (cs_X7_forgetOutput hfu F G hI) ?_
        rintro r18 F18 G18 ⟨hI18, hB18, hT18, hO18, hK18, hp18⟩
        dsimp only
        have q_19 := hI.r 10 rfl
        have q_20 := hI18.r 10 rfl
        have e_21 : (F18 10).toInt = (F 10).toInt := hO18
        unfold cb_X11_begin_31
        refine WP.bind (cs_X6_startAnew hfu x1 F18 G18 hI18) ?_
        rintro r22 F22 G22 ⟨hI22, hB22, hT22, hO22, hK22, hp22⟩
        dsimp only
        have q_23 := hI22.r 10 rfl
        have e_24 : (F22 10).toInt = (F18 10).toInt := hO22
        unfold cb_X11_begin_39
        refine WP.ret ?_
        exact ⟨hI22, (KB.tr (KB.tr (KB.rf : KB F G F G) hB18) hB22), (KT.tr (KT.tr (rfl : KT F F) hT18) hT22), (KO.tr (KO.tr (rfl : KO F F) hO18) hO22), (by decide)⟩
      · skip
        have l_25 : (2000 : Int32).toInt = 2000 := rfl
        have e_26 := mt i_le.mpr (show ¬ (x1 ≤ (2000 : Int32)) from c_15)
        unfold cb_X11_begin_22
        refine WP.ret ?_
        exact ⟨hI, (KB.rf : KB F G F G), (rfl : KT F F), (rfl : KO F F), (by decide)⟩
theorem cs_X11_run {fu : Nat} (hfu : 8589934592 ≤ fu) (x1 : Int32) (F : PF) (G : PG) (hI : CI F G) : WP (cf_X11_run fu x1 F G) (fun r' F' G' => CI F' G' ∧ KB F G F' G' ∧ KT F F' ∧ KO F F' ∧ True) := by
  unfold cf_X11_run
  unfold cb_X11_run_0
  refine WP.ite (fun c_1 => ?_) (fun c_1 => ?_)
  · skip
    have q_2 := i_rng x1
    have l_3 : (0 : Int32).toInt = 0 := rfl
    have e_4 := i_lt.mp (show x1 < (0 : Int32) from c_1)
    unfold cb_X11_run_21
    refine WP.ret ?_
    exact ⟨hI, (KB.rf : KB F G F G), (rfl : KT F F), (rfl : KO F F), trivial⟩
  · skip
    have q_5 := i_rng x1
    have l_6 : (0 : Int32).toInt = 0 := rfl
    have e_7 := mt i_lt.mpr (show ¬ (x1 < (0 : Int32)) from c_1)
    unfold cb_X11_run_4
    refine WP.ite (fun c_8 => ?_) (fun c_8 => ?_)
    · skip
      have l_9 : (1000 : Int32).toInt = 1000 := rfl
      have e_10 := i_lt.mp (show (1000 : Int32) < x1 from c_8)
      unfold cb_X11_run_21
      refine WP.ret ?_
      exact ⟨hI, (KB.rf : KB F G F G), (rfl : KT F F), (rfl : KO F F), trivial⟩
    · skip
      have l_11 : (1000 : Int32).toInt = 1000 := rfl
      have e_12 := mt i_lt.mpr (show ¬ ((1000 : Int32) < x1) from c_8)
      unfold cb_X11_run_11
      refine WP.ite (fun c_13 => ?_) (fun c_13 => ?_)
      · skip
        have q_14 := i_rng (F 63)
        have e_15 := i_eq.mp (show (F 63) = (0 : Int32) from c_13)
        unfold cb_X11_run_21
        refine WP.ret ?_
        exact ⟨hI, (KB.rf : KB F G F G), (rfl : KT F F), (rfl : KO F F), trivial⟩
      · skip
        have q_16 := i_rng (F 63)
        have e_17 := mt i_eq.mpr (show ¬ ((F 63) = (0 : Int32)) from c_13)
        unfold cb_X11_run_23
        refine WP.bind (cs_X6_goOn hfu x1 F G hI) ?_
        rintro r18 F18 G18 ⟨hI18, hB18, hT18, hO18, hK18, hp18⟩
        dsimp only
        have q_19 := hI.r 10 rfl
        have q_20 := hI18.r 10 rfl
        have e_21 : (F18 10).toInt = (F 10).toInt := hO18
        unfold cb_X11_run_31
        refine WP.ret ?_
        exact ⟨hI18, (KB.tr (KB.rf : KB F G F G) hB18), (KT.tr (rfl : KT F F) hT18), (KO.tr (rfl : KO F F) hO18), trivial⟩
theorem cs_X11_output {fu : Nat} (hfu : 8589934592 ≤ fu) (x1 : Int32) (F : PF) (G : PG) (hI : CI F G) : WP (cf_X11_output fu x1 F G) (fun r' F' G' => F = F' ∧ G = G' ∧ True) := by
  unfold cf_X11_output
  unfold cb_X11_output_0
  have q_1 := i_rng x1
  refine WP.bind (cs_X7_shown hfu x1 F G hI) ?_
  rintro r2 _ _ ⟨rfl, rfl, hp2⟩
  dsimp only
  unfold cb_X11_output_8
  refine WP.ret ?_
  exact ⟨rfl, rfl, trivial⟩
theorem cs_X11_world {fu : Nat} (hfu : 8589934592 ≤ fu) (x1 : Int32) (F : PF) (G : PG) (hI : CI F G) : WP (cf_X11_world fu x1 F G) (fun r' F' G' => F = F' ∧ G = G' ∧ True) := by
  unfold cf_X11_world
  unfold cb_X11_world_0
  have q_1 := i_rng x1
  refine WP.ite (fun c_2 => ?_) (fun c_2 => ?_)
  · have e_3 : x1.toInt < 0 ∨ 7 < x1.toInt := c_2
    unfold cb_X11_world_112
    refine WP.ret ?_
    exact ⟨rfl, rfl, trivial⟩
  have e_4 : ¬ (x1.toInt < 0 ∨ 7 < x1.toInt) := c_2
  refine WP.ite (fun c_5 => ?_) (fun c_5 => ?_)
  · skip
    have l_6 : (0 : Int32).toInt = 0 := rfl
    have e_7 := i_eq.mp (show x1 = (0 : Int32) from c_5)
    unfold cb_X11_world_48
    refine WP.ret ?_
    exact ⟨rfl, rfl, trivial⟩
  have l_8 : (0 : Int32).toInt = 0 := rfl
  have e_9 := mt i_eq.mpr (show ¬ (x1 = (0 : Int32)) from c_5)
  refine WP.ite (fun c_10 => ?_) (fun c_10 => ?_)
  · skip
    have l_11 : (1 : Int32).toInt = 1 := rfl
    have e_12 := i_eq.mp (show x1 = (1 : Int32) from c_10)
    unfold cb_X11_world_56
    refine WP.ret ?_
    exact ⟨rfl, rfl, trivial⟩
  have l_13 : (1 : Int32).toInt = 1 := rfl
  have e_14 := mt i_eq.mpr (show ¬ (x1 = (1 : Int32)) from c_10)
  refine WP.ite (fun c_15 => ?_) (fun c_15 => ?_)
  · skip
    have l_16 : (2 : Int32).toInt = 2 := rfl
    have e_17 := i_eq.mp (show x1 = (2 : Int32) from c_15)
    unfold cb_X11_world_64
    refine WP.ret ?_
    exact ⟨rfl, rfl, trivial⟩
  have l_18 : (2 : Int32).toInt = 2 := rfl
  have e_19 := mt i_eq.mpr (show ¬ (x1 = (2 : Int32)) from c_15)
  refine WP.ite (fun c_20 => ?_) (fun c_20 => ?_)
  · skip
    have l_21 : (3 : Int32).toInt = 3 := rfl
    have e_22 := i_eq.mp (show x1 = (3 : Int32) from c_20)
    unfold cb_X11_world_72
    refine WP.ret ?_
    exact ⟨rfl, rfl, trivial⟩
  have l_23 : (3 : Int32).toInt = 3 := rfl
  have e_24 := mt i_eq.mpr (show ¬ (x1 = (3 : Int32)) from c_20)
  refine WP.ite (fun c_25 => ?_) (fun c_25 => ?_)
  · skip
    have l_26 : (4 : Int32).toInt = 4 := rfl
    have e_27 := i_eq.mp (show x1 = (4 : Int32) from c_25)
    unfold cb_X11_world_80
    refine WP.ret ?_
    exact ⟨rfl, rfl, trivial⟩
  have l_28 : (4 : Int32).toInt = 4 := rfl
  have e_29 := mt i_eq.mpr (show ¬ (x1 = (4 : Int32)) from c_25)
  refine WP.ite (fun c_30 => ?_) (fun c_30 => ?_)
  · skip
    have l_31 : (5 : Int32).toInt = 5 := rfl
    have e_32 := i_eq.mp (show x1 = (5 : Int32) from c_30)
    unfold cb_X11_world_88
    refine WP.ret ?_
    exact ⟨rfl, rfl, trivial⟩
  have l_33 : (5 : Int32).toInt = 5 := rfl
  have e_34 := mt i_eq.mpr (show ¬ (x1 = (5 : Int32)) from c_30)
  refine WP.ite (fun c_35 => ?_) (fun c_35 => ?_)
  · skip
    have l_36 : (6 : Int32).toInt = 6 := rfl
    have e_37 := i_eq.mp (show x1 = (6 : Int32) from c_35)
    unfold cb_X11_world_96
    refine WP.bind (cs_X6_depth hfu F G hI) ?_
    rintro r38 _ _ ⟨rfl, rfl, hp38⟩
    dsimp only
    unfold cb_X11_world_103
    refine WP.ret ?_
    exact ⟨rfl, rfl, trivial⟩
  have l_39 : (6 : Int32).toInt = 6 := rfl
  have e_40 := mt i_eq.mpr (show ¬ (x1 = (6 : Int32)) from c_35)
  unfold cb_X11_world_104
  refine WP.ret ?_
  exact ⟨rfl, rfl, trivial⟩
theorem cs_X11_global {fu : Nat} (hfu : 8589934592 ≤ fu) (x1 : Int32) (F : PF) (G : PG) (hI : CI F G) : WP (cf_X11_global fu x1 F G) (fun r' F' G' => F = F' ∧ G = G' ∧ True) := by
  unfold cf_X11_global
  unfold cb_X11_global_0
  refine WP.ite (fun c_1 => ?_) (fun c_1 => ?_)
  · skip
    have q_2 := hI.r 73 rfl
    have l_3 : (0 : Int32).toInt = 0 := rfl
    have e_4 := i_eq.mp (show (F 73) = (0 : Int32) from c_1)
    unfold cb_X11_global_25
    refine WP.ret ?_
    exact ⟨rfl, rfl, trivial⟩
  · skip
    have q_5 := hI.r 73 rfl
    have l_6 : (0 : Int32).toInt = 0 := rfl
    have e_7 := mt i_eq.mpr (show ¬ ((F 73) = (0 : Int32)) from c_1)
    unfold cb_X11_global_10
    refine WP.ite (fun c_8 => ?_) (fun c_8 => ?_)
    · skip
      have q_9 := i_rng x1
      have e_10 := i_lt.mp (show x1 < (0 : Int32) from c_8)
      unfold cb_X11_global_25
      refine WP.ret ?_
      exact ⟨rfl, rfl, trivial⟩
    · skip
      have q_11 := i_rng x1
      have e_12 := mt i_lt.mpr (show ¬ (x1 < (0 : Int32)) from c_8)
      unfold cb_X11_global_14
      refine WP.ite (fun c_13 => ?_) (fun c_13 => ?_)
      · skip
        have q_14 := i_rng (F 75)
        have e_15 := i_lt.mp (show x1 < (F 75) from c_13)
        unfold cb_X11_global_27
        refine WP.ite (fun c_16 => ?_) (fun c_16 => ?_)
        · skip
          have q_17 := i_rng (F 63)
          have e_18 := i_eq.mp (show (F 63) = (0 : Int32) from c_16)
          unfold cb_X11_global_37
          refine WP.bind (cs_X8_firstWord hfu x1 F G hI) ?_
          rintro r19 _ _ ⟨rfl, rfl, hp19⟩
          dsimp only
          unfold cb_X11_global_45
          unfold cb_X11_global_56
          refine WP.ret ?_
          exact ⟨rfl, rfl, trivial⟩
        · skip
          have q_20 := i_rng (F 63)
          have e_21 := mt i_eq.mpr (show ¬ ((F 63) = (0 : Int32)) from c_16)
          unfold cb_X11_global_48
          refine WP.bind (cs_X6_held hfu x1 F G hI) ?_
          rintro r22 _ _ ⟨rfl, rfl, hp22⟩
          dsimp only
          unfold cb_X11_global_56
          refine WP.ret ?_
          exact ⟨rfl, rfl, trivial⟩
      · skip
        have q_23 := i_rng (F 75)
        have e_24 := mt i_lt.mpr (show ¬ (x1 < (F 75)) from c_13)
        unfold cb_X11_global_25
        refine WP.ret ?_
        exact ⟨rfl, rfl, trivial⟩
theorem cs_X11_put {fu : Nat} (hfu : 8589934592 ≤ fu) (x1 : Int32) (x2 : Int32) (F : PF) (G : PG) (hI : CI F G) : WP (cf_X11_put fu x1 x2 F G) (fun r' F' G' => CI F' G' ∧ KT F F' ∧ KO F F' ∧ (r' = 0 ∨ r' = 1)) := by
  unfold cf_X11_put
  unfold cb_X11_put_0
  have q_1 := i_rng x1
  have q_2 := i_rng x2
  refine WP.bind (cs_X0_hold hfu x1 x2 F G hI) ?_
  rintro r3 F3 G3 ⟨hI3, hT3, hO3, hp3⟩
  dsimp only
  have q_4 := hI.r 10 rfl
  have q_5 := hI3.r 10 rfl
  have e_6 : (F3 10).toInt = (F 10).toInt := hO3
  have q_7 := b_rng hp3
  unfold cb_X11_put_9
  refine WP.bz (show r3 = 0 ∨ r3 = 1 from hp3) ?_
  refine WP.ret ?_
  exact ⟨hI3, (KT.tr (rfl : KT F F) hT3), (KO.tr (rfl : KO F F) hO3), hp3⟩
theorem cs_X11_set {fu : Nat} (hfu : 8589934592 ≤ fu) (x1 : Int32) (x2 : Int32) (F : PF) (G : PG) (hI : CI F G) : WP (cf_X11_set fu x1 x2 F G) (fun r' F' G' => CI F' G' ∧ KT F F' ∧ KO F F' ∧ (r' = 0 ∨ r' = 1)) := by
  unfold cf_X11_set
  unfold cb_X11_set_0
  have q_1 := i_rng x1
  have q_2 := i_rng x2
  refine WP.bind (cs_X0_change hfu x1 x2 F G hI) ?_
  rintro r3 F3 G3 ⟨hI3, hT3, hO3, hp3⟩
  dsimp only
  have q_4 := hI.r 10 rfl
  have q_5 := hI3.r 10 rfl
  have e_6 : (F3 10).toInt = (F 10).toInt := hO3
  have q_7 := b_rng hp3
  unfold cb_X11_set_9
  refine WP.bz (show r3 = 0 ∨ r3 = 1 from hp3) ?_
  refine WP.ret ?_
  exact ⟨hI3, (KT.tr (rfl : KT F F) hT3), (KO.tr (rfl : KO F F) hO3), hp3⟩
theorem cs_X11_go {fu : Nat} (hfu : 8589934592 ≤ fu) (x1 : Int32) (F : PF) (G : PG) (hI : CI F G) : WP (cf_X11_go fu x1 F G) (fun r' F' G' => CI F' G' ∧ KT F F' ∧ KO F F' ∧ True) := by
  unfold cf_X11_go
  unfold cb_X11_go_0
  refine WP.ite (fun c_1 => ?_) (fun c_1 => ?_)
  · skip
    have q_2 := i_rng x1
    have l_3 : (1 : Int32).toInt = 1 := rfl
    have e_4 := i_lt.mp (show x1 < (1 : Int32) from c_1)
    unfold cb_X11_go_12
    unfold cb_X11_go_24
    refine WP.ret ?_
    exact ⟨hI, (rfl : KT F F), (rfl : KO F F), trivial⟩
  · skip
    have q_5 := i_rng x1
    have l_6 : (1 : Int32).toInt = 1 := rfl
    have e_7 := mt i_lt.mpr (show ¬ (x1 < (1 : Int32)) from c_1)
    unfold cb_X11_go_5
    refine WP.ite (fun c_8 => ?_) (fun c_8 => ?_)
    · skip
      have l_9 : (1000 : Int32).toInt = 1000 := rfl
      have e_10 := i_le.mp (show x1 ≤ (1000 : Int32) from c_8)
      unfold cb_X11_go_16
      refine WP.bind (cs_X0_doWords hfu x1 F G hI) ?_
      rintro r11 F11 G11 ⟨hI11, hT11, hO11, hp11⟩
      dsimp only
      have q_12 := hI.r 10 rfl
      have q_13 := hI11.r 10 rfl
      have e_14 : (F11 10).toInt = (F 10).toInt := hO11
      unfold cb_X11_go_24
      refine WP.ret ?_
      exact ⟨hI11, (KT.tr (rfl : KT F F) hT11), (KO.tr (rfl : KO F F) hO11), trivial⟩
    · skip
      have l_15 : (1000 : Int32).toInt = 1000 := rfl
      have e_16 := mt i_le.mpr (show ¬ (x1 ≤ (1000 : Int32)) from c_8)
      unfold cb_X11_go_12
      unfold cb_X11_go_24
      refine WP.ret ?_
      exact ⟨hI, (rfl : KT F F), (rfl : KO F F), trivial⟩
theorem cs_X11_board {fu : Nat} (hfu : 8589934592 ≤ fu) (x1 : Int32) (F : PF) (G : PG) (hI : CI F G) : WP (cf_X11_board fu x1 F G) (fun r' F' G' => F = F' ∧ G = G' ∧ True) := by
  unfold cf_X11_board
  unfold cb_X11_board_0
  have q_1 := i_rng x1
  refine WP.bind (cs_X0_shown hfu x1 F G hI) ?_
  rintro r2 _ _ ⟨rfl, rfl, hp2⟩
  dsimp only
  unfold cb_X11_board_8
  refine WP.ret ?_
  exact ⟨rfl, rfl, trivial⟩
