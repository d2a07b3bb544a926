theorem cz_fill_94_5 {fu : Nat} (hfu : 8589934592 ≤ fu) {F0 : PF} {G0 : PG} : ∀ (n : Nat) (x1 : Int32) (x2 : Int32) (x3 : Int32) (F : PF) (G : PG) (hI : CI F G) (hB : KB F0 G0 F G) (hT : KT F0 F) (hO : KO F0 F) (hK : KK F0 F) (i_0 : 0 ≤ x2.toInt) (i_1 : x3.toInt = 1024) (hn : (2147483647 - x2.toInt).toNat < n), WP (cl_fill_94_5 fu n x1 x2 x3 F G) (fun r' F' G' => CI F' G' ∧ KB F0 G0 F' G' ∧ KT F0 F' ∧ KO F0 F' ∧ KK F0 F' ∧ True) := by
  intro n
  induction n with
  | zero =>
    intro x1 x2 x3 F G hI hB hT hO hK i_0 i_1 hn
    exact absurd hn (Nat.not_lt_zero _)
  | succ n ihn =>
    intro x1 x2 x3 F G hI hB hT hO hK i_0 i_1 hn
    show WP (cb_fill_94_5 fu (cl_fill_94_5 fu n)  x1 x2 x3 F G) _
    unfold cb_fill_94_5
    refine WP.ite (fun c_1 => ?_) (fun c_1 => ?_)
    · skip
      have q_2 := i_rng x3
      have q_3 := i_rng x2
      have e_4 := i_le.mp (show x3 ≤ x2 from c_1)
      unfold cb_fill_94_20
      refine WP.ret ?_
      exact ⟨hI, hB, hT, hO, hK, trivial⟩
    · skip
      have q_5 := i_rng x3
      have q_6 := i_rng x2
      have e_7 := mt i_le.mpr (show ¬ (x3 ≤ x2) from c_1)
      unfold cb_fill_94_10
      refine WP.ix (show vp_in x2 1024 from vp_in_iff.mpr ⟨by omega, by omega⟩) ?_
      have j_8 : CI F (gup G 94 x2.toNatClampNeg x1) := CI.g (by decide) hI
      unfold cb_fill_94_14
      have q_9 := i_rng x1
      first | have e_10 : (x2 + (1 : Int32)).toInt = x2.toInt + (1) := i_addn x2 rfl (by omega) (by omega) | have e_11 := i_rng (x2 + (1 : Int32))
      exact ihn x1 (x2 + (1 : Int32)) x3 F (gup G 94 x2.toNatClampNeg x1) j_8 (KB.g (by decide) hB) hT hO hK (show 0 ≤ (x2 + (1 : Int32)).toInt by omega) (show x3.toInt = 1024 by omega) (by omega)
theorem cs_fill_94 {fu : Nat} (hfu : 8589934592 ≤ fu) (x1 : Int32) (F : PF) (G : PG) (hI : CI F G) : WP (cf_fill_94 fu x1 F G) (fun r' F' G' => CI F' G' ∧ KB F G F' G' ∧ KT F F' ∧ KO F F' ∧ KK F F' ∧ True) := by
  unfold cf_fill_94
  unfold cb_fill_94_0
  have q_1 := i_rng x1
  have l_2 : (0 : Int32).toInt = 0 := rfl
  have l_3 : (1024 : Int32).toInt = 1024 := rfl
  exact cz_fill_94_5 (F0 := F) (G0 := G) hfu fu x1 (0 : Int32) (1024 : Int32) F G hI (KB.rf : KB F G F G) (rfl : KT F F) (rfl : KO F F) (rfl : KK F F) (show 0 ≤ (0 : Int32).toInt by omega) (show (1024 : Int32).toInt = 1024 by omega) (by omega)
theorem cz_fill_86_5 {fu : Nat} (hfu : 8589934592 ≤ fu) {F0 : PF} {G0 : PG} : ∀ (n : Nat) (x1 : Int32) (x2 : Int32) (x3 : Int32) (F : PF) (G : PG) (hI : CI F G) (hB : KB F0 G0 F G) (hT : KT F0 F) (hO : KO F0 F) (hK : KK F0 F) (i_0 : 0 ≤ x2.toInt) (i_1 : x3.toInt = 2000) (hn : (2147483647 - x2.toInt).toNat < n), WP (cl_fill_86_5 fu n x1 x2 x3 F G) (fun r' F' G' => CI F' G' ∧ KB F0 G0 F' G' ∧ KT F0 F' ∧ KO F0 F' ∧ KK F0 F' ∧ True) := by
  intro n
  induction n with
  | zero =>
    intro x1 x2 x3 F G hI hB hT hO hK i_0 i_1 hn
    exact absurd hn (Nat.not_lt_zero _)
  | succ n ihn =>
    intro x1 x2 x3 F G hI hB hT hO hK i_0 i_1 hn
    show WP (cb_fill_86_5 fu (cl_fill_86_5 fu n)  x1 x2 x3 F G) _
    unfold cb_fill_86_5
    refine WP.ite (fun c_1 => ?_) (fun c_1 => ?_)
    · skip
      have q_2 := i_rng x3
      have q_3 := i_rng x2
      have e_4 := i_le.mp (show x3 ≤ x2 from c_1)
      unfold cb_fill_86_20
      refine WP.ret ?_
      exact ⟨hI, hB, hT, hO, hK, trivial⟩
    · skip
      have q_5 := i_rng x3
      have q_6 := i_rng x2
      have e_7 := mt i_le.mpr (show ¬ (x3 ≤ x2) from c_1)
      unfold cb_fill_86_10
      refine WP.ix (show vp_in x2 2000 from vp_in_iff.mpr ⟨by omega, by omega⟩) ?_
      have j_8 : CI F (gup G 86 x2.toNatClampNeg x1) := CI.g (by decide) hI
      unfold cb_fill_86_14
      have q_9 := i_rng x1
      first | have e_10 : (x2 + (1 : Int32)).toInt = x2.toInt + (1) := i_addn x2 rfl (by omega) (by omega) | have e_11 := i_rng (x2 + (1 : Int32))
      exact ihn x1 (x2 + (1 : Int32)) x3 F (gup G 86 x2.toNatClampNeg x1) j_8 (KB.g (by decide) hB) hT hO hK (show 0 ≤ (x2 + (1 : Int32)).toInt by omega) (show x3.toInt = 2000 by omega) (by omega)
theorem cs_fill_86 {fu : Nat} (hfu : 8589934592 ≤ fu) (x1 : Int32) (F : PF) (G : PG) (hI : CI F G) : WP (cf_fill_86 fu x1 F G) (fun r' F' G' => CI F' G' ∧ KB F G F' G' ∧ KT F F' ∧ KO F F' ∧ KK F F' ∧ True) := by
  unfold cf_fill_86
  unfold cb_fill_86_0
  have q_1 := i_rng x1
  have l_2 : (0 : Int32).toInt = 0 := rfl
  have l_3 : (2000 : Int32).toInt = 2000 := rfl
  exact cz_fill_86_5 (F0 := F) (G0 := G) hfu fu x1 (0 : Int32) (2000 : Int32) F G hI (KB.rf : KB F G F G) (rfl : KT F F) (rfl : KO F F) (rfl : KK F F) (show 0 ≤ (0 : Int32).toInt by omega) (show (2000 : Int32).toInt = 2000 by omega) (by omega)
theorem cz_fill_40_5 {fu : Nat} (hfu : 8589934592 ≤ fu) {F0 : PF} {G0 : PG} : ∀ (n : Nat) (x1 : Int32) (x2 : Int32) (x3 : Int32) (F : PF) (G : PG) (hI : CI F G) (hB : KB F0 G0 F G) (hT : KT F0 F) (hO : KO F0 F) (hK : KK F0 F) (i_0 : 0 ≤ x2.toInt) (i_1 : x3.toInt = 1408) (hn : (2147483647 - x2.toInt).toNat < n), WP (cl_fill_40_5 fu n x1 x2 x3 F G) (fun r' F' G' => CI F' G' ∧ KB F0 G0 F' G' ∧ KT F0 F' ∧ KO F0 F' ∧ KK F0 F' ∧ True) := by
  intro n
  induction n with
  | zero =>
    intro x1 x2 x3 F G hI hB hT hO hK i_0 i_1 hn
    exact absurd hn (Nat.not_lt_zero _)
  | succ n ihn =>
    intro x1 x2 x3 F G hI hB hT hO hK i_0 i_1 hn
    show WP (cb_fill_40_5 fu (cl_fill_40_5 fu n)  x1 x2 x3 F G) _
    unfold cb_fill_40_5
    refine WP.ite (fun c_1 => ?_) (fun c_1 => ?_)
    · skip
      have q_2 := i_rng x3
      have q_3 := i_rng x2
      have e_4 := i_le.mp (show x3 ≤ x2 from c_1)
      unfold cb_fill_40_20
      refine WP.ret ?_
      exact ⟨hI, hB, hT, hO, hK, trivial⟩
    · skip
      have q_5 := i_rng x3
      have q_6 := i_rng x2
      have e_7 := mt i_le.mpr (show ¬ (x3 ≤ x2) from c_1)
      unfold cb_fill_40_10
      refine WP.ix (show vp_in x2 1408 from vp_in_iff.mpr ⟨by omega, by omega⟩) ?_
      have j_8 : CI F (gup G 40 x2.toNatClampNeg x1) := CI.g (by decide) hI
      unfold cb_fill_40_14
      have q_9 := i_rng x1
      first | have e_10 : (x2 + (1 : Int32)).toInt = x2.toInt + (1) := i_addn x2 rfl (by omega) (by omega) | have e_11 := i_rng (x2 + (1 : Int32))
      exact ihn x1 (x2 + (1 : Int32)) x3 F (gup G 40 x2.toNatClampNeg x1) j_8 (KB.g (by decide) hB) hT hO hK (show 0 ≤ (x2 + (1 : Int32)).toInt by omega) (show x3.toInt = 1408 by omega) (by omega)
theorem cs_fill_40 {fu : Nat} (hfu : 8589934592 ≤ fu) (x1 : Int32) (F : PF) (G : PG) (hI : CI F G) : WP (cf_fill_40 fu x1 F G) (fun r' F' G' => CI F' G' ∧ KB F G F' G' ∧ KT F F' ∧ KO F F' ∧ KK F F' ∧ True) := by
  unfold cf_fill_40
  unfold cb_fill_40_0
  have q_1 := i_rng x1
  have l_2 : (0 : Int32).toInt = 0 := rfl
  have l_3 : (1408 : Int32).toInt = 1408 := rfl
  exact cz_fill_40_5 (F0 := F) (G0 := G) hfu fu x1 (0 : Int32) (1408 : Int32) F G hI (KB.rf : KB F G F G) (rfl : KT F F) (rfl : KO F F) (rfl : KK F F) (show 0 ≤ (0 : Int32).toInt by omega) (show (1408 : Int32).toInt = 1408 by omega) (by omega)
theorem cs_X0_hold {fu : Nat} (hfu : 8589934592 ≤ fu) (x1 : Int32) (x2 : Int32) (F : PF) (G : PG) (hI : CI F G) : WP (cf_X0_hold fu x1 x2 F G) (fun r' F' G' => CI F' G' ∧ KT F F' ∧ KO F F' ∧ (r' = 0 ∨ r' = 1)) := by
  unfold cf_X0_hold
  unfold cb_X0_hold_0
  refine WP.ite (fun c_1 => ?_) (fun c_1 => ?_)
  · skip
    have q_2 := i_rng x1
    have l_3 : (0 : Int32).toInt = 0 := rfl
    have e_4 := i_lt.mp (show x1 < (0 : Int32) from c_1)
    unfold cb_X0_hold_17
    refine WP.ret ?_
    exact ⟨hI, (rfl : KT F F), (rfl : KO F F), (by decide)⟩
  · skip
    have q_5 := i_rng x1
    have l_6 : (0 : Int32).toInt = 0 := rfl
    have e_7 := mt i_lt.mpr (show ¬ (x1 < (0 : Int32)) from c_1)
    unfold cb_X0_hold_4
    refine WP.ite (fun c_8 => ?_) (fun c_8 => ?_)
    · skip
      have l_9 : (16384 : Int32).toInt = 16384 := rfl
      have e_10 := i_le.mp (show (16384 : Int32) ≤ x1 from c_8)
      unfold cb_X0_hold_17
      refine WP.ret ?_
      exact ⟨hI, (rfl : KT F F), (rfl : KO F F), (by decide)⟩
    · skip
      have l_11 : (16384 : Int32).toInt = 16384 := rfl
      have e_12 := mt i_le.mpr (show ¬ ((16384 : Int32) ≤ x1) from c_8)
      unfold cb_X0_hold_11
      refine WP.ite (fun c_13 => ?_) (fun c_13 => ?_)
      · skip
        have l_14 : (3 : Int32).toInt = 3 := rfl
        have e_16 := i_and x1 (m := 3) 2 (by decide) (by decide)
        have e_17 := i_eq.mp (show (x1 &&& (3 : Int32)) = (0 : Int32) from c_13)
        unfold cb_X0_hold_19
        have l_18 : (2 : Int32).toInt = 2 := rfl
        have e_20 : ((x1 >>> ((2 : Int32) &&& 31))).toInt = x1.toInt / 4 := i_shr 2 (by decide)
        refine WP.ix (show vp_in (x1 >>> ((2 : Int32) &&& 31)) 4096 from vp_in_iff.mpr ⟨by omega, by omega⟩) ?_
        have j_21 : CI F (gup G 0 (x1 >>> ((2 : Int32) &&& 31)).toNatClampNeg x2) := CI.g (by decide) hI
        unfold cb_X0_hold_28
        refine WP.ret ?_
        exact ⟨j_21, (rfl : KT F F), (rfl : KO F F), (by decide)⟩
      · skip
        have l_22 : (3 : Int32).toInt = 3 := rfl
        have e_24 := i_and x1 (m := 3) 2 (by decide) (by decide)
        have e_25 := mt i_eq.mpr (show ¬ ((x1 &&& (3 : Int32)) = (0 : Int32)) from c_13)
        unfold cb_X0_hold_17
        refine WP.ret ?_
        exact ⟨hI, (rfl : KT F F), (rfl : KO F F), (by decide)⟩
theorem cs_X0_keep {fu : Nat} (hfu : 8589934592 ≤ fu) (x1 : Int32) (x2 : Int32) (F : PF) (G : PG) (hI : CI F G) : WP (cf_X0_keep fu x1 x2 F G) (fun r' F' G' => CI F' G' ∧ KT F F' ∧ KO F F' ∧ True) := by
  unfold cf_X0_keep
  unfold cb_X0_keep_0
  refine WP.ite (fun c_1 => ?_) (fun c_1 => ?_)
  · skip
    have q_2 := i_rng x1
    have l_3 : (0 : Int32).toInt = 0 := rfl
    have e_4 := i_le.mp (show x1 ≤ (0 : Int32) from c_1)
    unfold cb_X0_keep_17
    refine WP.ret ?_
    exact ⟨hI, (rfl : KT F F), (rfl : KO F F), trivial⟩
  · skip
    have q_5 := i_rng x1
    have l_6 : (0 : Int32).toInt = 0 := rfl
    have e_7 := mt i_le.mpr (show ¬ (x1 ≤ (0 : Int32)) from c_1)
    unfold cb_X0_keep_4
    refine WP.ite (fun c_8 => ?_) (fun c_8 => ?_)
    · skip
      have l_9 : (32 : Int32).toInt = 32 := rfl
      have e_10 := i_le.mp (show (32 : Int32) ≤ x1 from c_8)
      unfold cb_X0_keep_17
      refine WP.ret ?_
      exact ⟨hI, (rfl : KT F F), (rfl : KO F F), trivial⟩
    · skip
      have l_11 : (32 : Int32).toInt = 32 := rfl
      have e_12 := mt i_le.mpr (show ¬ ((32 : Int32) ≤ x1) from c_8)
      unfold cb_X0_keep_10
      refine WP.ix (show vp_in x1 32 from vp_in_iff.mpr ⟨by omega, by omega⟩) ?_
      have j_13 : CI F (gup G 1 x1.toNatClampNeg x2) := CI.g (by decide) hI
      unfold cb_X0_keep_17
      refine WP.ret ?_
      exact ⟨j_13, (rfl : KT F F), (rfl : KO F F), trivial⟩
theorem cs_X0_change {fu : Nat} (hfu : 8589934592 ≤ fu) (x1 : Int32) (x2 : Int32) (F : PF) (G : PG) (hI : CI F G) : WP (cf_X0_change fu x1 x2 F G) (fun r' F' G' => CI F' G' ∧ KT F F' ∧ KO F F' ∧ (r' = 0 ∨ r' = 1)) := by
  unfold cf_X0_change
  unfold cb_X0_change_0
  refine WP.ite (fun c_1 => ?_) (fun c_1 => ?_)
  · skip
    have q_2 := i_rng x1
    have l_3 : (1 : Int32).toInt = 1 := rfl
    have e_4 := i_lt.mp (show x1 < (1 : Int32) from c_1)
    unfold cb_X0_change_11
    refine WP.ret ?_
    exact ⟨hI, (rfl : KT F F), (rfl : KO F F), (by decide)⟩
  · skip
    have q_5 := i_rng x1
    have l_6 : (1 : Int32).toInt = 1 := rfl
    have e_7 := mt i_lt.mpr (show ¬ (x1 < (1 : Int32)) from c_1)
    unfold cb_X0_change_5
    refine WP.ite (fun c_8 => ?_) (fun c_8 => ?_)
    · skip
      have l_9 : (32 : Int32).toInt = 32 := rfl
      have e_10 := i_le.mp (show x1 ≤ (32 : Int32) from c_8)
      unfold cb_X0_change_13
      refine WP.ite (fun c_11 => ?_) (fun c_11 => ?_)
      · skip
        have e_12 := i_eq.mp (show x1 = (32 : Int32) from c_11)
        unfold cb_X0_change_19
        have q_13 := i_rng x2
        have j_14 : CI (fup F 2 x2) G := CI.fr rfl hI
        unfold cb_X0_change_24
        unfold cb_X0_change_34
        refine WP.ret ?_
        exact ⟨j_14, (KT.f (by decide) (rfl : KT F F)), (KO.f (by decide) (rfl : KO F F)), (by decide)⟩
      · skip
        have e_15 := mt i_eq.mpr (show ¬ (x1 = (32 : Int32)) from c_11)
        unfold cb_X0_change_27
        have q_16 := i_rng x2
        refine WP.bind (cs_X0_keep hfu x1 x2 F G hI) ?_
        rintro r17 F17 G17 ⟨hI17, hT17, hO17, hp17⟩
        dsimp only
        have q_18 := hI.r 10 rfl
        have q_19 := hI17.r 10 rfl
        have e_20 : (F17 10).toInt = (F 10).toInt := hO17
        unfold cb_X0_change_33
        unfold cb_X0_change_34
        refine WP.ret ?_
        exact ⟨hI17, (KT.tr (rfl : KT F F) hT17), (KO.tr (rfl : KO F F) hO17), (by decide)⟩
    · skip
      have l_21 : (32 : Int32).toInt = 32 := rfl
      have e_22 := mt i_le.mpr (show ¬ (x1 ≤ (32 : Int32)) from c_8)
      unfold cb_X0_change_11
      refine WP.ret ?_
      exact ⟨hI, (rfl : KT F F), (rfl : KO F F), (by decide)⟩
theorem cs_X0_shown {fu : Nat} (hfu : 8589934592 ≤ fu) (x1 : Int32) (F : PF) (G : PG) (hI : CI F G) : WP (cf_X0_shown fu x1 F G) (fun r' F' G' => F = F' ∧ G = G' ∧ True) := by
  unfold cf_X0_shown
  unfold cb_X0_shown_0
  refine WP.ite (fun c_1 => ?_) (fun c_1 => ?_)
  · skip
    have q_2 := i_rng x1
    have l_3 : (0 : Int32).toInt = 0 := rfl
    have e_4 := i_lt.mp (show x1 < (0 : Int32) from c_1)
    unfold cb_X0_shown_17
    refine WP.ite (fun c_5 => ?_) (fun c_5 => ?_)
    · skip
      have l_6 : (32 : Int32).toInt = 32 := rfl
      have e_7 := i_eq.mp (show x1 = (32 : Int32) from c_5)
      unfold cb_X0_shown_23
      refine WP.ret ?_
      exact ⟨rfl, rfl, trivial⟩
    · skip
      have l_8 : (32 : Int32).toInt = 32 := rfl
      have e_9 := mt i_eq.mpr (show ¬ (x1 = (32 : Int32)) from c_5)
      unfold cb_X0_shown_28
      refine WP.ite (fun c_10 => ?_) (fun c_10 => ?_)
      · skip
        have l_11 : (33 : Int32).toInt = 33 := rfl
        have e_12 := i_eq.mp (show x1 = (33 : Int32) from c_10)
        unfold cb_X0_shown_34
        refine WP.ret ?_
        exact ⟨rfl, rfl, trivial⟩
      · skip
        have l_13 : (33 : Int32).toInt = 33 := rfl
        have e_14 := mt i_eq.mpr (show ¬ (x1 = (33 : Int32)) from c_10)
        unfold cb_X0_shown_39
        refine WP.ite (fun c_15 => ?_) (fun c_15 => ?_)
        · skip
          have l_16 : (100 : Int32).toInt = 100 := rfl
          have e_17 := i_lt.mp (show x1 < (100 : Int32) from c_15)
          unfold cb_X0_shown_64
          unfold cb_X0_shown_65
          refine WP.ret ?_
          exact ⟨rfl, rfl, trivial⟩
        · skip
          have l_18 : (100 : Int32).toInt = 100 := rfl
          have e_19 := mt i_lt.mpr (show ¬ (x1 < (100 : Int32)) from c_15)
          unfold cb_X0_shown_45
          refine WP.ite (fun c_20 => ?_) (fun c_20 => ?_)
          · skip
            have l_21 : (4196 : Int32).toInt = 4196 := rfl
            have e_22 := i_le.mp (show (4196 : Int32) ≤ x1 from c_20)
            unfold cb_X0_shown_64
            unfold cb_X0_shown_65
            refine WP.ret ?_
            exact ⟨rfl, rfl, trivial⟩
          · skip
            have l_23 : (4196 : Int32).toInt = 4196 := rfl
            have e_24 := mt i_le.mpr (show ¬ ((4196 : Int32) ≤ x1) from c_20)
            unfold cb_X0_shown_52
            first | have e_25 : (x1 - (100 : Int32)).toInt = x1.toInt - (100) := i_subn x1 rfl (by omega) (by omega) | have e_26 := i_rng (x1 - (100 : Int32))
            refine WP.ix (show vp_in (x1 - (100 : Int32)) 4096 from vp_in_iff.mpr ⟨by omega, by omega⟩) ?_
            unfold cb_X0_shown_65
            refine WP.ret ?_
            exact ⟨rfl, rfl, trivial⟩
  · skip
    have q_27 := i_rng x1
    have l_28 : (0 : Int32).toInt = 0 := rfl
    have e_29 := mt i_lt.mpr (show ¬ (x1 < (0 : Int32)) from c_1)
    unfold cb_X0_shown_4
    refine WP.ite (fun c_30 => ?_) (fun c_30 => ?_)
    · skip
      have l_31 : (32 : Int32).toInt = 32 := rfl
      have e_32 := i_le.mp (show (32 : Int32) ≤ x1 from c_30)
      unfold cb_X0_shown_17
      refine WP.ite (fun c_33 => ?_) (fun c_33 => ?_)
      · skip
        have e_34 := i_eq.mp (show x1 = (32 : Int32) from c_33)
        unfold cb_X0_shown_23
        refine WP.ret ?_
        exact ⟨rfl, rfl, trivial⟩
      · skip
        have e_35 := mt i_eq.mpr (show ¬ (x1 = (32 : Int32)) from c_33)
        unfold cb_X0_shown_28
        refine WP.ite (fun c_36 => ?_) (fun c_36 => ?_)
        · skip
          have l_37 : (33 : Int32).toInt = 33 := rfl
          have e_38 := i_eq.mp (show x1 = (33 : Int32) from c_36)
          unfold cb_X0_shown_34
          refine WP.ret ?_
          exact ⟨rfl, rfl, trivial⟩
        · skip
          have l_39 : (33 : Int32).toInt = 33 := rfl
          have e_40 := mt i_eq.mpr (show ¬ (x1 = (33 : Int32)) from c_36)
          unfold cb_X0_shown_39
          refine WP.ite (fun c_41 => ?_) (fun c_41 => ?_)
          · skip
            have l_42 : (100 : Int32).toInt = 100 := rfl
            have e_43 := i_lt.mp (show x1 < (100 : Int32) from c_41)
            unfold cb_X0_shown_64
            unfold cb_X0_shown_65
            refine WP.ret ?_
            exact ⟨rfl, rfl, trivial⟩
          · skip
            have l_44 : (100 : Int32).toInt = 100 := rfl
            have e_45 := mt i_lt.mpr (show ¬ (x1 < (100 : Int32)) from c_41)
            unfold cb_X0_shown_45
            refine WP.ite (fun c_46 => ?_) (fun c_46 => ?_)
            · skip
              have l_47 : (4196 : Int32).toInt = 4196 := rfl
              have e_48 := i_le.mp (show (4196 : Int32) ≤ x1 from c_46)
              unfold cb_X0_shown_64
              unfold cb_X0_shown_65
              refine WP.ret ?_
              exact ⟨rfl, rfl, trivial⟩
            · skip
              have l_49 : (4196 : Int32).toInt = 4196 := rfl
              have e_50 := mt i_le.mpr (show ¬ ((4196 : Int32) ≤ x1) from c_46)
              unfold cb_X0_shown_52
              first | have e_51 : (x1 - (100 : Int32)).toInt = x1.toInt - (100) := i_subn x1 rfl (by omega) (by omega) | have e_52 := i_rng (x1 - (100 : Int32))
              refine WP.ix (show vp_in (x1 - (100 : Int32)) 4096 from vp_in_iff.mpr ⟨by omega, by omega⟩) ?_
              unfold cb_X0_shown_65
              refine WP.ret ?_
              exact ⟨rfl, rfl, trivial⟩
    · skip
      have l_53 : (32 : Int32).toInt = 32 := rfl
      have e_54 := mt i_le.mpr (show ¬ ((32 : Int32) ≤ x1) from c_30)
      unfold cb_X0_shown_10
      refine WP.ix (show vp_in x1 32 from vp_in_iff.mpr ⟨by omega, by omega⟩) ?_
      refine WP.ret ?_
      exact ⟨rfl, rfl, trivial⟩
theorem cs_X11_joined {fu : Nat} (hfu : 8589934592 ≤ fu) (x0 : Int32) (x1 : Int32) (x2 : Int32) (F : PF) (G : PG) (hI : CI F G) : WP (cf_X11_joined fu x0 x1 x2 F G) (fun r' F' G' => F = F' ∧ G = G' ∧ True) := by
  unfold cf_X11_joined
  unfold cb_X11_joined_0
  have q_1 := i_rng x0
  refine WP.ite (fun c_2 => ?_) (fun c_2 => ?_)
  · have e_3 : x0.toInt < 45 ∨ 61 < x0.toInt := c_2
    unfold cb_X11_joined_229
    refine WP.ret ?_
    exact ⟨rfl, rfl, trivial⟩
  have e_4 : ¬ (x0.toInt < 45 ∨ 61 < x0.toInt) := c_2
  refine WP.ite (fun c_5 => ?_) (fun c_5 => ?_)
  · skip
    have l_6 : (45 : Int32).toInt = 45 := rfl
    have e_7 := i_eq.mp (show x0 = (45 : Int32) from c_5)
    unfold cb_X11_joined_84
    refine WP.ret ?_
    exact ⟨rfl, rfl, trivial⟩
  have l_8 : (45 : Int32).toInt = 45 := rfl
  have e_9 := mt i_eq.mpr (show ¬ (x0 = (45 : Int32)) from c_5)
  refine WP.ite (fun c_10 => ?_) (fun c_10 => ?_)
  · skip
    have l_11 : (46 : Int32).toInt = 46 := rfl
    have e_12 := i_eq.mp (show x0 = (46 : Int32) from c_10)
    unfold cb_X11_joined_88
    refine WP.ret ?_
    exact ⟨rfl, rfl, trivial⟩
  have l_13 : (46 : Int32).toInt = 46 := rfl
  have e_14 := mt i_eq.mpr (show ¬ (x0 = (46 : Int32)) from c_10)
  refine WP.ite (fun c_15 => ?_) (fun c_15 => ?_)
  · skip
    have l_16 : (47 : Int32).toInt = 47 := rfl
    have e_17 := i_eq.mp (show x0 = (47 : Int32) from c_15)
    unfold cb_X11_joined_92
    refine WP.ret ?_
    exact ⟨rfl, rfl, trivial⟩
  have l_18 : (47 : Int32).toInt = 47 := rfl
  have e_19 := mt i_eq.mpr (show ¬ (x0 = (47 : Int32)) from c_15)
  refine WP.ite (fun c_20 => ?_) (fun c_20 => ?_)
  · skip
    have l_21 : (48 : Int32).toInt = 48 := rfl
    have e_22 := i_eq.mp (show x0 = (48 : Int32) from c_20)
    unfold cb_X11_joined_96
    refine WP.ite (fun c_23 => ?_) (fun c_23 => ?_)
    · skip
      have q_24 := i_rng x1
      have q_25 := i_rng x2
      have e_26 := i_eq.mp (show x1 = x2 from c_23)
      unfold cb_X11_joined_101
      unfold cb_X11_joined_106
      refine WP.ret ?_
      exact ⟨rfl, rfl, trivial⟩
    · skip
      have q_27 := i_rng x1
      have q_28 := i_rng x2
      have e_29 := mt i_eq.mpr (show ¬ (x1 = x2) from c_23)
      unfold cb_X11_joined_105
      unfold cb_X11_joined_106
      refine WP.ret ?_
      exact ⟨rfl, rfl, trivial⟩
  have l_30 : (48 : Int32).toInt = 48 := rfl
  have e_31 := mt i_eq.mpr (show ¬ (x0 = (48 : Int32)) from c_20)
  refine WP.ite (fun c_32 => ?_) (fun c_32 => ?_)
  · skip
    have l_33 : (49 : Int32).toInt = 49 := rfl
    have e_34 := i_eq.mp (show x0 = (49 : Int32) from c_32)
    unfold cb_X11_joined_107
    refine WP.ite (fun c_35 => ?_) (fun c_35 => ?_)
    · skip
      have q_36 := i_rng x1
      have q_37 := i_rng x2
      have e_38 := i_eq.mp (show x1 = x2 from c_35)
      unfold cb_X11_joined_116
      unfold cb_X11_joined_117
      refine WP.ret ?_
      exact ⟨rfl, rfl, trivial⟩
    · skip
      have q_39 := i_rng x1
      have q_40 := i_rng x2
      have e_41 := mt i_eq.mpr (show ¬ (x1 = x2) from c_35)
      unfold cb_X11_joined_112
      unfold cb_X11_joined_117
      refine WP.ret ?_
      exact ⟨rfl, rfl, trivial⟩
  have l_42 : (49 : Int32).toInt = 49 := rfl
  have e_43 := mt i_eq.mpr (show ¬ (x0 = (49 : Int32)) from c_32)
  refine WP.ite (fun c_44 => ?_) (fun c_44 => ?_)
  · skip
    have l_45 : (50 : Int32).toInt = 50 := rfl
    have e_46 := i_eq.mp (show x0 = (50 : Int32) from c_44)
    unfold cb_X11_joined_118
    refine WP.ite (fun c_47 => ?_) (fun c_47 => ?_)
    · skip
      have q_48 := i_rng x2
      have q_49 := i_rng x1
      have e_50 := i_le.mp (show x2 ≤ x1 from c_47)
      unfold cb_X11_joined_127
      unfold cb_X11_joined_128
      refine WP.ret ?_
      exact ⟨rfl, rfl, trivial⟩
    · skip
      have q_51 := i_rng x2
      have q_52 := i_rng x1
      have e_53 := mt i_le.mpr (show ¬ (x2 ≤ x1) from c_47)
      unfold cb_X11_joined_123
      unfold cb_X11_joined_128
      refine WP.ret ?_
      exact ⟨rfl, rfl, trivial⟩
  have l_54 : (50 : Int32).toInt = 50 := rfl
  have e_55 := mt i_eq.mpr (show ¬ (x0 = (50 : Int32)) from c_44)
  refine WP.ite (fun c_56 => ?_) (fun c_56 => ?_)
  · skip
    have l_57 : (51 : Int32).toInt = 51 := rfl
    have e_58 := i_eq.mp (show x0 = (51 : Int32) from c_56)
    unfold cb_X11_joined_129
    refine WP.ite (fun c_59 => ?_) (fun c_59 => ?_)
    · skip
      have q_60 := i_rng x2
      have q_61 := i_rng x1
      have e_62 := i_lt.mp (show x2 < x1 from c_59)
      unfold cb_X11_joined_138
      unfold cb_X11_joined_139
      refine WP.ret ?_
      exact ⟨rfl, rfl, trivial⟩
    · skip
      have q_63 := i_rng x2
      have q_64 := i_rng x1
      have e_65 := mt i_lt.mpr (show ¬ (x2 < x1) from c_59)
      unfold cb_X11_joined_134
      unfold cb_X11_joined_139
      refine WP.ret ?_
      exact ⟨rfl, rfl, trivial⟩
  have l_66 : (51 : Int32).toInt = 51 := rfl
  have e_67 := mt i_eq.mpr (show ¬ (x0 = (51 : Int32)) from c_56)
  refine WP.ite (fun c_68 => ?_) (fun c_68 => ?_)
  · skip
    have l_69 : (52 : Int32).toInt = 52 := rfl
    have e_70 := i_eq.mp (show x0 = (52 : Int32) from c_68)
    unfold cb_X11_joined_140
    refine WP.ite (fun c_71 => ?_) (fun c_71 => ?_)
    · skip
      have q_72 := i_rng x1
      have q_73 := i_rng x2
      have e_74 := i_le.mp (show x1 ≤ x2 from c_71)
      unfold cb_X11_joined_149
      unfold cb_X11_joined_150
      refine WP.ret ?_
      exact ⟨rfl, rfl, trivial⟩
    · skip
      have q_75 := i_rng x1
      have q_76 := i_rng x2
      have e_77 := mt i_le.mpr (show ¬ (x1 ≤ x2) from c_71)
      unfold cb_X11_joined_145
      unfold cb_X11_joined_150
      refine WP.ret ?_
      exact ⟨rfl, rfl, trivial⟩
  have l_78 : (52 : Int32).toInt = 52 := rfl
  have e_79 := mt i_eq.mpr (show ¬ (x0 = (52 : Int32)) from c_68)
  refine WP.ite (fun c_80 => ?_) (fun c_80 => ?_)
  · skip
    have l_81 : (53 : Int32).toInt = 53 := rfl
    have e_82 := i_eq.mp (show x0 = (53 : Int32) from c_80)
    unfold cb_X11_joined_151
    refine WP.ite (fun c_83 => ?_) (fun c_83 => ?_)
    · skip
      have q_84 := i_rng x1
      have q_85 := i_rng x2
      have e_86 := i_lt.mp (show x1 < x2 from c_83)
      unfold cb_X11_joined_160
      unfold cb_X11_joined_161
      refine WP.ret ?_
      exact ⟨rfl, rfl, trivial⟩
    · skip
      have q_87 := i_rng x1
      have q_88 := i_rng x2
      have e_89 := mt i_lt.mpr (show ¬ (x1 < x2) from c_83)
      unfold cb_X11_joined_156
      unfold cb_X11_joined_161
      refine WP.ret ?_
      exact ⟨rfl, rfl, trivial⟩
  have l_90 : (53 : Int32).toInt = 53 := rfl
  have e_91 := mt i_eq.mpr (show ¬ (x0 = (53 : Int32)) from c_80)
  refine WP.ite (fun c_92 => ?_) (fun c_92 => ?_)
  · skip
    have l_93 : (54 : Int32).toInt = 54 := rfl
    have e_94 := i_eq.mp (show x0 = (54 : Int32) from c_92)
    unfold cb_X11_joined_162
    refine WP.ret ?_
    exact ⟨rfl, rfl, trivial⟩
  have l_95 : (54 : Int32).toInt = 54 := rfl
  have e_96 := mt i_eq.mpr (show ¬ (x0 = (54 : Int32)) from c_92)
  refine WP.ite (fun c_97 => ?_) (fun c_97 => ?_)
  · skip
    have l_98 : (55 : Int32).toInt = 55 := rfl
    have e_99 := i_eq.mp (show x0 = (55 : Int32) from c_97)
    unfold cb_X11_joined_166
    refine WP.ret ?_
    exact ⟨rfl, rfl, trivial⟩
  have l_100 : (55 : Int32).toInt = 55 := rfl
  have e_101 := mt i_eq.mpr (show ¬ (x0 = (55 : Int32)) from c_97)
  refine WP.ite (fun c_102 => ?_) (fun c_102 => ?_)
  · skip
    have l_103 : (56 : Int32).toInt = 56 := rfl
    have e_104 := i_eq.mp (show x0 = (56 : Int32) from c_102)
    unfold cb_X11_joined_170
    refine WP.ret ?_
    exact ⟨rfl, rfl, trivial⟩
  have l_105 : (56 : Int32).toInt = 56 := rfl
  have e_106 := mt i_eq.mpr (show ¬ (x0 = (56 : Int32)) from c_102)
  refine WP.ite (fun c_107 => ?_) (fun c_107 => ?_)
  · skip
    have l_108 : (57 : Int32).toInt = 57 := rfl
    have e_109 := i_eq.mp (show x0 = (57 : Int32) from c_107)
    unfold cb_X11_joined_174
    refine WP.ret ?_
    exact ⟨rfl, rfl, trivial⟩
  have l_110 : (57 : Int32).toInt = 57 := rfl
  have e_111 := mt i_eq.mpr (show ¬ (x0 = (57 : Int32)) from c_107)
  refine WP.ite (fun c_112 => ?_) (fun c_112 => ?_)
  · skip
    have l_113 : (58 : Int32).toInt = 58 := rfl
    have e_114 := i_eq.mp (show x0 = (58 : Int32) from c_112)
    unfold cb_X11_joined_178
    refine WP.ret ?_
    exact ⟨rfl, rfl, trivial⟩
  have l_115 : (58 : Int32).toInt = 58 := rfl
  have e_116 := mt i_eq.mpr (show ¬ (x0 = (58 : Int32)) from c_112)
  refine WP.ite (fun c_117 => ?_) (fun c_117 => ?_)
  · skip
    have l_118 : (59 : Int32).toInt = 59 := rfl
    have e_119 := i_eq.mp (show x0 = (59 : Int32) from c_117)
    unfold cb_X11_joined_182
    refine WP.ret ?_
    exact ⟨rfl, rfl, trivial⟩
  have l_120 : (59 : Int32).toInt = 59 := rfl
  have e_121 := mt i_eq.mpr (show ¬ (x0 = (59 : Int32)) from c_117)
  refine WP.ite (fun c_122 => ?_) (fun c_122 => ?_)
  · skip
    have l_123 : (60 : Int32).toInt = 60 := rfl
    have e_124 := i_eq.mp (show x0 = (60 : Int32) from c_122)
    unfold cb_X11_joined_186
    refine WP.ite (fun c_125 => ?_) (fun c_125 => ?_)
    · skip
      have q_126 := i_rng x2
      have l_127 : (0 : Int32).toInt = 0 := rfl
      have e_128 := i_eq.mp (show x2 = (0 : Int32) from c_125)
      unfold cb_X11_joined_190
      unfold cb_X11_joined_207
      refine WP.ret ?_
      exact ⟨rfl, rfl, trivial⟩
    · skip
      have q_129 := i_rng x2
      have l_130 : (0 : Int32).toInt = 0 := rfl
      have e_131 := mt i_eq.mpr (show ¬ (x2 = (0 : Int32)) from c_125)
      unfold cb_X11_joined_194
      refine WP.ite (fun c_132 => ?_) (fun c_132 => ?_)
      · skip
        have l_133 : (-1 : Int32).toInt = -1 := rfl
        have e_134 := i_eq.mp (show x2 = (-1 : Int32) from c_132)
        unfold cb_X11_joined_199
        unfold cb_X11_joined_207
        refine WP.ret ?_
        exact ⟨rfl, rfl, trivial⟩
      · skip
        have l_135 : (-1 : Int32).toInt = -1 := rfl
        have e_136 := mt i_eq.mpr (show ¬ (x2 = (-1 : Int32)) from c_132)
        unfold cb_X11_joined_204
        refine WP.nz (show ¬ x2 = 0 from fun h9 => by have := i_eq.mp h9; omega) ?_
        unfold cb_X11_joined_207
        refine WP.ret ?_
        exact ⟨rfl, rfl, trivial⟩
  have l_137 : (60 : Int32).toInt = 60 := rfl
  have e_138 := mt i_eq.mpr (show ¬ (x0 = (60 : Int32)) from c_122)
  unfold cb_X11_joined_208
  refine WP.ite (fun c_139 => ?_) (fun c_139 => ?_)
  · skip
    have q_140 := i_rng x2
    have l_141 : (0 : Int32).toInt = 0 := rfl
    have e_142 := i_eq.mp (show x2 = (0 : Int32) from c_139)
    unfold cb_X11_joined_212
    unfold cb_X11_joined_228
    refine WP.ret ?_
    exact ⟨rfl, rfl, trivial⟩
  · skip
    have q_143 := i_rng x2
    have l_144 : (0 : Int32).toInt = 0 := rfl
    have e_145 := mt i_eq.mpr (show ¬ (x2 = (0 : Int32)) from c_139)
    unfold cb_X11_joined_216
    refine WP.ite (fun c_146 => ?_) (fun c_146 => ?_)
    · skip
      have l_147 : (-1 : Int32).toInt = -1 := rfl
      have e_148 := i_eq.mp (show x2 = (-1 : Int32) from c_146)
      unfold cb_X11_joined_221
      unfold cb_X11_joined_228
      refine WP.ret ?_
      exact ⟨rfl, rfl, trivial⟩
    · skip
      have l_149 : (-1 : Int32).toInt = -1 := rfl
      have e_150 := mt i_eq.mpr (show ¬ (x2 = (-1 : Int32)) from c_146)
      unfold cb_X11_joined_225
      refine WP.nz (show ¬ x2 = 0 from fun h9 => by have := i_eq.mp h9; omega) ?_
      unfold cb_X11_joined_228
      refine WP.ret ?_
      exact ⟨rfl, rfl, trivial⟩
theorem cs_X0_product {fu : Nat} (hfu : 8589934592 ≤ fu) (x0 : Int32) (x1 : Int32) (x2 : Int32) (F : PF) (G : PG) (hI : CI F G) : WP (cf_X0_product fu x0 x1 x2 F G) (fun r' F' G' => F = F' ∧ G = G' ∧ True) := by
  unfold cf_X0_product
  unfold cb_X0_product_0
  have q_1 := i_rng x0
  refine WP.ite (fun c_2 => ?_) (fun c_2 => ?_)
  · have e_3 : x0.toInt < 0 ∨ 6 < x0.toInt := c_2
    unfold cb_X0_product_129
    refine WP.ite (fun c_4 => ?_) (fun c_4 => ?_)
    · skip
      have q_5 := i_rng x2
      have l_6 : (0 : Int32).toInt = 0 := rfl
      have e_7 := i_eq.mp (show x2 = (0 : Int32) from c_4)
      unfold cb_X0_product_133
      unfold cb_X0_product_151
      refine WP.ret ?_
      exact ⟨rfl, rfl, trivial⟩
    · skip
      have q_8 := i_rng x2
      have l_9 : (0 : Int32).toInt = 0 := rfl
      have e_10 := mt i_eq.mpr (show ¬ (x2 = (0 : Int32)) from c_4)
      unfold cb_X0_product_137
      refine WP.nz (l_nz c_4) ?_
      unfold cb_X0_product_151
      refine WP.ret ?_
      exact ⟨rfl, rfl, trivial⟩
  have e_11 : ¬ (x0.toInt < 0 ∨ 6 < x0.toInt) := c_2
  refine WP.ite (fun c_12 => ?_) (fun c_12 => ?_)
  · skip
    have l_13 : (0 : Int32).toInt = 0 := rfl
    have e_14 := i_eq.mp (show x0 = (0 : Int32) from c_12)
    unfold cb_X0_product_44
    refine WP.ret ?_
    exact ⟨rfl, rfl, trivial⟩
  have l_15 : (0 : Int32).toInt = 0 := rfl
  have e_16 := mt i_eq.mpr (show ¬ (x0 = (0 : Int32)) from c_12)
  refine WP.ite (fun c_17 => ?_) (fun c_17 => ?_)
  · skip
    have l_18 : (1 : Int32).toInt = 1 := rfl
    have e_19 := i_eq.mp (show x0 = (1 : Int32) from c_17)
    unfold cb_X0_product_48
    refine WP.ret ?_
    exact ⟨rfl, rfl, trivial⟩
  have l_20 : (1 : Int32).toInt = 1 := rfl
  have e_21 := mt i_eq.mpr (show ¬ (x0 = (1 : Int32)) from c_17)
  refine WP.ite (fun c_22 => ?_) (fun c_22 => ?_)
  · skip
    have l_23 : (2 : Int32).toInt = 2 := rfl
    have e_24 := i_eq.mp (show x0 = (2 : Int32) from c_22)
    unfold cb_X0_product_58
    refine WP.ret ?_
    exact ⟨rfl, rfl, trivial⟩
  have l_25 : (2 : Int32).toInt = 2 := rfl
  have e_26 := mt i_eq.mpr (show ¬ (x0 = (2 : Int32)) from c_22)
  refine WP.ite (fun c_27 => ?_) (fun c_27 => ?_)
  · skip
    have l_28 : (3 : Int32).toInt = 3 := rfl
    have e_29 := i_eq.mp (show x0 = (3 : Int32) from c_27)
    unfold cb_X0_product_72
    refine WP.ret ?_
    exact ⟨rfl, rfl, trivial⟩
  have l_30 : (3 : Int32).toInt = 3 := rfl
  have e_31 := mt i_eq.mpr (show ¬ (x0 = (3 : Int32)) from c_27)
  refine WP.ite (fun c_32 => ?_) (fun c_32 => ?_)
  · skip
    have l_33 : (4 : Int32).toInt = 4 := rfl
    have e_34 := i_eq.mp (show x0 = (4 : Int32) from c_32)
    unfold cb_X0_product_90
    have l_35 : (60 : Int32).toInt = 60 := rfl
    have q_36 := i_rng x1
    have q_37 := i_rng x2
    refine WP.bind (cs_X11_joined hfu (60 : Int32) x1 x2 F G hI) ?_
    rintro r38 _ _ ⟨rfl, rfl, hp38⟩
    dsimp only
    unfold cb_X0_product_97
    refine WP.ret ?_
    exact ⟨rfl, rfl, trivial⟩
  have l_39 : (4 : Int32).toInt = 4 := rfl
  have e_40 := mt i_eq.mpr (show ¬ (x0 = (4 : Int32)) from c_32)
  refine WP.ite (fun c_41 => ?_) (fun c_41 => ?_)
  · skip
    have l_42 : (5 : Int32).toInt = 5 := rfl
    have e_43 := i_eq.mp (show x0 = (5 : Int32) from c_41)
    unfold cb_X0_product_98
    refine WP.ite (fun c_44 => ?_) (fun c_44 => ?_)
    · skip
      have q_45 := i_rng x2
      have e_46 := i_eq.mp (show x2 = (0 : Int32) from c_44)
      unfold cb_X0_product_102
      unfold cb_X0_product_120
      refine WP.ret ?_
      exact ⟨rfl, rfl, trivial⟩
    · skip
      have q_47 := i_rng x2
      have e_48 := mt i_eq.mpr (show ¬ (x2 = (0 : Int32)) from c_44)
      unfold cb_X0_product_106
      refine WP.nz (l_nz c_44) ?_
      unfold cb_X0_product_120
      refine WP.ret ?_
      exact ⟨rfl, rfl, trivial⟩
  have l_49 : (5 : Int32).toInt = 5 := rfl
  have e_50 := mt i_eq.mpr (show ¬ (x0 = (5 : Int32)) from c_41)
  unfold cb_X0_product_121
  have l_51 : (61 : Int32).toInt = 61 := rfl
  have q_52 := i_rng x1
  have q_53 := i_rng x2
  refine WP.bind (cs_X11_joined hfu (61 : Int32) x1 x2 F G hI) ?_
  rintro r54 _ _ ⟨rfl, rfl, hp54⟩
  dsimp only
  unfold cb_X0_product_128
  refine WP.ret ?_
  exact ⟨rfl, rfl, trivial⟩
theorem cs_X11_truth {fu : Nat} (hfu : 8589934592 ≤ fu) (x0 : Int32) (F : PF) (G : PG) (hI : CI F G) (hz_x0 : x0 = 0 ∨ x0 = 1) : WP (cf_X11_truth fu x0 F G) (fun r' F' G' => F = F' ∧ G = G' ∧ True) := by
  have q_x0 := b_rng hz_x0
  unfold cf_X11_truth
  unfold cb_X11_truth_0
  refine WP.ite (fun c_1 => ?_) (fun c_1 => ?_)
  · skip
    have q_2 := i_rng x0
    have l_3 : (0 : Int32).toInt = 0 := rfl
    have e_4 := i_eq.mp (show x0 = (0 : Int32) from c_1)
    unfold cb_X11_truth_8
    unfold cb_X11_truth_9
    refine WP.ret ?_
    exact ⟨rfl, rfl, trivial⟩
  · skip
    have q_5 := i_rng x0
    have l_6 : (0 : Int32).toInt = 0 := rfl
    have e_7 := mt i_eq.mpr (show ¬ (x0 = (0 : Int32)) from c_1)
    unfold cb_X11_truth_4
    unfold cb_X11_truth_9
    refine WP.ret ?_
    exact ⟨rfl, rfl, trivial⟩
theorem cs_X0_isBelow {fu : Nat} (hfu : 8589934592 ≤ fu) (x0 : Int32) (x1 : Int32) (F : PF) (G : PG) (hI : CI F G) : WP (cf_X0_isBelow fu x0 x1 F G) (fun r' F' G' => F = F' ∧ G = G' ∧ (r' = 0 ∨ r' = 1)) := by
  unfold cf_X0_isBelow
  unfold cb_X0_isBelow_0
  refine WP.ite (fun c_1 => ?_) (fun c_1 => ?_)
  · skip
    have l_2 : (0 : Int32).toInt = 0 := rfl
    have q_3 := i_rng (lg_cmp ((x0.toInt64) &&& (4294967295 : Int64)) ((x1.toInt64) &&& (4294967295 : Int64)))
    have e_4 := i_le.mp (show (0 : Int32) ≤ (lg_cmp ((x0.toInt64) &&& (4294967295 : Int64)) ((x1.toInt64) &&& (4294967295 : Int64))) from c_1)
    unfold cb_X0_isBelow_20
    unfold cb_X0_isBelow_21
    refine WP.bz (show (0 : Int32) = 0 ∨ (0 : Int32) = 1 from (by decide)) ?_
    refine WP.ret ?_
    exact ⟨rfl, rfl, (by decide)⟩
  · skip
    have l_5 : (0 : Int32).toInt = 0 := rfl
    have q_6 := i_rng (lg_cmp ((x0.toInt64) &&& (4294967295 : Int64)) ((x1.toInt64) &&& (4294967295 : Int64)))
    have e_7 := mt i_le.mpr (show ¬ ((0 : Int32) ≤ (lg_cmp ((x0.toInt64) &&& (4294967295 : Int64)) ((x1.toInt64) &&& (4294967295 : Int64)))) from c_1)
    unfold cb_X0_isBelow_16
    unfold cb_X0_isBelow_21
    have l_8 : (1 : Int32).toInt = 1 := rfl
    refine WP.bz (show (1 : Int32) = 0 ∨ (1 : Int32) = 1 from (by decide)) ?_
    refine WP.ret ?_
    exact ⟨rfl, rfl, (by decide)⟩
theorem cs_X0_plain {fu : Nat} (hfu : 8589934592 ≤ fu) (x0 : Int32) (x1 : Int32) (x2 : Int32) (x3 : Int32) (F : PF) (G : PG) (hI : CI F G) (hz_x1 : x1 = 0 ∨ x1 = 1) : WP (cf_X0_plain fu x0 x1 x2 x3 F G) (fun r' F' G' => F = F' ∧ G = G' ∧ True) := by
  have q_x1 := b_rng hz_x1
  unfold cf_X0_plain
  unfold cb_X0_plain_0
  have q_1 := i_rng x0
  refine WP.ite (fun c_2 => ?_) (fun c_2 => ?_)
  · have e_3 : x0.toInt < 0 ∨ 6 < x0.toInt := c_2
    unfold cb_X0_plain_107
    refine WP.ret ?_
    exact ⟨rfl, rfl, trivial⟩
  have e_4 : ¬ (x0.toInt < 0 ∨ 6 < x0.toInt) := c_2
  refine WP.ite (fun c_5 => ?_) (fun c_5 => ?_)
  · skip
    have l_6 : (0 : Int32).toInt = 0 := rfl
    have e_7 := i_eq.mp (show x0 = (0 : Int32) from c_5)
    unfold cb_X0_plain_44
    refine WP.ite (fun c_8 => ?_) (fun c_8 => ?_)
    · skip
      have q_9 := i_rng x1
      have e_10 := i_eq.mp (show x1 = (0 : Int32) from c_8)
      unfold cb_X0_plain_54
      unfold cb_X0_plain_57
      refine WP.ret ?_
      exact ⟨rfl, rfl, trivial⟩
    · skip
      have q_11 := i_rng x1
      have e_12 := mt i_eq.mpr (show ¬ (x1 = (0 : Int32)) from c_8)
      unfold cb_X0_plain_48
      unfold cb_X0_plain_57
      refine WP.ret ?_
      exact ⟨rfl, rfl, trivial⟩
  have l_13 : (0 : Int32).toInt = 0 := rfl
  have e_14 := mt i_eq.mpr (show ¬ (x0 = (0 : Int32)) from c_5)
  refine WP.ite (fun c_15 => ?_) (fun c_15 => ?_)
  · skip
    have l_16 : (1 : Int32).toInt = 1 := rfl
    have e_17 := i_eq.mp (show x0 = (1 : Int32) from c_15)
    unfold cb_X0_plain_58
    refine WP.ret ?_
    exact ⟨rfl, rfl, trivial⟩
  have l_18 : (1 : Int32).toInt = 1 := rfl
  have e_19 := mt i_eq.mpr (show ¬ (x0 = (1 : Int32)) from c_15)
  refine WP.ite (fun c_20 => ?_) (fun c_20 => ?_)
  · skip
    have l_21 : (2 : Int32).toInt = 2 := rfl
    have e_22 := i_eq.mp (show x0 = (2 : Int32) from c_20)
    unfold cb_X0_plain_62
    refine WP.ite (fun c_23 => ?_) (fun c_23 => ?_)
    · skip
      have q_24 := i_rng x3
      have q_25 := i_rng x2
      have e_26 := i_le.mp (show x3 ≤ x2 from c_23)
      unfold cb_X0_plain_71
      unfold cb_X0_plain_72
      refine WP.bind (cs_X11_truth hfu (0 : Int32) F G hI (by decide)) ?_
      rintro r27 _ _ ⟨rfl, rfl, hp27⟩
      dsimp only
      unfold cb_X0_plain_75
      refine WP.ret ?_
      exact ⟨rfl, rfl, trivial⟩
    · skip
      have q_28 := i_rng x3
      have q_29 := i_rng x2
      have e_30 := mt i_le.mpr (show ¬ (x3 ≤ x2) from c_23)
      unfold cb_X0_plain_67
      unfold cb_X0_plain_72
      refine WP.bind (cs_X11_truth hfu (1 : Int32) F G hI (by decide)) ?_
      rintro r31 _ _ ⟨rfl, rfl, hp31⟩
      dsimp only
      unfold cb_X0_plain_75
      refine WP.ret ?_
      exact ⟨rfl, rfl, trivial⟩
  have l_32 : (2 : Int32).toInt = 2 := rfl
  have e_33 := mt i_eq.mpr (show ¬ (x0 = (2 : Int32)) from c_20)
  refine WP.ite (fun c_34 => ?_) (fun c_34 => ?_)
  · skip
    have l_35 : (3 : Int32).toInt = 3 := rfl
    have e_36 := i_eq.mp (show x0 = (3 : Int32) from c_34)
    unfold cb_X0_plain_76
    have q_37 := i_rng x2
    have q_38 := i_rng x3
    refine WP.bind (cs_X0_isBelow hfu x2 x3 F G hI) ?_
    rintro r39 _ _ ⟨rfl, rfl, hp39⟩
    dsimp only
    have q_40 := b_rng hp39
    unfold cb_X0_plain_81
    refine WP.bind (cs_X11_truth hfu r39 F G hI hp39) ?_
    rintro r41 _ _ ⟨rfl, rfl, hp41⟩
    dsimp only
    unfold cb_X0_plain_84
    refine WP.ret ?_
    exact ⟨rfl, rfl, trivial⟩
  have l_42 : (3 : Int32).toInt = 3 := rfl
  have e_43 := mt i_eq.mpr (show ¬ (x0 = (3 : Int32)) from c_34)
  refine WP.ite (fun c_44 => ?_) (fun c_44 => ?_)
  · skip
    have l_45 : (4 : Int32).toInt = 4 := rfl
    have e_46 := i_eq.mp (show x0 = (4 : Int32) from c_44)
    unfold cb_X0_plain_85
    refine WP.ret ?_
    exact ⟨rfl, rfl, trivial⟩
  have l_47 : (4 : Int32).toInt = 4 := rfl
  have e_48 := mt i_eq.mpr (show ¬ (x0 = (4 : Int32)) from c_44)
  refine WP.ite (fun c_49 => ?_) (fun c_49 => ?_)
  · skip
    have l_50 : (5 : Int32).toInt = 5 := rfl
    have e_51 := i_eq.mp (show x0 = (5 : Int32) from c_49)
    unfold cb_X0_plain_89
    refine WP.ite (fun c_52 => ?_) (fun c_52 => ?_)
    · skip
      have q_53 := i_rng x1
      have e_54 := i_eq.mp (show x1 = (0 : Int32) from c_52)
      unfold cb_X0_plain_99
      unfold cb_X0_plain_102
      refine WP.ret ?_
      exact ⟨rfl, rfl, trivial⟩
    · skip
      have q_55 := i_rng x1
      have e_56 := mt i_eq.mpr (show ¬ (x1 = (0 : Int32)) from c_52)
      unfold cb_X0_plain_93
      unfold cb_X0_plain_102
      refine WP.ret ?_
      exact ⟨rfl, rfl, trivial⟩
  have l_57 : (5 : Int32).toInt = 5 := rfl
  have e_58 := mt i_eq.mpr (show ¬ (x0 = (5 : Int32)) from c_49)
  unfold cb_X0_plain_103
  refine WP.ret ?_
  exact ⟨rfl, rfl, trivial⟩
theorem cs_X0_withRegister {fu : Nat} (hfu : 8589934592 ≤ fu) (x1 : Int32) (F : PF) (G : PG) (hI : CI F G) : WP (cf_X0_withRegister fu x1 F G) (fun r' F' G' => CI F' G' ∧ KT F F' ∧ KO F F' ∧ True) := by
  unfold cf_X0_withRegister
  unfold cb_X0_withRegister_0
  have q_1 := i_rng x1
  have l_2 : (15 : Int32).toInt = 15 := rfl
  have q_4 := i_rng ((x1.toUInt32 >>> ((15 : Int32).toUInt32 &&& Int32.toUInt32 31)).toInt32)
  have l_5 : (31 : Int32).toInt = 31 := rfl
  have e_7 := i_and ((x1.toUInt32 >>> ((15 : Int32).toUInt32 &&& Int32.toUInt32 31)).toInt32) (m := 31) 5 (by decide) (by decide)
  refine WP.ix (show vp_in (((x1.toUInt32 >>> ((15 : Int32).toUInt32 &&& Int32.toUInt32 31)).toInt32) &&& (31 : Int32)) 32 from vp_in_iff.mpr ⟨by omega, by omega⟩) ?_
  have l_8 : (20 : Int32).toInt = 20 := rfl
  have q_10 := i_rng ((x1.toUInt32 >>> ((20 : Int32).toUInt32 &&& Int32.toUInt32 31)).toInt32)
  have e_12 := i_and ((x1.toUInt32 >>> ((20 : Int32).toUInt32 &&& Int32.toUInt32 31)).toInt32) (m := 31) 5 (by decide) (by decide)
  refine WP.ix (show vp_in (((x1.toUInt32 >>> ((20 : Int32).toUInt32 &&& Int32.toUInt32 31)).toInt32) &&& (31 : Int32)) 32 from vp_in_iff.mpr ⟨by omega, by omega⟩) ?_
  refine WP.ite (fun c_13 => ?_) (fun c_13 => ?_)
  · skip
    have l_14 : (25 : Int32).toInt = 25 := rfl
    have q_16 := i_rng ((x1.toUInt32 >>> ((25 : Int32).toUInt32 &&& Int32.toUInt32 31)).toInt32)
    have l_17 : (1 : Int32).toInt = 1 := rfl
    have e_18 := i_eq.mp (show ((x1.toUInt32 >>> ((25 : Int32).toUInt32 &&& Int32.toUInt32 31)).toInt32) = (1 : Int32) from c_13)
    unfold cb_X0_withRegister_46
    have l_19 : (12 : Int32).toInt = 12 := rfl
    have q_21 := i_rng ((x1.toUInt32 >>> ((12 : Int32).toUInt32 &&& Int32.toUInt32 31)).toInt32)
    have l_22 : (7 : Int32).toInt = 7 := rfl
    have e_24 := i_and ((x1.toUInt32 >>> ((12 : Int32).toUInt32 &&& Int32.toUInt32 31)).toInt32) (m := 7) 3 (by decide) (by decide)
    have q_25 := i_rng (G 1 (((x1.toUInt32 >>> ((15 : Int32).toUInt32 &&& Int32.toUInt32 31)).toInt32) &&& (31 : Int32)).toNatClampNeg)
    have q_26 := i_rng (G 1 (((x1.toUInt32 >>> ((20 : Int32).toUInt32 &&& Int32.toUInt32 31)).toInt32) &&& (31 : Int32)).toNatClampNeg)
    refine WP.bind (cs_X0_product hfu (((x1.toUInt32 >>> ((12 : Int32).toUInt32 &&& Int32.toUInt32 31)).toInt32) &&& (7 : Int32)) (G 1 (((x1.toUInt32 >>> ((15 : Int32).toUInt32 &&& Int32.toUInt32 31)).toInt32) &&& (31 : Int32)).toNatClampNeg) (G 1 (((x1.toUInt32 >>> ((20 : Int32).toUInt32 &&& Int32.toUInt32 31)).toInt32) &&& (31 : Int32)).toNatClampNeg) F G hI) ?_
    rintro r27 _ _ ⟨rfl, rfl, hp27⟩
    dsimp only
    unfold cb_X0_withRegister_62
    have q_29 := i_rng ((x1.toUInt32 >>> ((7 : Int32).toUInt32 &&& Int32.toUInt32 31)).toInt32)
    have e_31 := i_and ((x1.toUInt32 >>> ((7 : Int32).toUInt32 &&& Int32.toUInt32 31)).toInt32) (m := 31) 5 (by decide) (by decide)
    have q_32 := i_rng r27
    refine WP.bind (cs_X0_keep hfu (((x1.toUInt32 >>> ((7 : Int32).toUInt32 &&& Int32.toUInt32 31)).toInt32) &&& (31 : Int32)) r27 F G hI) ?_
    rintro r33 F33 G33 ⟨hI33, hT33, hO33, hp33⟩
    dsimp only
    have q_34 := hI.r 10 rfl
    have q_35 := hI33.r 10 rfl
    have e_36 : (F33 10).toInt = (F 10).toInt := hO33
    unfold cb_X0_withRegister_65
    refine WP.ret ?_
    exact ⟨hI33, (KT.tr (rfl : KT F F) hT33), (KO.tr (rfl : KO F F) hO33), trivial⟩
  · skip
    have l_37 : (25 : Int32).toInt = 25 := rfl
    have q_39 := i_rng ((x1.toUInt32 >>> ((25 : Int32).toUInt32 &&& Int32.toUInt32 31)).toInt32)
    have l_40 : (1 : Int32).toInt = 1 := rfl
    have e_41 := mt i_eq.mpr (show ¬ (((x1.toUInt32 >>> ((25 : Int32).toUInt32 &&& Int32.toUInt32 31)).toInt32) = (1 : Int32)) from c_13)
    unfold cb_X0_withRegister_66
    refine WP.ite (fun c_42 => ?_) (fun c_42 => ?_)
    · skip
      have l_43 : (0 : Int32).toInt = 0 := rfl
      have e_44 := i_eq.mp (show ((x1.toUInt32 >>> ((25 : Int32).toUInt32 &&& Int32.toUInt32 31)).toInt32) = (0 : Int32) from c_42)
      unfold cb_X0_withRegister_87
      refine WP.ite (fun c_45 => ?_) (fun c_45 => ?_)
      · skip
        have l_46 : (32 : Int32).toInt = 32 := rfl
        have e_47 := i_eq.mp (show ((x1.toUInt32 >>> ((25 : Int32).toUInt32 &&& Int32.toUInt32 31)).toInt32) = (32 : Int32) from c_45)
        unfold cb_X0_withRegister_102
        unfold cb_X0_withRegister_107
        have l_48 : (12 : Int32).toInt = 12 := rfl
        have q_50 := i_rng ((x1.toUInt32 >>> ((12 : Int32).toUInt32 &&& Int32.toUInt32 31)).toInt32)
        have l_51 : (7 : Int32).toInt = 7 := rfl
        have e_53 := i_and ((x1.toUInt32 >>> ((12 : Int32).toUInt32 &&& Int32.toUInt32 31)).toInt32) (m := 7) 3 (by decide) (by decide)
        have q_54 := i_rng (G 1 (((x1.toUInt32 >>> ((15 : Int32).toUInt32 &&& Int32.toUInt32 31)).toInt32) &&& (31 : Int32)).toNatClampNeg)
        have q_55 := i_rng (G 1 (((x1.toUInt32 >>> ((20 : Int32).toUInt32 &&& Int32.toUInt32 31)).toInt32) &&& (31 : Int32)).toNatClampNeg)
        refine WP.bind (cs_X0_plain hfu (((x1.toUInt32 >>> ((12 : Int32).toUInt32 &&& Int32.toUInt32 31)).toInt32) &&& (7 : Int32)) (1 : Int32) (G 1 (((x1.toUInt32 >>> ((15 : Int32).toUInt32 &&& Int32.toUInt32 31)).toInt32) &&& (31 : Int32)).toNatClampNeg) (G 1 (((x1.toUInt32 >>> ((20 : Int32).toUInt32 &&& Int32.toUInt32 31)).toInt32) &&& (31 : Int32)).toNatClampNeg) F G hI (by decide)) ?_
        rintro r56 _ _ ⟨rfl, rfl, hp56⟩
        dsimp only
        unfold cb_X0_withRegister_114
        have q_58 := i_rng ((x1.toUInt32 >>> ((7 : Int32).toUInt32 &&& Int32.toUInt32 31)).toInt32)
        have e_60 := i_and ((x1.toUInt32 >>> ((7 : Int32).toUInt32 &&& Int32.toUInt32 31)).toInt32) (m := 31) 5 (by decide) (by decide)
        have q_61 := i_rng r56
        refine WP.bind (cs_X0_keep hfu (((x1.toUInt32 >>> ((7 : Int32).toUInt32 &&& Int32.toUInt32 31)).toInt32) &&& (31 : Int32)) r56 F G hI) ?_
        rintro r62 F62 G62 ⟨hI62, hT62, hO62, hp62⟩
        dsimp only
        have q_63 := hI.r 10 rfl
        have q_64 := hI62.r 10 rfl
        have e_65 : (F62 10).toInt = (F 10).toInt := hO62
        unfold cb_X0_withRegister_117
        refine WP.ret ?_
        exact ⟨hI62, (KT.tr (rfl : KT F F) hT62), (KO.tr (rfl : KO F F) hO62), trivial⟩
      · skip
        have l_66 : (32 : Int32).toInt = 32 := rfl
        have e_67 := mt i_eq.mpr (show ¬ (((x1.toUInt32 >>> ((25 : Int32).toUInt32 &&& Int32.toUInt32 31)).toInt32) = (32 : Int32)) from c_45)
        unfold cb_X0_withRegister_106
        unfold cb_X0_withRegister_107
        have l_68 : (12 : Int32).toInt = 12 := rfl
        have q_70 := i_rng ((x1.toUInt32 >>> ((12 : Int32).toUInt32 &&& Int32.toUInt32 31)).toInt32)
        have l_71 : (7 : Int32).toInt = 7 := rfl
        have e_73 := i_and ((x1.toUInt32 >>> ((12 : Int32).toUInt32 &&& Int32.toUInt32 31)).toInt32) (m := 7) 3 (by decide) (by decide)
        have q_74 := i_rng (G 1 (((x1.toUInt32 >>> ((15 : Int32).toUInt32 &&& Int32.toUInt32 31)).toInt32) &&& (31 : Int32)).toNatClampNeg)
        have q_75 := i_rng (G 1 (((x1.toUInt32 >>> ((20 : Int32).toUInt32 &&& Int32.toUInt32 31)).toInt32) &&& (31 : Int32)).toNatClampNeg)
        refine WP.bind (cs_X0_plain hfu (((x1.toUInt32 >>> ((12 : Int32).toUInt32 &&& Int32.toUInt32 31)).toInt32) &&& (7 : Int32)) (0 : Int32) (G 1 (((x1.toUInt32 >>> ((15 : Int32).toUInt32 &&& Int32.toUInt32 31)).toInt32) &&& (31 : Int32)).toNatClampNeg) (G 1 (((x1.toUInt32 >>> ((20 : Int32).toUInt32 &&& Int32.toUInt32 31)).toInt32) &&& (31 : Int32)).toNatClampNeg) F G hI (by decide)) ?_
        rintro r76 _ _ ⟨rfl, rfl, hp76⟩
        dsimp only
        unfold cb_X0_withRegister_114
        have q_78 := i_rng ((x1.toUInt32 >>> ((7 : Int32).toUInt32 &&& Int32.toUInt32 31)).toInt32)
        have e_80 := i_and ((x1.toUInt32 >>> ((7 : Int32).toUInt32 &&& Int32.toUInt32 31)).toInt32) (m := 31) 5 (by decide) (by decide)
        have q_81 := i_rng r76
        refine WP.bind (cs_X0_keep hfu (((x1.toUInt32 >>> ((7 : Int32).toUInt32 &&& Int32.toUInt32 31)).toInt32) &&& (31 : Int32)) r76 F G hI) ?_
        rintro r82 F82 G82 ⟨hI82, hT82, hO82, hp82⟩
        dsimp only
        have q_83 := hI.r 10 rfl
        have q_84 := hI82.r 10 rfl
        have e_85 : (F82 10).toInt = (F 10).toInt := hO82
        unfold cb_X0_withRegister_117
        refine WP.ret ?_
        exact ⟨hI82, (KT.tr (rfl : KT F F) hT82), (KO.tr (rfl : KO F F) hO82), trivial⟩
    · skip
      have l_86 : (0 : Int32).toInt = 0 := rfl
      have e_87 := mt i_eq.mpr (show ¬ (((x1.toUInt32 >>> ((25 : Int32).toUInt32 &&& Int32.toUInt32 31)).toInt32) = (0 : Int32)) from c_42)
      unfold cb_X0_withRegister_70
      refine WP.ite (fun c_88 => ?_) (fun c_88 => ?_)
      · skip
        have l_89 : (32 : Int32).toInt = 32 := rfl
        have e_90 := i_eq.mp (show ((x1.toUInt32 >>> ((25 : Int32).toUInt32 &&& Int32.toUInt32 31)).toInt32) = (32 : Int32) from c_88)
        unfold cb_X0_withRegister_76
        refine WP.ite (fun c_91 => ?_) (fun c_91 => ?_)
        · skip
          have l_92 : (12 : Int32).toInt = 12 := rfl
          have q_94 := i_rng ((x1.toUInt32 >>> ((12 : Int32).toUInt32 &&& Int32.toUInt32 31)).toInt32)
          have l_95 : (7 : Int32).toInt = 7 := rfl
          have e_97 := i_and ((x1.toUInt32 >>> ((12 : Int32).toUInt32 &&& Int32.toUInt32 31)).toInt32) (m := 7) 3 (by decide) (by decide)
          have e_98 := i_eq.mp (show (((x1.toUInt32 >>> ((12 : Int32).toUInt32 &&& Int32.toUInt32 31)).toInt32) &&& (7 : Int32)) = (0 : Int32) from c_91)
          unfold cb_X0_withRegister_87
          refine WP.ite (fun c_99 => ?_) (fun c_99 => ?_)
          · skip
            have e_100 := i_eq.mp (show ((x1.toUInt32 >>> ((25 : Int32).toUInt32 &&& Int32.toUInt32 31)).toInt32) = (32 : Int32) from c_99)
            unfold cb_X0_withRegister_102
            unfold cb_X0_withRegister_107
            have q_101 := i_rng (G 1 (((x1.toUInt32 >>> ((15 : Int32).toUInt32 &&& Int32.toUInt32 31)).toInt32) &&& (31 : Int32)).toNatClampNeg)
            have q_102 := i_rng (G 1 (((x1.toUInt32 >>> ((20 : Int32).toUInt32 &&& Int32.toUInt32 31)).toInt32) &&& (31 : Int32)).toNatClampNeg)
            refine WP.bind (cs_X0_plain hfu (((x1.toUInt32 >>> ((12 : Int32).toUInt32 &&& Int32.toUInt32 31)).toInt32) &&& (7 : Int32)) (1 : Int32) (G 1 (((x1.toUInt32 >>> ((15 : Int32).toUInt32 &&& Int32.toUInt32 31)).toInt32) &&& (31 : Int32)).toNatClampNeg) (G 1 (((x1.toUInt32 >>> ((20 : Int32).toUInt32 &&& Int32.toUInt32 31)).toInt32) &&& (31 : Int32)).toNatClampNeg) F G hI (by decide)) ?_
            rintro r103 _ _ ⟨rfl, rfl, hp103⟩
            dsimp only
            unfold cb_X0_withRegister_114
            have q_105 := i_rng ((x1.toUInt32 >>> ((7 : Int32).toUInt32 &&& Int32.toUInt32 31)).toInt32)
            have e_107 := i_and ((x1.toUInt32 >>> ((7 : Int32).toUInt32 &&& Int32.toUInt32 31)).toInt32) (m := 31) 5 (by decide) (by decide)
            have q_108 := i_rng r103
            refine WP.bind (cs_X0_keep hfu (((x1.toUInt32 >>> ((7 : Int32).toUInt32 &&& Int32.toUInt32 31)).toInt32) &&& (31 : Int32)) r103 F G hI) ?_
            rintro r109 F109 G109 ⟨hI109, hT109, hO109, hp109⟩
            dsimp only
            have q_110 := hI.r 10 rfl
            have q_111 := hI109.r 10 rfl
            have e_112 : (F109 10).toInt = (F 10).toInt := hO109
            unfold cb_X0_withRegister_117
            refine WP.ret ?_
            exact ⟨hI109, (KT.tr (rfl : KT F F) hT109), (KO.tr (rfl : KO F F) hO109), trivial⟩
          · skip
            have e_113 := mt i_eq.mpr (show ¬ (((x1.toUInt32 >>> ((25 : Int32).toUInt32 &&& Int32.toUInt32 31)).toInt32) = (32 : Int32)) from c_99)
            unfold cb_X0_withRegister_106
            unfold cb_X0_withRegister_107
            have q_114 := i_rng (G 1 (((x1.toUInt32 >>> ((15 : Int32).toUInt32 &&& Int32.toUInt32 31)).toInt32) &&& (31 : Int32)).toNatClampNeg)
            have q_115 := i_rng (G 1 (((x1.toUInt32 >>> ((20 : Int32).toUInt32 &&& Int32.toUInt32 31)).toInt32) &&& (31 : Int32)).toNatClampNeg)
            refine WP.bind (cs_X0_plain hfu (((x1.toUInt32 >>> ((12 : Int32).toUInt32 &&& Int32.toUInt32 31)).toInt32) &&& (7 : Int32)) (0 : Int32) (G 1 (((x1.toUInt32 >>> ((15 : Int32).toUInt32 &&& Int32.toUInt32 31)).toInt32) &&& (31 : Int32)).toNatClampNeg) (G 1 (((x1.toUInt32 >>> ((20 : Int32).toUInt32 &&& Int32.toUInt32 31)).toInt32) &&& (31 : Int32)).toNatClampNeg) F G hI (by decide)) ?_
            rintro r116 _ _ ⟨rfl, rfl, hp116⟩
            dsimp only
            unfold cb_X0_withRegister_114
            have q_118 := i_rng ((x1.toUInt32 >>> ((7 : Int32).toUInt32 &&& Int32.toUInt32 31)).toInt32)
            have e_120 := i_and ((x1.toUInt32 >>> ((7 : Int32).toUInt32 &&& Int32.toUInt32 31)).toInt32) (m := 31) 5 (by decide) (by decide)
            have q_121 := i_rng r116
            refine WP.bind (cs_X0_keep hfu (((x1.toUInt32 >>> ((7 : Int32).toUInt32 &&& Int32.toUInt32 31)).toInt32) &&& (31 : Int32)) r116 F G hI) ?_
            rintro r122 F122 G122 ⟨hI122, hT122, hO122, hp122⟩
            dsimp only
            have q_123 := hI.r 10 rfl
            have q_124 := hI122.r 10 rfl
            have e_125 : (F122 10).toInt = (F 10).toInt := hO122
            unfold cb_X0_withRegister_117
            refine WP.ret ?_
            exact ⟨hI122, (KT.tr (rfl : KT F F) hT122), (KO.tr (rfl : KO F F) hO122), trivial⟩
        · skip
          have l_126 : (12 : Int32).toInt = 12 := rfl
          have q_128 := i_rng ((x1.toUInt32 >>> ((12 : Int32).toUInt32 &&& Int32.toUInt32 31)).toInt32)
          have l_129 : (7 : Int32).toInt = 7 := rfl
          have e_131 := i_and ((x1.toUInt32 >>> ((12 : Int32).toUInt32 &&& Int32.toUInt32 31)).toInt32) (m := 7) 3 (by decide) (by decide)
          have e_132 := mt i_eq.mpr (show ¬ ((((x1.toUInt32 >>> ((12 : Int32).toUInt32 &&& Int32.toUInt32 31)).toInt32) &&& (7 : Int32)) = (0 : Int32)) from c_91)
          unfold cb_X0_withRegister_80
          refine WP.ite (fun c_133 => ?_) (fun c_133 => ?_)
          · skip
            have l_134 : (5 : Int32).toInt = 5 := rfl
            have e_135 := i_eq.mp (show (((x1.toUInt32 >>> ((12 : Int32).toUInt32 &&& Int32.toUInt32 31)).toInt32) &&& (7 : Int32)) = (5 : Int32) from c_133)
            unfold cb_X0_withRegister_87
            refine WP.ite (fun c_136 => ?_) (fun c_136 => ?_)
            · skip
              have e_137 := i_eq.mp (show ((x1.toUInt32 >>> ((25 : Int32).toUInt32 &&& Int32.toUInt32 31)).toInt32) = (32 : Int32) from c_136)
              unfold cb_X0_withRegister_102
              unfold cb_X0_withRegister_107
              have q_138 := i_rng (G 1 (((x1.toUInt32 >>> ((15 : Int32).toUInt32 &&& Int32.toUInt32 31)).toInt32) &&& (31 : Int32)).toNatClampNeg)
              have q_139 := i_rng (G 1 (((x1.toUInt32 >>> ((20 : Int32).toUInt32 &&& Int32.toUInt32 31)).toInt32) &&& (31 : Int32)).toNatClampNeg)
              refine WP.bind (cs_X0_plain hfu (((x1.toUInt32 >>> ((12 : Int32).toUInt32 &&& Int32.toUInt32 31)).toInt32) &&& (7 : Int32)) (1 : Int32) (G 1 (((x1.toUInt32 >>> ((15 : Int32).toUInt32 &&& Int32.toUInt32 31)).toInt32) &&& (31 : Int32)).toNatClampNeg) (G 1 (((x1.toUInt32 >>> ((20 : Int32).toUInt32 &&& Int32.toUInt32 31)).toInt32) &&& (31 : Int32)).toNatClampNeg) F G hI (by decide)) ?_
              rintro r140 _ _ ⟨rfl, rfl, hp140⟩
              dsimp only
              unfold cb_X0_withRegister_114
              have q_142 := i_rng ((x1.toUInt32 >>> ((7 : Int32).toUInt32 &&& Int32.toUInt32 31)).toInt32)
              have e_144 := i_and ((x1.toUInt32 >>> ((7 : Int32).toUInt32 &&& Int32.toUInt32 31)).toInt32) (m := 31) 5 (by decide) (by decide)
              have q_145 := i_rng r140
              refine WP.bind (cs_X0_keep hfu (((x1.toUInt32 >>> ((7 : Int32).toUInt32 &&& Int32.toUInt32 31)).toInt32) &&& (31 : Int32)) r140 F G hI) ?_
              rintro r146 F146 G146 ⟨hI146, hT146, hO146, hp146⟩
              dsimp only
              have q_147 := hI.r 10 rfl
              have q_148 := hI146.r 10 rfl
              have e_149 : (F146 10).toInt = (F 10).toInt := hO146
              unfold cb_X0_withRegister_117
              refine WP.ret ?_
              exact ⟨hI146, (KT.tr (rfl : KT F F) hT146), (KO.tr (rfl : KO F F) hO146), trivial⟩
            · skip
              have e_150 := mt i_eq.mpr (show ¬ (((x1.toUInt32 >>> ((25 : Int32).toUInt32 &&& Int32.toUInt32 31)).toInt32) = (32 : Int32)) from c_136)
              unfold cb_X0_withRegister_106
              unfold cb_X0_withRegister_107
              have q_151 := i_rng (G 1 (((x1.toUInt32 >>> ((15 : Int32).toUInt32 &&& Int32.toUInt32 31)).toInt32) &&& (31 : Int32)).toNatClampNeg)
              have q_152 := i_rng (G 1 (((x1.toUInt32 >>> ((20 : Int32).toUInt32 &&& Int32.toUInt32 31)).toInt32) &&& (31 : Int32)).toNatClampNeg)
              refine WP.bind (cs_X0_plain hfu (((x1.toUInt32 >>> ((12 : Int32).toUInt32 &&& Int32.toUInt32 31)).toInt32) &&& (7 : Int32)) (0 : Int32) (G 1 (((x1.toUInt32 >>> ((15 : Int32).toUInt32 &&& Int32.toUInt32 31)).toInt32) &&& (31 : Int32)).toNatClampNeg) (G 1 (((x1.toUInt32 >>> ((20 : Int32).toUInt32 &&& Int32.toUInt32 31)).toInt32) &&& (31 : Int32)).toNatClampNeg) F G hI (by decide)) ?_
              rintro r153 _ _ ⟨rfl, rfl, hp153⟩
              dsimp only
              unfold cb_X0_withRegister_114
              have q_155 := i_rng ((x1.toUInt32 >>> ((7 : Int32).toUInt32 &&& Int32.toUInt32 31)).toInt32)
              have e_157 := i_and ((x1.toUInt32 >>> ((7 : Int32).toUInt32 &&& Int32.toUInt32 31)).toInt32) (m := 31) 5 (by decide) (by decide)
              have q_158 := i_rng r153
              refine WP.bind (cs_X0_keep hfu (((x1.toUInt32 >>> ((7 : Int32).toUInt32 &&& Int32.toUInt32 31)).toInt32) &&& (31 : Int32)) r153 F G hI) ?_
              rintro r159 F159 G159 ⟨hI159, hT159, hO159, hp159⟩
              dsimp only
              have q_160 := hI.r 10 rfl
              have q_161 := hI159.r 10 rfl
              have e_162 : (F159 10).toInt = (F 10).toInt := hO159
              unfold cb_X0_withRegister_117
              refine WP.ret ?_
              exact ⟨hI159, (KT.tr (rfl : KT F F) hT159), (KO.tr (rfl : KO F F) hO159), trivial⟩
          · skip
            have l_163 : (5 : Int32).toInt = 5 := rfl
            have e_164 := mt i_eq.mpr (show ¬ ((((x1.toUInt32 >>> ((12 : Int32).toUInt32 &&& Int32.toUInt32 31)).toInt32) &&& (7 : Int32)) = (5 : Int32)) from c_133)
            unfold cb_X0_withRegister_85
            refine WP.ret ?_
            exact ⟨hI, (rfl : KT F F), (rfl : KO F F), trivial⟩
      · skip
        have l_165 : (32 : Int32).toInt = 32 := rfl
        have e_166 := mt i_eq.mpr (show ¬ (((x1.toUInt32 >>> ((25 : Int32).toUInt32 &&& Int32.toUInt32 31)).toInt32) = (32 : Int32)) from c_88)
        unfold cb_X0_withRegister_85
        refine WP.ret ?_
        exact ⟨hI, (rfl : KT F F), (rfl : KO F F), trivial⟩
theorem cs_X0_link {fu : Nat} (hfu : 8589934592 ≤ fu) (x1 : Int32) (x2 : Int32) (F : PF) (G : PG) (hI : CI F G) : WP (cf_X0_link fu x1 x2 F G) (fun r' F' G' => CI F' G' ∧ KT F F' ∧ KO F F' ∧ True) := by
  unfold cf_X0_link
  unfold cb_X0_link_0
  refine WP.ite (fun c_1 => ?_) (fun c_1 => ?_)
  · skip
    have q_2 := i_rng x2
    have l_3 : (3 : Int32).toInt = 3 := rfl
    have e_5 := i_and x2 (m := 3) 2 (by decide) (by decide)
    have l_6 : (0 : Int32).toInt = 0 := rfl
    have e_7 := i_eq.mp (show (x2 &&& (3 : Int32)) = (0 : Int32) from c_1)
    unfold cb_X0_link_8
    have j_8 : CI (fup F 4 x2) G := CI.fr rfl hI
    unfold cb_X0_link_13
    have q_9 := i_rng x1
    have q_10 := i_rng (F 2)
    first | have e_11 : ((F 2) + (4 : Int32)).toInt = (F 2).toInt + (4) := i_addn (F 2) rfl (by omega) (by omega) | have e_12 := i_rng ((F 2) + (4 : Int32))
    refine WP.bind (cs_X0_keep hfu x1 ((F 2) + (4 : Int32)) (fup F 4 x2) G j_8) ?_
    rintro r13 F13 G13 ⟨hI13, hT13, hO13, hp13⟩
    dsimp only
    have q_14 := hI.r 10 rfl
    have q_15 := hI13.r 10 rfl
    have e_16 : (F13 10).toInt = (F 10).toInt := hO13
    unfold cb_X0_link_24
    refine WP.ret ?_
    exact ⟨hI13, (KT.tr (KT.f (by decide) (rfl : KT F F)) hT13), (KO.tr (KO.f (by decide) (rfl : KO F F)) hO13), trivial⟩
  · skip
    have q_17 := i_rng x2
    have l_18 : (3 : Int32).toInt = 3 := rfl
    have e_20 := i_and x2 (m := 3) 2 (by decide) (by decide)
    have l_21 : (0 : Int32).toInt = 0 := rfl
    have e_22 := mt i_eq.mpr (show ¬ ((x2 &&& (3 : Int32)) = (0 : Int32)) from c_1)
    unfold cb_X0_link_6
    refine WP.ret ?_
    exact ⟨hI, (rfl : KT F F), (rfl : KO F F), trivial⟩
theorem cs_X0_offsetJ {fu : Nat} (hfu : 8589934592 ≤ fu) (x0 : Int32) (F : PF) (G : PG) (hI : CI F G) : WP (cf_X0_offsetJ fu x0 F G) (fun r' F' G' => F = F' ∧ G = G' ∧ True) := by
  unfold cf_X0_offsetJ
  unfold cb_X0_offsetJ_0
  refine WP.ret ?_
  exact ⟨rfl, rfl, trivial⟩
theorem cs_X0_reach {fu : Nat} (hfu : 8589934592 ≤ fu) (x0 : Int32) (x1 : Int32) (F : PF) (G : PG) (hI : CI F G) (ha : 1 ≤ x1.toInt) (hb : x1.toInt ≤ 8) : WP (cf_X0_reach fu x0 x1 F G) (fun r' F' G' => F = F' ∧ G = G' ∧ ((r'.toInt = 0 → 0 ≤ x0.toInt ∧ x0.toInt ≤ 16384 - x1.toInt))) := by
  unfold cf_X0_reach
  unfold cb_X0_reach_0
  refine WP.ite (fun c_1 => ?_) (fun c_1 => ?_)
  · skip
    have q_2 := i_rng x0
    have q_3 := i_rng x1
    first | have e_4 : (x1 - (1 : Int32)).toInt = x1.toInt - (1) := i_subn x1 rfl (by omega) (by omega) | have e_5 := i_rng (x1 - (1 : Int32))
    have q_7 := i_rng (x0 &&& (x1 - (1 : Int32)))
    have l_8 : (0 : Int32).toInt = 0 := rfl
    have e_9 := i_eq.mp (show (x0 &&& (x1 - (1 : Int32))) = (0 : Int32) from c_1)
    unfold cb_X0_reach_10
    refine WP.ite (fun c_10 => ?_) (fun c_10 => ?_)
    · skip
      have e_11 := i_lt.mp (show x0 < (0 : Int32) from c_10)
      unfold cb_X0_reach_23
      unfold cb_X0_reach_28
      refine WP.ret ?_
      have l_12 : (5 : Int32).toInt = 5 := rfl
      exact ⟨rfl, rfl, (show (5 : Int32).toInt = 0 → 0 ≤ x0.toInt ∧ x0.toInt ≤ 16384 - x1.toInt by omega)⟩
    · skip
      have e_13 := mt i_lt.mpr (show ¬ (x0 < (0 : Int32)) from c_10)
      unfold cb_X0_reach_14
      refine WP.ite (fun c_14 => ?_) (fun c_14 => ?_)
      · skip
        have l_15 : (16384 : Int32).toInt = 16384 := rfl
        first | have e_16 : ((16384 : Int32) - x1).toInt = (16384 : Int32).toInt - (x1.toInt) := i_subn (16384 : Int32) rfl (by omega) (by omega) | have e_17 := i_rng ((16384 : Int32) - x1)
        have e_18 := i_le.mp (show x0 ≤ ((16384 : Int32) - x1) from c_14)
        unfold cb_X0_reach_27
        unfold cb_X0_reach_28
        refine WP.ret ?_
        exact ⟨rfl, rfl, (show (0 : Int32).toInt = 0 → 0 ≤ x0.toInt ∧ x0.toInt ≤ 16384 - x1.toInt by omega)⟩
      · skip
        have l_19 : (16384 : Int32).toInt = 16384 := rfl
        first | have e_20 : ((16384 : Int32) - x1).toInt = (16384 : Int32).toInt - (x1.toInt) := i_subn (16384 : Int32) rfl (by omega) (by omega) | have e_21 := i_rng ((16384 : Int32) - x1)
        have e_22 := mt i_le.mpr (show ¬ (x0 ≤ ((16384 : Int32) - x1)) from c_14)
        unfold cb_X0_reach_23
        unfold cb_X0_reach_28
        refine WP.ret ?_
        have l_23 : (5 : Int32).toInt = 5 := rfl
        exact ⟨rfl, rfl, (show (5 : Int32).toInt = 0 → 0 ≤ x0.toInt ∧ x0.toInt ≤ 16384 - x1.toInt by omega)⟩
  · skip
    have q_24 := i_rng x0
    have q_25 := i_rng x1
    first | have e_26 : (x1 - (1 : Int32)).toInt = x1.toInt - (1) := i_subn x1 rfl (by omega) (by omega) | have e_27 := i_rng (x1 - (1 : Int32))
    have q_29 := i_rng (x0 &&& (x1 - (1 : Int32)))
    have l_30 : (0 : Int32).toInt = 0 := rfl
    have e_31 := mt i_eq.mpr (show ¬ ((x0 &&& (x1 - (1 : Int32))) = (0 : Int32)) from c_1)
    unfold cb_X0_reach_8
    refine WP.ret ?_
    have l_32 : (4 : Int32).toInt = 4 := rfl
    exact ⟨rfl, rfl, (show (4 : Int32).toInt = 0 → 0 ≤ x0.toInt ∧ x0.toInt ≤ 16384 - x1.toInt by omega)⟩
theorem cs_X0_store {fu : Nat} (hfu : 8589934592 ≤ fu) (x1 : Int32) (F : PF) (G : PG) (hI : CI F G) : WP (cf_X0_store fu x1 F G) (fun r' F' G' => CI F' G' ∧ KT F F' ∧ KO F F' ∧ True) := by
  unfold cf_X0_store
  unfold cb_X0_store_0
  refine WP.ite (fun c_1 => ?_) (fun c_1 => ?_)
  · skip
    have q_2 := i_rng x1
    have l_3 : (12 : Int32).toInt = 12 := rfl
    have q_5 := i_rng ((x1.toUInt32 >>> ((12 : Int32).toUInt32 &&& Int32.toUInt32 31)).toInt32)
    have l_6 : (7 : Int32).toInt = 7 := rfl
    have e_8 := i_and ((x1.toUInt32 >>> ((12 : Int32).toUInt32 &&& Int32.toUInt32 31)).toInt32) (m := 7) 3 (by decide) (by decide)
    have l_9 : (2 : Int32).toInt = 2 := rfl
    have e_10 := i_le.mp (show (((x1.toUInt32 >>> ((12 : Int32).toUInt32 &&& Int32.toUInt32 31)).toInt32) &&& (7 : Int32)) ≤ (2 : Int32) from c_1)
    unfold cb_X0_store_15
    have l_11 : (15 : Int32).toInt = 15 := rfl
    have q_13 := i_rng ((x1.toUInt32 >>> ((15 : Int32).toUInt32 &&& Int32.toUInt32 31)).toInt32)
    have l_14 : (31 : Int32).toInt = 31 := rfl
    have e_16 := i_and ((x1.toUInt32 >>> ((15 : Int32).toUInt32 &&& Int32.toUInt32 31)).toInt32) (m := 31) 5 (by decide) (by decide)
    refine WP.ix (show vp_in (((x1.toUInt32 >>> ((15 : Int32).toUInt32 &&& Int32.toUInt32 31)).toInt32) &&& (31 : Int32)) 32 from vp_in_iff.mpr ⟨by omega, by omega⟩) ?_
    have q_17 := i_rng (G 1 (((x1.toUInt32 >>> ((15 : Int32).toUInt32 &&& Int32.toUInt32 31)).toInt32) &&& (31 : Int32)).toNatClampNeg)
    have l_18 : (25 : Int32).toInt = 25 := rfl
    have e_20 : ((x1 >>> ((25 : Int32) &&& 31))).toInt = x1.toInt / 33554432 := i_shr 25 (by decide)
    have l_21 : (5 : Int32).toInt = 5 := rfl
    have q_23 := i_rng ((x1 >>> ((25 : Int32) &&& 31)) <<< ((5 : Int32) &&& 31))
    have q_25 := i_rng ((x1.toUInt32 >>> ((7 : Int32).toUInt32 &&& Int32.toUInt32 31)).toInt32)
    have e_27 := i_and ((x1.toUInt32 >>> ((7 : Int32).toUInt32 &&& Int32.toUInt32 31)).toInt32) (m := 31) 5 (by decide) (by decide)
    have q_29 := i_rng (((x1 >>> ((25 : Int32) &&& 31)) <<< ((5 : Int32) &&& 31)) ||| (((x1.toUInt32 >>> ((7 : Int32).toUInt32 &&& Int32.toUInt32 31)).toInt32) &&& (31 : Int32)))
    first | have e_30 : ((G 1 (((x1.toUInt32 >>> ((15 : Int32).toUInt32 &&& Int32.toUInt32 31)).toInt32) &&& (31 : Int32)).toNatClampNeg) + (((x1 >>> ((25 : Int32) &&& 31)) <<< ((5 : Int32) &&& 31)) ||| (((x1.toUInt32 >>> ((7 : Int32).toUInt32 &&& Int32.toUInt32 31)).toInt32) &&& (31 : Int32)))).toInt = (G 1 (((x1.toUInt32 >>> ((15 : Int32).toUInt32 &&& Int32.toUInt32 31)).toInt32) &&& (31 : Int32)).toNatClampNeg).toInt + ((((x1 >>> ((25 : Int32) &&& 31)) <<< ((5 : Int32) &&& 31)) ||| (((x1.toUInt32 >>> ((7 : Int32).toUInt32 &&& Int32.toUInt32 31)).toInt32) &&& (31 : Int32))).toInt) := i_addn (G 1 (((x1.toUInt32 >>> ((15 : Int32).toUInt32 &&& Int32.toUInt32 31)).toInt32) &&& (31 : Int32)).toNatClampNeg) rfl (by omega) (by omega) | have e_31 := i_rng ((G 1 (((x1.toUInt32 >>> ((15 : Int32).toUInt32 &&& Int32.toUInt32 31)).toInt32) &&& (31 : Int32)).toNatClampNeg) + (((x1 >>> ((25 : Int32) &&& 31)) <<< ((5 : Int32) &&& 31)) ||| (((x1.toUInt32 >>> ((7 : Int32).toUInt32 &&& Int32.toUInt32 31)).toInt32) &&& (31 : Int32))))
    have l_32 : (1 : Int32).toInt = 1 := rfl
    have e_34 := i_shl1 (s := (((x1.toUInt32 >>> ((12 : Int32).toUInt32 &&& Int32.toUInt32 31)).toInt32) &&& (7 : Int32))) ⟨by omega, by omega⟩
    refine WP.bind (cs_X0_reach hfu ((G 1 (((x1.toUInt32 >>> ((15 : Int32).toUInt32 &&& Int32.toUInt32 31)).toInt32) &&& (31 : Int32)).toNatClampNeg) + (((x1 >>> ((25 : Int32) &&& 31)) <<< ((5 : Int32) &&& 31)) ||| (((x1.toUInt32 >>> ((7 : Int32).toUInt32 &&& Int32.toUInt32 31)).toInt32) &&& (31 : Int32)))) ((1 : Int32) <<< ((((x1.toUInt32 >>> ((12 : Int32).toUInt32 &&& Int32.toUInt32 31)).toInt32) &&& (7 : Int32)) &&& 31)) F G hI (show 1 ≤ ((1 : Int32) <<< ((((x1.toUInt32 >>> ((12 : Int32).toUInt32 &&& Int32.toUInt32 31)).toInt32) &&& (7 : Int32)) &&& 31)).toInt by omega) (show ((1 : Int32) <<< ((((x1.toUInt32 >>> ((12 : Int32).toUInt32 &&& Int32.toUInt32 31)).toInt32) &&& (7 : Int32)) &&& 31)).toInt ≤ 8 by omega)) ?_
    rintro r35 _ _ ⟨rfl, rfl, hp35⟩
    dsimp only
    have q_36 := i_rng r35
    unfold cb_X0_store_54
    refine WP.ite (fun c_37 => ?_) (fun c_37 => ?_)
    · skip
      have l_38 : (0 : Int32).toInt = 0 := rfl
      have e_39 := i_eq.mp (show r35 = (0 : Int32) from c_37)
      unfold cb_X0_store_64
      have e_41 : ((((G 1 (((x1.toUInt32 >>> ((15 : Int32).toUInt32 &&& Int32.toUInt32 31)).toInt32) &&& (31 : Int32)).toNatClampNeg) + (((x1 >>> ((25 : Int32) &&& 31)) <<< ((5 : Int32) &&& 31)) ||| (((x1.toUInt32 >>> ((7 : Int32).toUInt32 &&& Int32.toUInt32 31)).toInt32) &&& (31 : Int32)))) >>> ((2 : Int32) &&& 31))).toInt = ((G 1 (((x1.toUInt32 >>> ((15 : Int32).toUInt32 &&& Int32.toUInt32 31)).toInt32) &&& (31 : Int32)).toNatClampNeg) + (((x1 >>> ((25 : Int32) &&& 31)) <<< ((5 : Int32) &&& 31)) ||| (((x1.toUInt32 >>> ((7 : Int32).toUInt32 &&& Int32.toUInt32 31)).toInt32) &&& (31 : Int32)))).toInt / 4 := i_shr 2 (by decide)
      refine WP.ix (show vp_in (((G 1 (((x1.toUInt32 >>> ((15 : Int32).toUInt32 &&& Int32.toUInt32 31)).toInt32) &&& (31 : Int32)).toNatClampNeg) + (((x1 >>> ((25 : Int32) &&& 31)) <<< ((5 : Int32) &&& 31)) ||| (((x1.toUInt32 >>> ((7 : Int32).toUInt32 &&& Int32.toUInt32 31)).toInt32) &&& (31 : Int32)))) >>> ((2 : Int32) &&& 31)) 4096 from vp_in_iff.mpr ⟨by omega, by omega⟩) ?_
      have l_42 : (20 : Int32).toInt = 20 := rfl
      have q_44 := i_rng ((x1.toUInt32 >>> ((20 : Int32).toUInt32 &&& Int32.toUInt32 31)).toInt32)
      have e_46 := i_and ((x1.toUInt32 >>> ((20 : Int32).toUInt32 &&& Int32.toUInt32 31)).toInt32) (m := 31) 5 (by decide) (by decide)
      refine WP.ix (show vp_in (((x1.toUInt32 >>> ((20 : Int32).toUInt32 &&& Int32.toUInt32 31)).toInt32) &&& (31 : Int32)) 32 from vp_in_iff.mpr ⟨by omega, by omega⟩) ?_
      refine WP.ix (show vp_in (((G 1 (((x1.toUInt32 >>> ((15 : Int32).toUInt32 &&& Int32.toUInt32 31)).toInt32) &&& (31 : Int32)).toNatClampNeg) + (((x1 >>> ((25 : Int32) &&& 31)) <<< ((5 : Int32) &&& 31)) ||| (((x1.toUInt32 >>> ((7 : Int32).toUInt32 &&& Int32.toUInt32 31)).toInt32) &&& (31 : Int32)))) >>> ((2 : Int32) &&& 31)) 4096 from vp_in_iff.mpr ⟨by omega, by omega⟩) ?_
      have j_47 : CI F (gup G 0 (((G 1 (((x1.toUInt32 >>> ((15 : Int32).toUInt32 &&& Int32.toUInt32 31)).toInt32) &&& (31 : Int32)).toNatClampNeg) + (((x1 >>> ((25 : Int32) &&& 31)) <<< ((5 : Int32) &&& 31)) ||| (((x1.toUInt32 >>> ((7 : Int32).toUInt32 &&& Int32.toUInt32 31)).toInt32) &&& (31 : Int32)))) >>> ((2 : Int32) &&& 31)).toNatClampNeg (((G 0 (((G 1 (((x1.toUInt32 >>> ((15 : Int32).toUInt32 &&& Int32.toUInt32 31)).toInt32) &&& (31 : Int32)).toNatClampNeg) + (((x1 >>> ((25 : Int32) &&& 31)) <<< ((5 : Int32) &&& 31)) ||| (((x1.toUInt32 >>> ((7 : Int32).toUInt32 &&& Int32.toUInt32 31)).toInt32) &&& (31 : Int32)))) >>> ((2 : Int32) &&& 31)).toNatClampNeg) &&& (((((-1 : Int32).toUInt32 >>> (((32 : Int32) - (((1 : Int32) <<< ((((x1.toUInt32 >>> ((12 : Int32).toUInt32 &&& Int32.toUInt32 31)).toInt32) &&& (7 : Int32)) &&& 31)) * (8 : Int32))).toUInt32 &&& Int32.toUInt32 31)).toInt32) <<< (((((G 1 (((x1.toUInt32 >>> ((15 : Int32).toUInt32 &&& Int32.toUInt32 31)).toInt32) &&& (31 : Int32)).toNatClampNeg) + (((x1 >>> ((25 : Int32) &&& 31)) <<< ((5 : Int32) &&& 31)) ||| (((x1.toUInt32 >>> ((7 : Int32).toUInt32 &&& Int32.toUInt32 31)).toInt32) &&& (31 : Int32)))) &&& (3 : Int32)) * (8 : Int32)) &&& 31)) ^^^ (-1 : Int32))) ||| (((G 1 (((x1.toUInt32 >>> ((20 : Int32).toUInt32 &&& Int32.toUInt32 31)).toInt32) &&& (31 : Int32)).toNatClampNeg) <<< (((((G 1 (((x1.toUInt32 >>> ((15 : Int32).toUInt32 &&& Int32.toUInt32 31)).toInt32) &&& (31 : Int32)).toNatClampNeg) + (((x1 >>> ((25 : Int32) &&& 31)) <<< ((5 : Int32) &&& 31)) ||| (((x1.toUInt32 >>> ((7 : Int32).toUInt32 &&& Int32.toUInt32 31)).toInt32) &&& (31 : Int32)))) &&& (3 : Int32)) * (8 : Int32)) &&& 31)) &&& ((((-1 : Int32).toUInt32 >>> (((32 : Int32) - (((1 : Int32) <<< ((((x1.toUInt32 >>> ((12 : Int32).toUInt32 &&& Int32.toUInt32 31)).toInt32) &&& (7 : Int32)) &&& 31)) * (8 : Int32))).toUInt32 &&& Int32.toUInt32 31)).toInt32) <<< (((((G 1 (((x1.toUInt32 >>> ((15 : Int32).toUInt32 &&& Int32.toUInt32 31)).toInt32) &&& (31 : Int32)).toNatClampNeg) + (((x1 >>> ((25 : Int32) &&& 31)) <<< ((5 : Int32) &&& 31)) ||| (((x1.toUInt32 >>> ((7 : Int32).toUInt32 &&& Int32.toUInt32 31)).toInt32) &&& (31 : Int32)))) &&& (3 : Int32)) * (8 : Int32)) &&& 31))))) := CI.g (by decide) hI
      unfold cb_X0_store_131
      refine WP.ret ?_
      exact ⟨j_47, (rfl : KT F F), (rfl : KO F F), trivial⟩
    · skip
      have l_48 : (0 : Int32).toInt = 0 := rfl
      have e_49 := mt i_eq.mpr (show ¬ (r35 = (0 : Int32)) from c_37)
      unfold cb_X0_store_61
      refine WP.ret ?_
      exact ⟨hI, (rfl : KT F F), (rfl : KO F F), trivial⟩
  · skip
    have q_50 := i_rng x1
    have l_51 : (12 : Int32).toInt = 12 := rfl
    have q_53 := i_rng ((x1.toUInt32 >>> ((12 : Int32).toUInt32 &&& Int32.toUInt32 31)).toInt32)
    have l_54 : (7 : Int32).toInt = 7 := rfl
    have e_56 := i_and ((x1.toUInt32 >>> ((12 : Int32).toUInt32 &&& Int32.toUInt32 31)).toInt32) (m := 7) 3 (by decide) (by decide)
    have l_57 : (2 : Int32).toInt = 2 := rfl
    have e_58 := mt i_le.mpr (show ¬ ((((x1.toUInt32 >>> ((12 : Int32).toUInt32 &&& Int32.toUInt32 31)).toInt32) &&& (7 : Int32)) ≤ (2 : Int32)) from c_1)
    unfold cb_X0_store_13
    refine WP.ret ?_
    exact ⟨hI, (rfl : KT F F), (rfl : KO F F), trivial⟩
theorem cs_X0_load {fu : Nat} (hfu : 8589934592 ≤ fu) (x1 : Int32) (F : PF) (G : PG) (hI : CI F G) : WP (cf_X0_load fu x1 F G) (fun r' F' G' => CI F' G' ∧ KT F F' ∧ KO F F' ∧ True) := by
  unfold cf_X0_load
  unfold cb_X0_load_0
  refine WP.ite (fun c_1 => ?_) (fun c_1 => ?_)
  · skip
    have q_2 := i_rng x1
    have l_3 : (12 : Int32).toInt = 12 := rfl
    have q_5 := i_rng ((x1.toUInt32 >>> ((12 : Int32).toUInt32 &&& Int32.toUInt32 31)).toInt32)
    have l_6 : (7 : Int32).toInt = 7 := rfl
    have e_8 := i_and ((x1.toUInt32 >>> ((12 : Int32).toUInt32 &&& Int32.toUInt32 31)).toInt32) (m := 7) 3 (by decide) (by decide)
    have l_9 : (3 : Int32).toInt = 3 := rfl
    have e_10 := i_eq.mp (show (((x1.toUInt32 >>> ((12 : Int32).toUInt32 &&& Int32.toUInt32 31)).toInt32) &&& (7 : Int32)) = (3 : Int32) from c_1)
    unfold cb_X0_load_18
    refine WP.ret ?_
    exact ⟨hI, (rfl : KT F F), (rfl : KO F F), trivial⟩
  · skip
    have q_11 := i_rng x1
    have l_12 : (12 : Int32).toInt = 12 := rfl
    have q_14 := i_rng ((x1.toUInt32 >>> ((12 : Int32).toUInt32 &&& Int32.toUInt32 31)).toInt32)
    have l_15 : (7 : Int32).toInt = 7 := rfl
    have e_17 := i_and ((x1.toUInt32 >>> ((12 : Int32).toUInt32 &&& Int32.toUInt32 31)).toInt32) (m := 7) 3 (by decide) (by decide)
    have l_18 : (3 : Int32).toInt = 3 := rfl
    have e_19 := mt i_eq.mpr (show ¬ ((((x1.toUInt32 >>> ((12 : Int32).toUInt32 &&& Int32.toUInt32 31)).toInt32) &&& (7 : Int32)) = (3 : Int32)) from c_1)
    unfold cb_X0_load_13
    refine WP.ite (fun c_20 => ?_) (fun c_20 => ?_)
    · skip
      have l_21 : (5 : Int32).toInt = 5 := rfl
      have e_22 := i_le.mp (show (((x1.toUInt32 >>> ((12 : Int32).toUInt32 &&& Int32.toUInt32 31)).toInt32) &&& (7 : Int32)) ≤ (5 : Int32) from c_20)
      unfold cb_X0_load_20
      have l_23 : (15 : Int32).toInt = 15 := rfl
      have q_25 := i_rng ((x1.toUInt32 >>> ((15 : Int32).toUInt32 &&& Int32.toUInt32 31)).toInt32)
      have l_26 : (31 : Int32).toInt = 31 := rfl
      have e_28 := i_and ((x1.toUInt32 >>> ((15 : Int32).toUInt32 &&& Int32.toUInt32 31)).toInt32) (m := 31) 5 (by decide) (by decide)
      refine WP.ix (show vp_in (((x1.toUInt32 >>> ((15 : Int32).toUInt32 &&& Int32.toUInt32 31)).toInt32) &&& (31 : Int32)) 32 from vp_in_iff.mpr ⟨by omega, by omega⟩) ?_
      have q_29 := i_rng (G 1 (((x1.toUInt32 >>> ((15 : Int32).toUInt32 &&& Int32.toUInt32 31)).toInt32) &&& (31 : Int32)).toNatClampNeg)
      have l_30 : (20 : Int32).toInt = 20 := rfl
      have e_32 : ((x1 >>> ((20 : Int32) &&& 31))).toInt = x1.toInt / 1048576 := i_shr 20 (by decide)
      first | have e_33 : ((G 1 (((x1.toUInt32 >>> ((15 : Int32).toUInt32 &&& Int32.toUInt32 31)).toInt32) &&& (31 : Int32)).toNatClampNeg) + (x1 >>> ((20 : Int32) &&& 31))).toInt = (G 1 (((x1.toUInt32 >>> ((15 : Int32).toUInt32 &&& Int32.toUInt32 31)).toInt32) &&& (31 : Int32)).toNatClampNeg).toInt + ((x1 >>> ((20 : Int32) &&& 31)).toInt) := i_addn (G 1 (((x1.toUInt32 >>> ((15 : Int32).toUInt32 &&& Int32.toUInt32 31)).toInt32) &&& (31 : Int32)).toNatClampNeg) rfl (by omega) (by omega) | have e_34 := i_rng ((G 1 (((x1.toUInt32 >>> ((15 : Int32).toUInt32 &&& Int32.toUInt32 31)).toInt32) &&& (31 : Int32)).toNatClampNeg) + (x1 >>> ((20 : Int32) &&& 31)))
      have l_35 : (1 : Int32).toInt = 1 := rfl
      have e_37 := i_and (((x1.toUInt32 >>> ((12 : Int32).toUInt32 &&& Int32.toUInt32 31)).toInt32) &&& (7 : Int32)) (m := 3) 2 (by decide) (by decide)
      have e_39 := i_shl1 (s := ((((x1.toUInt32 >>> ((12 : Int32).toUInt32 &&& Int32.toUInt32 31)).toInt32) &&& (7 : Int32)) &&& (3 : Int32))) ⟨by omega, by omega⟩
      refine WP.bind (cs_X0_reach hfu ((G 1 (((x1.toUInt32 >>> ((15 : Int32).toUInt32 &&& Int32.toUInt32 31)).toInt32) &&& (31 : Int32)).toNatClampNeg) + (x1 >>> ((20 : Int32) &&& 31))) ((1 : Int32) <<< (((((x1.toUInt32 >>> ((12 : Int32).toUInt32 &&& Int32.toUInt32 31)).toInt32) &&& (7 : Int32)) &&& (3 : Int32)) &&& 31)) F G hI (show 1 ≤ ((1 : Int32) <<< (((((x1.toUInt32 >>> ((12 : Int32).toUInt32 &&& Int32.toUInt32 31)).toInt32) &&& (7 : Int32)) &&& (3 : Int32)) &&& 31)).toInt by omega) (show ((1 : Int32) <<< (((((x1.toUInt32 >>> ((12 : Int32).toUInt32 &&& Int32.toUInt32 31)).toInt32) &&& (7 : Int32)) &&& (3 : Int32)) &&& 31)).toInt ≤ 8 by omega)) ?_
      rintro r40 _ _ ⟨rfl, rfl, hp40⟩
      dsimp only
      have q_41 := i_rng r40
      unfold cb_X0_load_51
      refine WP.ite (fun c_42 => ?_) (fun c_42 => ?_)
      · skip
        have l_43 : (0 : Int32).toInt = 0 := rfl
        have e_44 := i_eq.mp (show r40 = (0 : Int32) from c_42)
        unfold cb_X0_load_61
        have l_45 : (2 : Int32).toInt = 2 := rfl
        have e_47 : ((((G 1 (((x1.toUInt32 >>> ((15 : Int32).toUInt32 &&& Int32.toUInt32 31)).toInt32) &&& (31 : Int32)).toNatClampNeg) + (x1 >>> ((20 : Int32) &&& 31))) >>> ((2 : Int32) &&& 31))).toInt = ((G 1 (((x1.toUInt32 >>> ((15 : Int32).toUInt32 &&& Int32.toUInt32 31)).toInt32) &&& (31 : Int32)).toNatClampNeg) + (x1 >>> ((20 : Int32) &&& 31))).toInt / 4 := i_shr 2 (by decide)
        refine WP.ix (show vp_in (((G 1 (((x1.toUInt32 >>> ((15 : Int32).toUInt32 &&& Int32.toUInt32 31)).toInt32) &&& (31 : Int32)).toNatClampNeg) + (x1 >>> ((20 : Int32) &&& 31))) >>> ((2 : Int32) &&& 31)) 4096 from vp_in_iff.mpr ⟨by omega, by omega⟩) ?_
        refine WP.ite (fun c_48 => ?_) (fun c_48 => ?_)
        · skip
          have l_49 : (4 : Int32).toInt = 4 := rfl
          have e_50 := i_le.mp (show (4 : Int32) ≤ (((x1.toUInt32 >>> ((12 : Int32).toUInt32 &&& Int32.toUInt32 31)).toInt32) &&& (7 : Int32)) from c_48)
          unfold cb_X0_load_113
          unfold cb_X0_load_118
          have q_52 := i_rng ((x1.toUInt32 >>> ((7 : Int32).toUInt32 &&& Int32.toUInt32 31)).toInt32)
          have e_54 := i_and ((x1.toUInt32 >>> ((7 : Int32).toUInt32 &&& Int32.toUInt32 31)).toInt32) (m := 31) 5 (by decide) (by decide)
          have q_55 := i_rng (G 0 (((G 1 (((x1.toUInt32 >>> ((15 : Int32).toUInt32 &&& Int32.toUInt32 31)).toInt32) &&& (31 : Int32)).toNatClampNeg) + (x1 >>> ((20 : Int32) &&& 31))) >>> ((2 : Int32) &&& 31)).toNatClampNeg)
          have e_57 := i_and ((G 1 (((x1.toUInt32 >>> ((15 : Int32).toUInt32 &&& Int32.toUInt32 31)).toInt32) &&& (31 : Int32)).toNatClampNeg) + (x1 >>> ((20 : Int32) &&& 31))) (m := 3) 2 (by decide) (by decide)
          have l_58 : (8 : Int32).toInt = 8 := rfl
          have q_60 := i_rng ((((G 1 (((x1.toUInt32 >>> ((15 : Int32).toUInt32 &&& Int32.toUInt32 31)).toInt32) &&& (31 : Int32)).toNatClampNeg) + (x1 >>> ((20 : Int32) &&& 31))) &&& (3 : Int32)) * (8 : Int32))
          have q_62 := i_rng (((G 0 (((G 1 (((x1.toUInt32 >>> ((15 : Int32).toUInt32 &&& Int32.toUInt32 31)).toInt32) &&& (31 : Int32)).toNatClampNeg) + (x1 >>> ((20 : Int32) &&& 31))) >>> ((2 : Int32) &&& 31)).toNatClampNeg).toUInt32 >>> (((((G 1 (((x1.toUInt32 >>> ((15 : Int32).toUInt32 &&& Int32.toUInt32 31)).toInt32) &&& (31 : Int32)).toNatClampNeg) + (x1 >>> ((20 : Int32) &&& 31))) &&& (3 : Int32)) * (8 : Int32)).toUInt32 &&& Int32.toUInt32 31)).toInt32)
          have l_63 : (32 : Int32).toInt = 32 := rfl
          have q_65 := i_rng (((1 : Int32) <<< (((((x1.toUInt32 >>> ((12 : Int32).toUInt32 &&& Int32.toUInt32 31)).toInt32) &&& (7 : Int32)) &&& (3 : Int32)) &&& 31)) * (8 : Int32))
          first | have e_66 : ((32 : Int32) - (((1 : Int32) <<< (((((x1.toUInt32 >>> ((12 : Int32).toUInt32 &&& Int32.toUInt32 31)).toInt32) &&& (7 : Int32)) &&& (3 : Int32)) &&& 31)) * (8 : Int32))).toInt = (32 : Int32).toInt - ((((1 : Int32) <<< (((((x1.toUInt32 >>> ((12 : Int32).toUInt32 &&& Int32.toUInt32 31)).toInt32) &&& (7 : Int32)) &&& (3 : Int32)) &&& 31)) * (8 : Int32)).toInt) := i_subn (32 : Int32) rfl (by omega) (by omega) | have e_67 := i_rng ((32 : Int32) - (((1 : Int32) <<< (((((x1.toUInt32 >>> ((12 : Int32).toUInt32 &&& Int32.toUInt32 31)).toInt32) &&& (7 : Int32)) &&& (3 : Int32)) &&& 31)) * (8 : Int32)))
          have q_69 := i_rng ((((G 0 (((G 1 (((x1.toUInt32 >>> ((15 : Int32).toUInt32 &&& Int32.toUInt32 31)).toInt32) &&& (31 : Int32)).toNatClampNeg) + (x1 >>> ((20 : Int32) &&& 31))) >>> ((2 : Int32) &&& 31)).toNatClampNeg).toUInt32 >>> (((((G 1 (((x1.toUInt32 >>> ((15 : Int32).toUInt32 &&& Int32.toUInt32 31)).toInt32) &&& (31 : Int32)).toNatClampNeg) + (x1 >>> ((20 : Int32) &&& 31))) &&& (3 : Int32)) * (8 : Int32)).toUInt32 &&& Int32.toUInt32 31)).toInt32) <<< (((32 : Int32) - (((1 : Int32) <<< (((((x1.toUInt32 >>> ((12 : Int32).toUInt32 &&& Int32.toUInt32 31)).toInt32) &&& (7 : Int32)) &&& (3 : Int32)) &&& 31)) * (8 : Int32))) &&& 31))
          have q_71 := i_rng ((((((G 0 (((G 1 (((x1.toUInt32 >>> ((15 : Int32).toUInt32 &&& Int32.toUInt32 31)).toInt32) &&& (31 : Int32)).toNatClampNeg) + (x1 >>> ((20 : Int32) &&& 31))) >>> ((2 : Int32) &&& 31)).toNatClampNeg).toUInt32 >>> (((((G 1 (((x1.toUInt32 >>> ((15 : Int32).toUInt32 &&& Int32.toUInt32 31)).toInt32) &&& (31 : Int32)).toNatClampNeg) + (x1 >>> ((20 : Int32) &&& 31))) &&& (3 : Int32)) * (8 : Int32)).toUInt32 &&& Int32.toUInt32 31)).toInt32) <<< (((32 : Int32) - (((1 : Int32) <<< (((((x1.toUInt32 >>> ((12 : Int32).toUInt32 &&& Int32.toUInt32 31)).toInt32) &&& (7 : Int32)) &&& (3 : Int32)) &&& 31)) * (8 : Int32))) &&& 31)).toUInt32 >>> (((32 : Int32) - (((1 : Int32) <<< (((((x1.toUInt32 >>> ((12 : Int32).toUInt32 &&& Int32.toUInt32 31)).toInt32) &&& (7 : Int32)) &&& (3 : Int32)) &&& 31)) * (8 : Int32))).toUInt32 &&& Int32.toUInt32 31)).toInt32)
          refine WP.bind (cs_X0_keep hfu (((x1.toUInt32 >>> ((7 : Int32).toUInt32 &&& Int32.toUInt32 31)).toInt32) &&& (31 : Int32)) ((((((G 0 (((G 1 (((x1.toUInt32 >>> ((15 : Int32).toUInt32 &&& Int32.toUInt32 31)).toInt32) &&& (31 : Int32)).toNatClampNeg) + (x1 >>> ((20 : Int32) &&& 31))) >>> ((2 : Int32) &&& 31)).toNatClampNeg).toUInt32 >>> (((((G 1 (((x1.toUInt32 >>> ((15 : Int32).toUInt32 &&& Int32.toUInt32 31)).toInt32) &&& (31 : Int32)).toNatClampNeg) + (x1 >>> ((20 : Int32) &&& 31))) &&& (3 : Int32)) * (8 : Int32)).toUInt32 &&& Int32.toUInt32 31)).toInt32) <<< (((32 : Int32) - (((1 : Int32) <<< (((((x1.toUInt32 >>> ((12 : Int32).toUInt32 &&& Int32.toUInt32 31)).toInt32) &&& (7 : Int32)) &&& (3 : Int32)) &&& 31)) * (8 : Int32))) &&& 31)).toUInt32 >>> (((32 : Int32) - (((1 : Int32) <<< (((((x1.toUInt32 >>> ((12 : Int32).toUInt32 &&& Int32.toUInt32 31)).toInt32) &&& (7 : Int32)) &&& (3 : Int32)) &&& 31)) * (8 : Int32))).toUInt32 &&& Int32.toUInt32 31)).toInt32) F G hI) ?_
          rintro r72 F72 G72 ⟨hI72, hT72, hO72, hp72⟩
          dsimp only
          have q_73 := hI.r 10 rfl
          have q_74 := hI72.r 10 rfl
          have e_75 : (F72 10).toInt = (F 10).toInt := hO72
          unfold cb_X0_load_121
          refine WP.ret ?_
          exact ⟨hI72, (KT.tr (rfl : KT F F) hT72), (KO.tr (rfl : KO F F) hO72), trivial⟩
        · skip
          have l_76 : (4 : Int32).toInt = 4 := rfl
          have e_77 := mt i_le.mpr (show ¬ ((4 : Int32) ≤ (((x1.toUInt32 >>> ((12 : Int32).toUInt32 &&& Int32.toUInt32 31)).toInt32) &&& (7 : Int32))) from c_48)
          unfold cb_X0_load_105
          unfold cb_X0_load_118
          have q_79 := i_rng ((x1.toUInt32 >>> ((7 : Int32).toUInt32 &&& Int32.toUInt32 31)).toInt32)
          have e_81 := i_and ((x1.toUInt32 >>> ((7 : Int32).toUInt32 &&& Int32.toUInt32 31)).toInt32) (m := 31) 5 (by decide) (by decide)
          have q_82 := i_rng (G 0 (((G 1 (((x1.toUInt32 >>> ((15 : Int32).toUInt32 &&& Int32.toUInt32 31)).toInt32) &&& (31 : Int32)).toNatClampNeg) + (x1 >>> ((20 : Int32) &&& 31))) >>> ((2 : Int32) &&& 31)).toNatClampNeg)
          have e_84 := i_and ((G 1 (((x1.toUInt32 >>> ((15 : Int32).toUInt32 &&& Int32.toUInt32 31)).toInt32) &&& (31 : Int32)).toNatClampNeg) + (x1 >>> ((20 : Int32) &&& 31))) (m := 3) 2 (by decide) (by decide)
          have l_85 : (8 : Int32).toInt = 8 := rfl
          have q_87 := i_rng ((((G 1 (((x1.toUInt32 >>> ((15 : Int32).toUInt32 &&& Int32.toUInt32 31)).toInt32) &&& (31 : Int32)).toNatClampNeg) + (x1 >>> ((20 : Int32) &&& 31))) &&& (3 : Int32)) * (8 : Int32))
          have q_89 := i_rng (((G 0 (((G 1 (((x1.toUInt32 >>> ((15 : Int32).toUInt32 &&& Int32.toUInt32 31)).toInt32) &&& (31 : Int32)).toNatClampNeg) + (x1 >>> ((20 : Int32) &&& 31))) >>> ((2 : Int32) &&& 31)).toNatClampNeg).toUInt32 >>> (((((G 1 (((x1.toUInt32 >>> ((15 : Int32).toUInt32 &&& Int32.toUInt32 31)).toInt32) &&& (31 : Int32)).toNatClampNeg) + (x1 >>> ((20 : Int32) &&& 31))) &&& (3 : Int32)) * (8 : Int32)).toUInt32 &&& Int32.toUInt32 31)).toInt32)
          have l_90 : (32 : Int32).toInt = 32 := rfl
          have q_92 := i_rng (((1 : Int32) <<< (((((x1.toUInt32 >>> ((12 : Int32).toUInt32 &&& Int32.toUInt32 31)).toInt32) &&& (7 : Int32)) &&& (3 : Int32)) &&& 31)) * (8 : Int32))
          first | have e_93 : ((32 : Int32) - (((1 : Int32) <<< (((((x1.toUInt32 >>> ((12 : Int32).toUInt32 &&& Int32.toUInt32 31)).toInt32) &&& (7 : Int32)) &&& (3 : Int32)) &&& 31)) * (8 : Int32))).toInt = (32 : Int32).toInt - ((((1 : Int32) <<< (((((x1.toUInt32 >>> ((12 : Int32).toUInt32 &&& Int32.toUInt32 31)).toInt32) &&& (7 : Int32)) &&& (3 : Int32)) &&& 31)) * (8 : Int32)).toInt) := i_subn (32 : Int32) rfl (by omega) (by omega) | have e_94 := i_rng ((32 : Int32) - (((1 : Int32) <<< (((((x1.toUInt32 >>> ((12 : Int32).toUInt32 &&& Int32.toUInt32 31)).toInt32) &&& (7 : Int32)) &&& (3 : Int32)) &&& 31)) * (8 : Int32)))
          have q_96 := i_rng ((((G 0 (((G 1 (((x1.toUInt32 >>> ((15 : Int32).toUInt32 &&& Int32.toUInt32 31)).toInt32) &&& (31 : Int32)).toNatClampNeg) + (x1 >>> ((20 : Int32) &&& 31))) >>> ((2 : Int32) &&& 31)).toNatClampNeg).toUInt32 >>> (((((G 1 (((x1.toUInt32 >>> ((15 : Int32).toUInt32 &&& Int32.toUInt32 31)).toInt32) &&& (31 : Int32)).toNatClampNeg) + (x1 >>> ((20 : Int32) &&& 31))) &&& (3 : Int32)) * (8 : Int32)).toUInt32 &&& Int32.toUInt32 31)).toInt32) <<< (((32 : Int32) - (((1 : Int32) <<< (((((x1.toUInt32 >>> ((12 : Int32).toUInt32 &&& Int32.toUInt32 31)).toInt32) &&& (7 : Int32)) &&& (3 : Int32)) &&& 31)) * (8 : Int32))) &&& 31))
          have q_98 := i_rng (((((G 0 (((G 1 (((x1.toUInt32 >>> ((15 : Int32).toUInt32 &&& Int32.toUInt32 31)).toInt32) &&& (31 : Int32)).toNatClampNeg) + (x1 >>> ((20 : Int32) &&& 31))) >>> ((2 : Int32) &&& 31)).toNatClampNeg).toUInt32 >>> (((((G 1 (((x1.toUInt32 >>> ((15 : Int32).toUInt32 &&& Int32.toUInt32 31)).toInt32) &&& (31 : Int32)).toNatClampNeg) + (x1 >>> ((20 : Int32) &&& 31))) &&& (3 : Int32)) * (8 : Int32)).toUInt32 &&& Int32.toUInt32 31)).toInt32) <<< (((32 : Int32) - (((1 : Int32) <<< (((((x1.toUInt32 >>> ((12 : Int32).toUInt32 &&& Int32.toUInt32 31)).toInt32) &&& (7 : Int32)) &&& (3 : Int32)) &&& 31)) * (8 : Int32))) &&& 31)) >>> (((32 : Int32) - (((1 : Int32) <<< (((((x1.toUInt32 >>> ((12 : Int32).toUInt32 &&& Int32.toUInt32 31)).toInt32) &&& (7 : Int32)) &&& (3 : Int32)) &&& 31)) * (8 : Int32))) &&& 31))
          refine WP.bind (cs_X0_keep hfu (((x1.toUInt32 >>> ((7 : Int32).toUInt32 &&& Int32.toUInt32 31)).toInt32) &&& (31 : Int32)) (((((G 0 (((G 1 (((x1.toUInt32 >>> ((15 : Int32).toUInt32 &&& Int32.toUInt32 31)).toInt32) &&& (31 : Int32)).toNatClampNeg) + (x1 >>> ((20 : Int32) &&& 31))) >>> ((2 : Int32) &&& 31)).toNatClampNeg).toUInt32 >>> (((((G 1 (((x1.toUInt32 >>> ((15 : Int32).toUInt32 &&& Int32.toUInt32 31)).toInt32) &&& (31 : Int32)).toNatClampNeg) + (x1 >>> ((20 : Int32) &&& 31))) &&& (3 : Int32)) * (8 : Int32)).toUInt32 &&& Int32.toUInt32 31)).toInt32) <<< (((32 : Int32) - (((1 : Int32) <<< (((((x1.toUInt32 >>> ((12 : Int32).toUInt32 &&& Int32.toUInt32 31)).toInt32) &&& (7 : Int32)) &&& (3 : Int32)) &&& 31)) * (8 : Int32))) &&& 31)) >>> (((32 : Int32) - (((1 : Int32) <<< (((((x1.toUInt32 >>> ((12 : Int32).toUInt32 &&& Int32.toUInt32 31)).toInt32) &&& (7 : Int32)) &&& (3 : Int32)) &&& 31)) * (8 : Int32))) &&& 31)) F G hI) ?_
          rintro r99 F99 G99 ⟨hI99, hT99, hO99, hp99⟩
          dsimp only
          have q_100 := hI.r 10 rfl
          have q_101 := hI99.r 10 rfl
          have e_102 : (F99 10).toInt = (F 10).toInt := hO99
          unfold cb_X0_load_121
          refine WP.ret ?_
          exact ⟨hI99, (KT.tr (rfl : KT F F) hT99), (KO.tr (rfl : KO F F) hO99), trivial⟩
      · skip
        have l_103 : (0 : Int32).toInt = 0 := rfl
        have e_104 := mt i_eq.mpr (show ¬ (r40 = (0 : Int32)) from c_42)
        unfold cb_X0_load_58
        refine WP.ret ?_
        exact ⟨hI, (rfl : KT F F), (rfl : KO F F), trivial⟩
    · skip
      have l_105 : (5 : Int32).toInt = 5 := rfl
      have e_106 := mt i_le.mpr (show ¬ ((((x1.toUInt32 >>> ((12 : Int32).toUInt32 &&& Int32.toUInt32 31)).toInt32) &&& (7 : Int32)) ≤ (5 : Int32)) from c_20)
      unfold cb_X0_load_18
      refine WP.ret ?_
      exact ⟨hI, (rfl : KT F F), (rfl : KO F F), trivial⟩
theorem cs_X0_offsetB {fu : Nat} (hfu : 8589934592 ≤ fu) (x0 : Int32) (F : PF) (G : PG) (hI : CI F G) : WP (cf_X0_offsetB fu x0 F G) (fun r' F' G' => F = F' ∧ G = G' ∧ True) := by
  unfold cf_X0_offsetB
  unfold cb_X0_offsetB_0
  refine WP.ret ?_
  exact ⟨rfl, rfl, trivial⟩
theorem cs_X0_branch {fu : Nat} (hfu : 8589934592 ≤ fu) (x1 : Int32) (F : PF) (G : PG) (hI : CI F G) : WP (cf_X0_branch fu x1 F G) (fun r' F' G' => CI F' G' ∧ KT F F' ∧ KO F F' ∧ True) := by
  unfold cf_X0_branch
  unfold cb_X0_branch_0
  have q_1 := i_rng x1
  have l_2 : (15 : Int32).toInt = 15 := rfl
  have q_4 := i_rng ((x1.toUInt32 >>> ((15 : Int32).toUInt32 &&& Int32.toUInt32 31)).toInt32)
  have l_5 : (31 : Int32).toInt = 31 := rfl
  have e_7 := i_and ((x1.toUInt32 >>> ((15 : Int32).toUInt32 &&& Int32.toUInt32 31)).toInt32) (m := 31) 5 (by decide) (by decide)
  refine WP.ix (show vp_in (((x1.toUInt32 >>> ((15 : Int32).toUInt32 &&& Int32.toUInt32 31)).toInt32) &&& (31 : Int32)) 32 from vp_in_iff.mpr ⟨by omega, by omega⟩) ?_
  have l_8 : (20 : Int32).toInt = 20 := rfl
  have q_10 := i_rng ((x1.toUInt32 >>> ((20 : Int32).toUInt32 &&& Int32.toUInt32 31)).toInt32)
  have e_12 := i_and ((x1.toUInt32 >>> ((20 : Int32).toUInt32 &&& Int32.toUInt32 31)).toInt32) (m := 31) 5 (by decide) (by decide)
  refine WP.ix (show vp_in (((x1.toUInt32 >>> ((20 : Int32).toUInt32 &&& Int32.toUInt32 31)).toInt32) &&& (31 : Int32)) 32 from vp_in_iff.mpr ⟨by omega, by omega⟩) ?_
  refine WP.ite (fun c_13 => ?_) (fun c_13 => ?_)
  · skip
    have l_14 : (12 : Int32).toInt = 12 := rfl
    have q_16 := i_rng ((x1.toUInt32 >>> ((12 : Int32).toUInt32 &&& Int32.toUInt32 31)).toInt32)
    have l_17 : (7 : Int32).toInt = 7 := rfl
    have e_19 := i_and ((x1.toUInt32 >>> ((12 : Int32).toUInt32 &&& Int32.toUInt32 31)).toInt32) (m := 7) 3 (by decide) (by decide)
    have l_20 : (2 : Int32).toInt = 2 := rfl
    have e_21 := i_eq.mp (show (((x1.toUInt32 >>> ((12 : Int32).toUInt32 &&& Int32.toUInt32 31)).toInt32) &&& (7 : Int32)) = (2 : Int32) from c_13)
    unfold cb_X0_branch_45
    refine WP.ret ?_
    exact ⟨hI, (rfl : KT F F), (rfl : KO F F), trivial⟩
  · skip
    have l_22 : (12 : Int32).toInt = 12 := rfl
    have q_24 := i_rng ((x1.toUInt32 >>> ((12 : Int32).toUInt32 &&& Int32.toUInt32 31)).toInt32)
    have l_25 : (7 : Int32).toInt = 7 := rfl
    have e_27 := i_and ((x1.toUInt32 >>> ((12 : Int32).toUInt32 &&& Int32.toUInt32 31)).toInt32) (m := 7) 3 (by decide) (by decide)
    have l_28 : (2 : Int32).toInt = 2 := rfl
    have e_29 := mt i_eq.mpr (show ¬ ((((x1.toUInt32 >>> ((12 : Int32).toUInt32 &&& Int32.toUInt32 31)).toInt32) &&& (7 : Int32)) = (2 : Int32)) from c_13)
    unfold cb_X0_branch_40
    refine WP.ite (fun c_30 => ?_) (fun c_30 => ?_)
    · skip
      have l_31 : (3 : Int32).toInt = 3 := rfl
      have e_32 := i_eq.mp (show (((x1.toUInt32 >>> ((12 : Int32).toUInt32 &&& Int32.toUInt32 31)).toInt32) &&& (7 : Int32)) = (3 : Int32) from c_30)
      unfold cb_X0_branch_45
      refine WP.ret ?_
      exact ⟨hI, (rfl : KT F F), (rfl : KO F F), trivial⟩
    · skip
      have l_33 : (3 : Int32).toInt = 3 := rfl
      have e_34 := mt i_eq.mpr (show ¬ ((((x1.toUInt32 >>> ((12 : Int32).toUInt32 &&& Int32.toUInt32 31)).toInt32) &&& (7 : Int32)) = (3 : Int32)) from c_30)
      unfold cb_X0_branch_47
      refine WP.ite (fun c_35 => ?_) (fun c_35 => ?_)
      · skip
        have e_36 := i_le.mp (show (2 : Int32) ≤ (((x1.toUInt32 >>> ((12 : Int32).toUInt32 &&& Int32.toUInt32 31)).toInt32) &&& (7 : Int32)) from c_35)
        unfold cb_X0_branch_68
        refine WP.ite (fun c_37 => ?_) (fun c_37 => ?_)
        · skip
          have l_38 : (6 : Int32).toInt = 6 := rfl
          have e_39 := i_le.mp (show (6 : Int32) ≤ (((x1.toUInt32 >>> ((12 : Int32).toUInt32 &&& Int32.toUInt32 31)).toInt32) &&& (7 : Int32)) from c_37)
          unfold cb_X0_branch_90
          have q_40 := i_rng (G 1 (((x1.toUInt32 >>> ((15 : Int32).toUInt32 &&& Int32.toUInt32 31)).toInt32) &&& (31 : Int32)).toNatClampNeg)
          have q_41 := i_rng (G 1 (((x1.toUInt32 >>> ((20 : Int32).toUInt32 &&& Int32.toUInt32 31)).toInt32) &&& (31 : Int32)).toNatClampNeg)
          refine WP.bind (cs_X0_isBelow hfu (G 1 (((x1.toUInt32 >>> ((15 : Int32).toUInt32 &&& Int32.toUInt32 31)).toInt32) &&& (31 : Int32)).toNatClampNeg) (G 1 (((x1.toUInt32 >>> ((20 : Int32).toUInt32 &&& Int32.toUInt32 31)).toInt32) &&& (31 : Int32)).toNatClampNeg) F G hI) ?_
          rintro r42 _ _ ⟨rfl, rfl, hp42⟩
          dsimp only
          have q_43 := b_rng hp42
          unfold cb_X0_branch_96
          unfold cb_X0_branch_98
          refine WP.ite (fun c_44 => ?_) (fun c_44 => ?_)
          · skip
            have l_45 : (1 : Int32).toInt = 1 := rfl
            have e_47 := i_and (((x1.toUInt32 >>> ((12 : Int32).toUInt32 &&& Int32.toUInt32 31)).toInt32) &&& (7 : Int32)) (m := 1) 1 (by decide) (by decide)
            have e_48 := i_eq.mp (show ((((x1.toUInt32 >>> ((12 : Int32).toUInt32 &&& Int32.toUInt32 31)).toInt32) &&& (7 : Int32)) &&& (1 : Int32)) = (1 : Int32) from c_44)
            unfold cb_X0_branch_107
            unfold cb_X0_branch_112
            refine WP.ite (fun c_49 => ?_) (fun c_49 => ?_)
            · skip
              have e_50 := i_eq.mp (show r42 = (1 : Int32) from c_49)
              unfold cb_X0_branch_115
              refine WP.ret ?_
              exact ⟨hI, (rfl : KT F F), (rfl : KO F F), trivial⟩
            · skip
              have e_51 := mt i_eq.mpr (show ¬ (r42 = (1 : Int32)) from c_49)
              unfold cb_X0_branch_117
              refine WP.bind (cs_X0_offsetB hfu x1 F G hI) ?_
              rintro r52 _ _ ⟨rfl, rfl, hp52⟩
              dsimp only
              unfold cb_X0_branch_125
              refine WP.ite (fun c_53 => ?_) (fun c_53 => ?_)
              · skip
                have q_54 := i_rng (F 2)
                have q_55 := i_rng r52
                first | have e_56 : ((F 2) + r52).toInt = (F 2).toInt + (r52.toInt) := i_addn (F 2) rfl (by omega) (by omega) | have e_57 := i_rng ((F 2) + r52)
                have e_59 := i_and ((F 2) + r52) (m := 3) 2 (by decide) (by decide)
                have l_60 : (0 : Int32).toInt = 0 := rfl
                have e_61 := i_eq.mp (show (((F 2) + r52) &&& (3 : Int32)) = (0 : Int32) from c_53)
                unfold cb_X0_branch_137
                have j_62 : CI (fup F 4 ((F 2) + r52)) G := CI.fr rfl hI
                unfold cb_X0_branch_143
                refine WP.ret ?_
                exact ⟨j_62, (KT.f (by decide) (rfl : KT F F)), (KO.f (by decide) (rfl : KO F F)), trivial⟩
              · skip
                have q_63 := i_rng (F 2)
                have q_64 := i_rng r52
                first | have e_65 : ((F 2) + r52).toInt = (F 2).toInt + (r52.toInt) := i_addn (F 2) rfl (by omega) (by omega) | have e_66 := i_rng ((F 2) + r52)
                have e_68 := i_and ((F 2) + r52) (m := 3) 2 (by decide) (by decide)
                have l_69 : (0 : Int32).toInt = 0 := rfl
                have e_70 := mt i_eq.mpr (show ¬ ((((F 2) + r52) &&& (3 : Int32)) = (0 : Int32)) from c_53)
                unfold cb_X0_branch_135
                refine WP.ret ?_
                exact ⟨hI, (rfl : KT F F), (rfl : KO F F), trivial⟩
          · skip
            have l_71 : (1 : Int32).toInt = 1 := rfl
            have e_73 := i_and (((x1.toUInt32 >>> ((12 : Int32).toUInt32 &&& Int32.toUInt32 31)).toInt32) &&& (7 : Int32)) (m := 1) 1 (by decide) (by decide)
            have e_74 := mt i_eq.mpr (show ¬ (((((x1.toUInt32 >>> ((12 : Int32).toUInt32 &&& Int32.toUInt32 31)).toInt32) &&& (7 : Int32)) &&& (1 : Int32)) = (1 : Int32)) from c_44)
            unfold cb_X0_branch_111
            unfold cb_X0_branch_112
            refine WP.ite (fun c_75 => ?_) (fun c_75 => ?_)
            · skip
              have l_76 : (0 : Int32).toInt = 0 := rfl
              have e_77 := i_eq.mp (show r42 = (0 : Int32) from c_75)
              unfold cb_X0_branch_115
              refine WP.ret ?_
              exact ⟨hI, (rfl : KT F F), (rfl : KO F F), trivial⟩
            · skip
              have l_78 : (0 : Int32).toInt = 0 := rfl
              have e_79 := mt i_eq.mpr (show ¬ (r42 = (0 : Int32)) from c_75)
              unfold cb_X0_branch_117
              refine WP.bind (cs_X0_offsetB hfu x1 F G hI) ?_
              rintro r80 _ _ ⟨rfl, rfl, hp80⟩
              dsimp only
              unfold cb_X0_branch_125
              refine WP.ite (fun c_81 => ?_) (fun c_81 => ?_)
              · skip
                have q_82 := i_rng (F 2)
                have q_83 := i_rng r80
                first | have e_84 : ((F 2) + r80).toInt = (F 2).toInt + (r80.toInt) := i_addn (F 2) rfl (by omega) (by omega) | have e_85 := i_rng ((F 2) + r80)
                have e_87 := i_and ((F 2) + r80) (m := 3) 2 (by decide) (by decide)
                have e_88 := i_eq.mp (show (((F 2) + r80) &&& (3 : Int32)) = (0 : Int32) from c_81)
                unfold cb_X0_branch_137
                have j_89 : CI (fup F 4 ((F 2) + r80)) G := CI.fr rfl hI
                unfold cb_X0_branch_143
                refine WP.ret ?_
                exact ⟨j_89, (KT.f (by decide) (rfl : KT F F)), (KO.f (by decide) (rfl : KO F F)), trivial⟩
              · skip
                have q_90 := i_rng (F 2)
                have q_91 := i_rng r80
                first | have e_92 : ((F 2) + r80).toInt = (F 2).toInt + (r80.toInt) := i_addn (F 2) rfl (by omega) (by omega) | have e_93 := i_rng ((F 2) + r80)
                have e_95 := i_and ((F 2) + r80) (m := 3) 2 (by decide) (by decide)
                have e_96 := mt i_eq.mpr (show ¬ ((((F 2) + r80) &&& (3 : Int32)) = (0 : Int32)) from c_81)
                unfold cb_X0_branch_135
                refine WP.ret ?_
                exact ⟨hI, (rfl : KT F F), (rfl : KO F F), trivial⟩
        · skip
          have l_97 : (6 : Int32).toInt = 6 := rfl
          have e_98 := mt i_le.mpr (show ¬ ((6 : Int32) ≤ (((x1.toUInt32 >>> ((12 : Int32).toUInt32 &&& Int32.toUInt32 31)).toInt32) &&& (7 : Int32))) from c_37)
          unfold cb_X0_branch_74
          refine WP.ite (fun c_99 => ?_) (fun c_99 => ?_)
          · skip
            have q_100 := i_rng (G 1 (((x1.toUInt32 >>> ((20 : Int32).toUInt32 &&& Int32.toUInt32 31)).toInt32) &&& (31 : Int32)).toNatClampNeg)
            have q_101 := i_rng (G 1 (((x1.toUInt32 >>> ((15 : Int32).toUInt32 &&& Int32.toUInt32 31)).toInt32) &&& (31 : Int32)).toNatClampNeg)
            have e_102 := i_le.mp (show (G 1 (((x1.toUInt32 >>> ((20 : Int32).toUInt32 &&& Int32.toUInt32 31)).toInt32) &&& (31 : Int32)).toNatClampNeg) ≤ (G 1 (((x1.toUInt32 >>> ((15 : Int32).toUInt32 &&& Int32.toUInt32 31)).toInt32) &&& (31 : Int32)).toNatClampNeg) from c_99)
            unfold cb_X0_branch_84
            unfold cb_X0_branch_85
            unfold cb_X0_branch_98
            refine WP.ite (fun c_103 => ?_) (fun c_103 => ?_)
            · skip
              have l_104 : (1 : Int32).toInt = 1 := rfl
              have e_106 := i_and (((x1.toUInt32 >>> ((12 : Int32).toUInt32 &&& Int32.toUInt32 31)).toInt32) &&& (7 : Int32)) (m := 1) 1 (by decide) (by decide)
              have e_107 := i_eq.mp (show ((((x1.toUInt32 >>> ((12 : Int32).toUInt32 &&& Int32.toUInt32 31)).toInt32) &&& (7 : Int32)) &&& (1 : Int32)) = (1 : Int32) from c_103)
              unfold cb_X0_branch_107
              unfold cb_X0_branch_112
              refine WP.ite (fun c_108 => absurd c_108 (by decide)) (fun _ => ?_)
              unfold cb_X0_branch_117
              refine WP.bind (cs_X0_offsetB hfu x1 F G hI) ?_
              rintro r109 _ _ ⟨rfl, rfl, hp109⟩
              dsimp only
              unfold cb_X0_branch_125
              refine WP.ite (fun c_110 => ?_) (fun c_110 => ?_)
              · skip
                have q_111 := i_rng (F 2)
                have q_112 := i_rng r109
                first | have e_113 : ((F 2) + r109).toInt = (F 2).toInt + (r109.toInt) := i_addn (F 2) rfl (by omega) (by omega) | have e_114 := i_rng ((F 2) + r109)
                have e_116 := i_and ((F 2) + r109) (m := 3) 2 (by decide) (by decide)
                have l_117 : (0 : Int32).toInt = 0 := rfl
                have e_118 := i_eq.mp (show (((F 2) + r109) &&& (3 : Int32)) = (0 : Int32) from c_110)
                unfold cb_X0_branch_137
                have j_119 : CI (fup F 4 ((F 2) + r109)) G := CI.fr rfl hI
                unfold cb_X0_branch_143
                refine WP.ret ?_
                exact ⟨j_119, (KT.f (by decide) (rfl : KT F F)), (KO.f (by decide) (rfl : KO F F)), trivial⟩
              · skip
                have q_120 := i_rng (F 2)
                have q_121 := i_rng r109
                first | have e_122 : ((F 2) + r109).toInt = (F 2).toInt + (r109.toInt) := i_addn (F 2) rfl (by omega) (by omega) | have e_123 := i_rng ((F 2) + r109)
                have e_125 := i_and ((F 2) + r109) (m := 3) 2 (by decide) (by decide)
                have l_126 : (0 : Int32).toInt = 0 := rfl
                have e_127 := mt i_eq.mpr (show ¬ ((((F 2) + r109) &&& (3 : Int32)) = (0 : Int32)) from c_110)
                unfold cb_X0_branch_135
                refine WP.ret ?_
                exact ⟨hI, (rfl : KT F F), (rfl : KO F F), trivial⟩
            · skip
              have l_128 : (1 : Int32).toInt = 1 := rfl
              have e_130 := i_and (((x1.toUInt32 >>> ((12 : Int32).toUInt32 &&& Int32.toUInt32 31)).toInt32) &&& (7 : Int32)) (m := 1) 1 (by decide) (by decide)
              have e_131 := mt i_eq.mpr (show ¬ (((((x1.toUInt32 >>> ((12 : Int32).toUInt32 &&& Int32.toUInt32 31)).toInt32) &&& (7 : Int32)) &&& (1 : Int32)) = (1 : Int32)) from c_103)
              unfold cb_X0_branch_111
              unfold cb_X0_branch_112
              refine WP.ite (fun _ => ?_) (fun c_132 => absurd (by decide) c_132)
              unfold cb_X0_branch_115
              refine WP.ret ?_
              exact ⟨hI, (rfl : KT F F), (rfl : KO F F), trivial⟩
          · skip
            have q_133 := i_rng (G 1 (((x1.toUInt32 >>> ((20 : Int32).toUInt32 &&& Int32.toUInt32 31)).toInt32) &&& (31 : Int32)).toNatClampNeg)
            have q_134 := i_rng (G 1 (((x1.toUInt32 >>> ((15 : Int32).toUInt32 &&& Int32.toUInt32 31)).toInt32) &&& (31 : Int32)).toNatClampNeg)
            have e_135 := mt i_le.mpr (show ¬ ((G 1 (((x1.toUInt32 >>> ((20 : Int32).toUInt32 &&& Int32.toUInt32 31)).toInt32) &&& (31 : Int32)).toNatClampNeg) ≤ (G 1 (((x1.toUInt32 >>> ((15 : Int32).toUInt32 &&& Int32.toUInt32 31)).toInt32) &&& (31 : Int32)).toNatClampNeg)) from c_99)
            unfold cb_X0_branch_80
            unfold cb_X0_branch_85
            unfold cb_X0_branch_98
            refine WP.ite (fun c_136 => ?_) (fun c_136 => ?_)
            · skip
              have l_137 : (1 : Int32).toInt = 1 := rfl
              have e_139 := i_and (((x1.toUInt32 >>> ((12 : Int32).toUInt32 &&& Int32.toUInt32 31)).toInt32) &&& (7 : Int32)) (m := 1) 1 (by decide) (by decide)
              have e_140 := i_eq.mp (show ((((x1.toUInt32 >>> ((12 : Int32).toUInt32 &&& Int32.toUInt32 31)).toInt32) &&& (7 : Int32)) &&& (1 : Int32)) = (1 : Int32) from c_136)
              unfold cb_X0_branch_107
              unfold cb_X0_branch_112
              refine WP.ite (fun _ => ?_) (fun c_141 => absurd (by decide) c_141)
              unfold cb_X0_branch_115
              refine WP.ret ?_
              exact ⟨hI, (rfl : KT F F), (rfl : KO F F), trivial⟩
            · skip
              have l_142 : (1 : Int32).toInt = 1 := rfl
              have e_144 := i_and (((x1.toUInt32 >>> ((12 : Int32).toUInt32 &&& Int32.toUInt32 31)).toInt32) &&& (7 : Int32)) (m := 1) 1 (by decide) (by decide)
              have e_145 := mt i_eq.mpr (show ¬ (((((x1.toUInt32 >>> ((12 : Int32).toUInt32 &&& Int32.toUInt32 31)).toInt32) &&& (7 : Int32)) &&& (1 : Int32)) = (1 : Int32)) from c_136)
              unfold cb_X0_branch_111
              unfold cb_X0_branch_112
              refine WP.ite (fun c_146 => absurd c_146 (by decide)) (fun _ => ?_)
              unfold cb_X0_branch_117
              refine WP.bind (cs_X0_offsetB hfu x1 F G hI) ?_
              rintro r147 _ _ ⟨rfl, rfl, hp147⟩
              dsimp only
              unfold cb_X0_branch_125
              refine WP.ite (fun c_148 => ?_) (fun c_148 => ?_)
              · skip
                have q_149 := i_rng (F 2)
                have q_150 := i_rng r147
                first | have e_151 : ((F 2) + r147).toInt = (F 2).toInt + (r147.toInt) := i_addn (F 2) rfl (by omega) (by omega) | have e_152 := i_rng ((F 2) + r147)
                have e_154 := i_and ((F 2) + r147) (m := 3) 2 (by decide) (by decide)
                have l_155 : (0 : Int32).toInt = 0 := rfl
                have e_156 := i_eq.mp (show (((F 2) + r147) &&& (3 : Int32)) = (0 : Int32) from c_148)
                unfold cb_X0_branch_137
                have j_157 : CI (fup F 4 ((F 2) + r147)) G := CI.fr rfl hI
                unfold cb_X0_branch_143
                refine WP.ret ?_
                exact ⟨j_157, (KT.f (by decide) (rfl : KT F F)), (KO.f (by decide) (rfl : KO F F)), trivial⟩
              · skip
                have q_158 := i_rng (F 2)
                have q_159 := i_rng r147
                first | have e_160 : ((F 2) + r147).toInt = (F 2).toInt + (r147.toInt) := i_addn (F 2) rfl (by omega) (by omega) | have e_161 := i_rng ((F 2) + r147)
                have e_163 := i_and ((F 2) + r147) (m := 3) 2 (by decide) (by decide)
                have l_164 : (0 : Int32).toInt = 0 := rfl
                have e_165 := mt i_eq.mpr (show ¬ ((((F 2) + r147) &&& (3 : Int32)) = (0 : Int32)) from c_148)
                unfold cb_X0_branch_135
                refine WP.ret ?_
                exact ⟨hI, (rfl : KT F F), (rfl : KO F F), trivial⟩
      · skip
        have e_166 := mt i_le.mpr (show ¬ ((2 : Int32) ≤ (((x1.toUInt32 >>> ((12 : Int32).toUInt32 &&& Int32.toUInt32 31)).toInt32) &&& (7 : Int32))) from c_35)
        unfold cb_X0_branch_52
        refine WP.ite (fun c_167 => ?_) (fun c_167 => ?_)
        · skip
          have q_168 := i_rng (G 1 (((x1.toUInt32 >>> ((15 : Int32).toUInt32 &&& Int32.toUInt32 31)).toInt32) &&& (31 : Int32)).toNatClampNeg)
          have q_169 := i_rng (G 1 (((x1.toUInt32 >>> ((20 : Int32).toUInt32 &&& Int32.toUInt32 31)).toInt32) &&& (31 : Int32)).toNatClampNeg)
          have e_170 := i_eq.mp (show (G 1 (((x1.toUInt32 >>> ((15 : Int32).toUInt32 &&& Int32.toUInt32 31)).toInt32) &&& (31 : Int32)).toNatClampNeg) = (G 1 (((x1.toUInt32 >>> ((20 : Int32).toUInt32 &&& Int32.toUInt32 31)).toInt32) &&& (31 : Int32)).toNatClampNeg) from c_167)
          unfold cb_X0_branch_58
          unfold cb_X0_branch_63
          unfold cb_X0_branch_98
          refine WP.ite (fun c_171 => ?_) (fun c_171 => ?_)
          · skip
            have l_172 : (1 : Int32).toInt = 1 := rfl
            have e_174 := i_and (((x1.toUInt32 >>> ((12 : Int32).toUInt32 &&& Int32.toUInt32 31)).toInt32) &&& (7 : Int32)) (m := 1) 1 (by decide) (by decide)
            have e_175 := i_eq.mp (show ((((x1.toUInt32 >>> ((12 : Int32).toUInt32 &&& Int32.toUInt32 31)).toInt32) &&& (7 : Int32)) &&& (1 : Int32)) = (1 : Int32) from c_171)
            unfold cb_X0_branch_107
            unfold cb_X0_branch_112
            refine WP.ite (fun _ => ?_) (fun c_176 => absurd (by decide) c_176)
            unfold cb_X0_branch_115
            refine WP.ret ?_
            exact ⟨hI, (rfl : KT F F), (rfl : KO F F), trivial⟩
          · skip
            have l_177 : (1 : Int32).toInt = 1 := rfl
            have e_179 := i_and (((x1.toUInt32 >>> ((12 : Int32).toUInt32 &&& Int32.toUInt32 31)).toInt32) &&& (7 : Int32)) (m := 1) 1 (by decide) (by decide)
            have e_180 := mt i_eq.mpr (show ¬ (((((x1.toUInt32 >>> ((12 : Int32).toUInt32 &&& Int32.toUInt32 31)).toInt32) &&& (7 : Int32)) &&& (1 : Int32)) = (1 : Int32)) from c_171)
            unfold cb_X0_branch_111
            unfold cb_X0_branch_112
            refine WP.ite (fun c_181 => absurd c_181 (by decide)) (fun _ => ?_)
            unfold cb_X0_branch_117
            refine WP.bind (cs_X0_offsetB hfu x1 F G hI) ?_
            rintro r182 _ _ ⟨rfl, rfl, hp182⟩
            dsimp only
            unfold cb_X0_branch_125
            refine WP.ite (fun c_183 => ?_) (fun c_183 => ?_)
            · skip
              have q_184 := i_rng (F 2)
              have q_185 := i_rng r182
              first | have e_186 : ((F 2) + r182).toInt = (F 2).toInt + (r182.toInt) := i_addn (F 2) rfl (by omega) (by omega) | have e_187 := i_rng ((F 2) + r182)
              have e_189 := i_and ((F 2) + r182) (m := 3) 2 (by decide) (by decide)
              have l_190 : (0 : Int32).toInt = 0 := rfl
              have e_191 := i_eq.mp (show (((F 2) + r182) &&& (3 : Int32)) = (0 : Int32) from c_183)
              unfold cb_X0_branch_137
              have j_192 : CI (fup F 4 ((F 2) + r182)) G := CI.fr rfl hI
              unfold cb_X0_branch_143
              refine WP.ret ?_
              exact ⟨j_192, (KT.f (by decide) (rfl : KT F F)), (KO.f (by decide) (rfl : KO F F)), trivial⟩
            · skip
              have q_193 := i_rng (F 2)
              have q_194 := i_rng r182
              first | have e_195 : ((F 2) + r182).toInt = (F 2).toInt + (r182.toInt) := i_addn (F 2) rfl (by omega) (by omega) | have e_196 := i_rng ((F 2) + r182)
              have e_198 := i_and ((F 2) + r182) (m := 3) 2 (by decide) (by decide)
              have l_199 : (0 : Int32).toInt = 0 := rfl
              have e_200 := mt i_eq.mpr (show ¬ ((((F 2) + r182) &&& (3 : Int32)) = (0 : Int32)) from c_183)
              unfold cb_X0_branch_135
              refine WP.ret ?_
              exact ⟨hI, (rfl : KT F F), (rfl : KO F F), trivial⟩
        · skip
          have q_201 := i_rng (G 1 (((x1.toUInt32 >>> ((15 : Int32).toUInt32 &&& Int32.toUInt32 31)).toInt32) &&& (31 : Int32)).toNatClampNeg)
          have q_202 := i_rng (G 1 (((x1.toUInt32 >>> ((20 : Int32).toUInt32 &&& Int32.toUInt32 31)).toInt32) &&& (31 : Int32)).toNatClampNeg)
          have e_203 := mt i_eq.mpr (show ¬ ((G 1 (((x1.toUInt32 >>> ((15 : Int32).toUInt32 &&& Int32.toUInt32 31)).toInt32) &&& (31 : Int32)).toNatClampNeg) = (G 1 (((x1.toUInt32 >>> ((20 : Int32).toUInt32 &&& Int32.toUInt32 31)).toInt32) &&& (31 : Int32)).toNatClampNeg)) from c_167)
          unfold cb_X0_branch_62
          unfold cb_X0_branch_63
          unfold cb_X0_branch_98
          refine WP.ite (fun c_204 => ?_) (fun c_204 => ?_)
          · skip
            have l_205 : (1 : Int32).toInt = 1 := rfl
            have e_207 := i_and (((x1.toUInt32 >>> ((12 : Int32).toUInt32 &&& Int32.toUInt32 31)).toInt32) &&& (7 : Int32)) (m := 1) 1 (by decide) (by decide)
            have e_208 := i_eq.mp (show ((((x1.toUInt32 >>> ((12 : Int32).toUInt32 &&& Int32.toUInt32 31)).toInt32) &&& (7 : Int32)) &&& (1 : Int32)) = (1 : Int32) from c_204)
            unfold cb_X0_branch_107
            unfold cb_X0_branch_112
            refine WP.ite (fun c_209 => absurd c_209 (by decide)) (fun _ => ?_)
            unfold cb_X0_branch_117
            refine WP.bind (cs_X0_offsetB hfu x1 F G hI) ?_
            rintro r210 _ _ ⟨rfl, rfl, hp210⟩
            dsimp only
            unfold cb_X0_branch_125
            refine WP.ite (fun c_211 => ?_) (fun c_211 => ?_)
            · skip
              have q_212 := i_rng (F 2)
              have q_213 := i_rng r210
              first | have e_214 : ((F 2) + r210).toInt = (F 2).toInt + (r210.toInt) := i_addn (F 2) rfl (by omega) (by omega) | have e_215 := i_rng ((F 2) + r210)
              have e_217 := i_and ((F 2) + r210) (m := 3) 2 (by decide) (by decide)
              have l_218 : (0 : Int32).toInt = 0 := rfl
              have e_219 := i_eq.mp (show (((F 2) + r210) &&& (3 : Int32)) = (0 : Int32) from c_211)
              unfold cb_X0_branch_137
              have j_220 : CI (fup F 4 ((F 2) + r210)) G := CI.fr rfl hI
              unfold cb_X0_branch_143
              refine WP.ret ?_
              exact ⟨j_220, (KT.f (by decide) (rfl : KT F F)), (KO.f (by decide) (rfl : KO F F)), trivial⟩
            · skip
              have q_221 := i_rng (F 2)
              have q_222 := i_rng r210
              first | have e_223 : ((F 2) + r210).toInt = (F 2).toInt + (r210.toInt) := i_addn (F 2) rfl (by omega) (by omega) | have e_224 := i_rng ((F 2) + r210)
              have e_226 := i_and ((F 2) + r210) (m := 3) 2 (by decide) (by decide)
              have l_227 : (0 : Int32).toInt = 0 := rfl
              have e_228 := mt i_eq.mpr (show ¬ ((((F 2) + r210) &&& (3 : Int32)) = (0 : Int32)) from c_211)
              unfold cb_X0_branch_135
              refine WP.ret ?_
              exact ⟨hI, (rfl : KT F F), (rfl : KO F F), trivial⟩
          · skip
            have l_229 : (1 : Int32).toInt = 1 := rfl
            have e_231 := i_and (((x1.toUInt32 >>> ((12 : Int32).toUInt32 &&& Int32.toUInt32 31)).toInt32) &&& (7 : Int32)) (m := 1) 1 (by decide) (by decide)
            have e_232 := mt i_eq.mpr (show ¬ (((((x1.toUInt32 >>> ((12 : Int32).toUInt32 &&& Int32.toUInt32 31)).toInt32) &&& (7 : Int32)) &&& (1 : Int32)) = (1 : Int32)) from c_204)
            unfold cb_X0_branch_111
            unfold cb_X0_branch_112
            refine WP.ite (fun _ => ?_) (fun c_233 => absurd (by decide) c_233)
            unfold cb_X0_branch_115
            refine WP.ret ?_
            exact ⟨hI, (rfl : KT F F), (rfl : KO F F), trivial⟩
