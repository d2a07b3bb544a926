theorem cs_X6_forget {fu : Nat} (hfu : 8589934592 ≤ fu) (F : PF) (G : PG) (hI : CI F G) : WP (cf_X6_forget fu F G) (fun r' F' G' => CI F' G' ∧ KB F G F' G' ∧ KT F F' ∧ KO F F' ∧ KK F F' ∧ True) := by
  unfold cf_X6_forget
  unfold cb_X6_forget_0
  have l_1 : (0 : Int32).toInt = 0 := rfl
  have j_2 : CI (fup F 63 (0 : Int32)) G := CI.fr rfl hI
  unfold cb_X6_forget_5
  have j_3 : CI (fup (fup F 63 (0 : Int32)) 64 (0 : Int32)) G := CI.fr rfl j_2
  unfold cb_X6_forget_10
  have j_4 : CI (fup (fup (fup F 63 (0 : Int32)) 64 (0 : Int32)) 65 (0 : Int32)) G := CI.fr rfl j_3
  unfold cb_X6_forget_15
  have l_5 : (-1 : Int32).toInt = -1 := rfl
  have j_6 : CI (fup (fup (fup (fup F 63 (0 : Int32)) 64 (0 : Int32)) 65 (0 : Int32)) 66 (-1 : Int32)) G := CI.fr rfl j_4
  unfold cb_X6_forget_20
  have j_7 : CI (fup (fup (fup (fup (fup F 63 (0 : Int32)) 64 (0 : Int32)) 65 (0 : Int32)) 66 (-1 : Int32)) 67 (0 : Int32)) G := CI.fr rfl j_6
  unfold cb_X6_forget_25
  have q_9 := hI.xx
  have j_8 : CI (fup (fup (fup (fup (fup (fup F 63 (0 : Int32)) 64 (0 : Int32)) 65 (0 : Int32)) 66 (-1 : Int32)) 67 (0 : Int32)) 56 (0 : Int32)) G := CI.top j_7 (by omega) (show (0 : Int32).toInt ≤ (xn F : Int) by omega)
  unfold cb_X6_forget_30
  have l_10 : (2000 : Int32).toInt = 2000 := rfl
  have j_11 : CI (fup (fup (fup (fup (fup (fup (fup F 63 (0 : Int32)) 64 (0 : Int32)) 65 (0 : Int32)) 66 (-1 : Int32)) 67 (0 : Int32)) 56 (0 : Int32)) 59 (2000 : Int32)) G := CI.fr rfl j_8
  unfold cb_X6_forget_37
  have j_12 : CI (fup (fup (fup (fup (fup (fup (fup (fup F 63 (0 : Int32)) 64 (0 : Int32)) 65 (0 : Int32)) 66 (-1 : Int32)) 67 (0 : Int32)) 56 (0 : Int32)) 59 (2000 : Int32)) 60 (0 : Int32)) G := CI.rg (k := 60) (x := (0 : Int32)) rfl (by decide) (by decide) j_11 ⟨by omega, by omega⟩
  unfold cb_X6_forget_42
  refine WP.ret ?_
  exact ⟨j_12, (KB.f (by decide) (KB.f (by decide) (KB.f (by decide) (KB.f (by decide) (KB.f (by decide) (KB.f (by decide) (KB.f (by decide) (KB.f (by decide) (KB.rf : KB F G F G))))))))), (KT.f (by decide) (KT.f (by decide) (KT.f (by decide) (KT.f (by decide) (KT.f (by decide) (KT.f (by decide) (KT.f (by decide) (KT.f (by decide) (rfl : KT F F))))))))), (KO.f (by decide) (KO.f (by decide) (KO.f (by decide) (KO.f (by decide) (KO.f (by decide) (KO.f (by decide) (KO.f (by decide) (KO.f (by decide) (rfl : KO F F))))))))), (KK.f (by decide) (KK.f (by decide) (KK.f (by decide) (KK.f (by decide) (KK.f (by decide) (KK.f (by decide) (KK.f (by decide) (KK.f (by decide) (rfl : KK F F))))))))), trivial⟩
theorem cs_X6_startAnew {fu : Nat} (hfu : 8589934592 ≤ fu) (x1 : Int32) (F : PF) (G : PG) (hI : CI F G) : WP (cf_X6_startAnew fu x1 F G) (fun r' F' G' => CI F' G' ∧ KB F G F' G' ∧ KT F F' ∧ KO F F' ∧ KK F F' ∧ True) := by
  unfold cf_X6_startAnew
  unfold cb_X6_startAnew_0
  refine WP.bind (cs_X6_forget hfu F G hI) ?_
  rintro r1 F1 G1 ⟨hI1, hB1, hT1, hO1, hK1, hp1⟩
  dsimp only
  have q_2 := hI.r 10 rfl
  have q_3 := hI1.r 10 rfl
  have e_4 : (F1 10).toInt = (F 10).toInt := hO1
  unfold cb_X6_startAnew_4
  have l_5 : (1 : Int32).toInt = 1 := rfl
  have j_6 : CI (fup F1 63 (1 : Int32)) G1 := CI.fr rfl hI1
  unfold cb_X6_startAnew_9
  have q_7 := i_rng x1
  have j_8 : CI (fup (fup F1 63 (1 : Int32)) 67 x1) G1 := CI.fr rfl j_6
  unfold cb_X6_startAnew_14
  have j_9 : CI (fup (fup F1 63 (1 : Int32)) 67 x1) (gcp G1 86 54) := CI.gc (by decide) j_8
  unfold cb_X6_startAnew_33
  refine WP.ret ?_
  exact ⟨j_9, (KB.gc (by decide) (KB.f (by decide) (KB.f (by decide) (KB.tr (KB.rf : KB F G F G) hB1)))), (KT.f (by decide) (KT.f (by decide) (KT.tr (rfl : KT F F) hT1))), (KO.f (by decide) (KO.f (by decide) (KO.tr (rfl : KO F F) hO1))), (KK.f (by decide) (KK.f (by decide) (KK.tr (rfl : KK F F) hK1))), trivial⟩
theorem cs_X6_depth {fu : Nat} (hfu : 8589934592 ≤ fu) (F : PF) (G : PG) (hI : CI F G) : WP (cf_X6_depth fu F G) (fun r' F' G' => F = F' ∧ G = G' ∧ True) := by
  unfold cf_X6_depth
  unfold cb_X6_depth_0
  refine WP.ret ?_
  exact ⟨rfl, rfl, trivial⟩
theorem cs_X6_held {fu : Nat} (hfu : 8589934592 ≤ fu) (x1 : Int32) (F : PF) (G : PG) (hI : CI F G) : WP (cf_X6_held fu x1 F G) (fun r' F' G' => F = F' ∧ G = G' ∧ True) := by
  unfold cf_X6_held
  unfold cb_X6_held_0
  refine WP.ite (fun c_1 => ?_) (fun c_1 => ?_)
  · skip
    have q_2 := i_rng x1
    have l_3 : (0 : Int32).toInt = 0 := rfl
    have e_4 := i_lt.mp (show x1 < (0 : Int32) from c_1)
    unfold cb_X6_held_11
    unfold cb_X6_held_21
    refine WP.ret ?_
    exact ⟨rfl, rfl, trivial⟩
  · skip
    have q_5 := i_rng x1
    have l_6 : (0 : Int32).toInt = 0 := rfl
    have e_7 := mt i_lt.mpr (show ¬ (x1 < (0 : Int32)) from c_1)
    unfold cb_X6_held_4
    refine WP.ite (fun c_8 => ?_) (fun c_8 => ?_)
    · skip
      have l_9 : (4000 : Int32).toInt = 4000 := rfl
      have e_10 := i_lt.mp (show x1 < (4000 : Int32) from c_8)
      unfold cb_X6_held_15
      refine WP.ix (show vp_in x1 4000 from vp_in_iff.mpr ⟨by omega, by omega⟩) ?_
      unfold cb_X6_held_21
      refine WP.ret ?_
      exact ⟨rfl, rfl, trivial⟩
    · skip
      have l_11 : (4000 : Int32).toInt = 4000 := rfl
      have e_12 := mt i_lt.mpr (show ¬ (x1 < (4000 : Int32)) from c_8)
      unfold cb_X6_held_11
      unfold cb_X6_held_21
      refine WP.ret ?_
      exact ⟨rfl, rfl, trivial⟩
theorem cs_X6_hold {fu : Nat} (hfu : 8589934592 ≤ fu) (x1 : Int32) (x2 : Int32) (F : PF) (G : PG) (hI : CI F G) : WP (cf_X6_hold fu x1 x2 F G) (fun r' F' G' => CI F' G' ∧ KB F G F' G' ∧ KT F F' ∧ KO F F' ∧ KK F F' ∧ True) := by
  unfold cf_X6_hold
  unfold cb_X6_hold_0
  refine WP.ite (fun c_1 => ?_) (fun c_1 => ?_)
  · skip
    have q_2 := i_rng x1
    have l_3 : (0 : Int32).toInt = 0 := rfl
    have e_4 := i_lt.mp (show x1 < (0 : Int32) from c_1)
    unfold cb_X6_hold_18
    refine WP.ret ?_
    exact ⟨hI, (KB.rf : KB F G F G), (rfl : KT F F), (rfl : KO F F), (rfl : KK F F), trivial⟩
  · skip
    have q_5 := i_rng x1
    have l_6 : (0 : Int32).toInt = 0 := rfl
    have e_7 := mt i_lt.mpr (show ¬ (x1 < (0 : Int32)) from c_1)
    unfold cb_X6_hold_4
    refine WP.ite (fun c_8 => ?_) (fun c_8 => ?_)
    · skip
      have l_9 : (4000 : Int32).toInt = 4000 := rfl
      have e_10 := i_le.mp (show (4000 : Int32) ≤ x1 from c_8)
      unfold cb_X6_hold_18
      refine WP.ret ?_
      exact ⟨hI, (KB.rf : KB F G F G), (rfl : KT F F), (rfl : KO F F), (rfl : KK F F), trivial⟩
    · skip
      have l_11 : (4000 : Int32).toInt = 4000 := rfl
      have e_12 := mt i_le.mpr (show ¬ ((4000 : Int32) ≤ x1) from c_8)
      unfold cb_X6_hold_11
      refine WP.ix (show vp_in x1 4000 from vp_in_iff.mpr ⟨by omega, by omega⟩) ?_
      have j_13 : CI F (gup G 54 x1.toNatClampNeg x2) := CI.g (by decide) hI
      unfold cb_X6_hold_18
      refine WP.ret ?_
      exact ⟨j_13, (KB.g (by decide) (KB.rf : KB F G F G)), (rfl : KT F F), (rfl : KO F F), (rfl : KK F F), trivial⟩
theorem cs_X6_over {fu : Nat} (hfu : 8589934592 ≤ fu) (x1 : Int32) (F : PF) (G : PG) (hI : CI F G) : WP (cf_X6_over fu x1 F G) (fun r' F' G' => CI F' G' ∧ KB F G F' G' ∧ KT F F' ∧ KO F F' ∧ KK F F' ∧ True) := by
  unfold cf_X6_over
  unfold cb_X6_over_0
  have q_1 := i_rng x1
  have j_2 : CI (fup F 63 x1) G := CI.fr rfl hI
  unfold cb_X6_over_5
  have l_3 : (0 : Int32).toInt = 0 := rfl
  have j_4 : CI (fup (fup F 63 x1) 61 (0 : Int32)) G := CI.rg (k := 61) (x := (0 : Int32)) rfl (by decide) (by decide) j_2 ⟨by omega, by omega⟩
  unfold cb_X6_over_10
  refine WP.ret ?_
  exact ⟨j_4, (KB.f (by decide) (KB.f (by decide) (KB.rf : KB F G F G))), (KT.f (by decide) (KT.f (by decide) (rfl : KT F F))), (KO.f (by decide) (KO.f (by decide) (rfl : KO F F))), (KK.f (by decide) (KK.f (by decide) (rfl : KK F F))), trivial⟩
theorem cs_X6_element {fu : Nat} (hfu : 8589934592 ≤ fu) (x1 : Int32) (x2 : Int32) (F : PF) (G : PG) (hI : CI F G) : WP (cf_X6_element fu x1 x2 F G) (fun r' F' G' => CI F' G' ∧ KB F G F' G' ∧ KT F F' ∧ KO F F' ∧ KK F F' ∧ True) := by
  unfold cf_X6_element
  unfold cb_X6_element_0
  refine WP.bind (cs_X6_next hfu F G hI) ?_
  rintro r1 F1 G1 ⟨hI1, hB1, hT1, hO1, hK1, hp1⟩
  dsimp only
  have q_2 := hI.r 10 rfl
  have q_3 := hI1.r 10 rfl
  have e_4 : (F1 10).toInt = (F 10).toInt := hO1
  unfold cb_X6_element_4
  refine WP.bind (cs_X6_next hfu F1 G1 hI1) ?_
  rintro r5 F5 G5 ⟨hI5, hB5, hT5, hO5, hK5, hp5⟩
  dsimp only
  have q_6 := hI5.r 10 rfl
  have e_7 : (F5 10).toInt = (F1 10).toInt := hO5
  unfold cb_X6_element_9
  refine WP.bind (cs_X6_pop hfu F5 G5 hI5) ?_
  rintro r8 F8 G8 ⟨hI8, hB8, hT8, hO8, hK8, hp8⟩
  dsimp only
  have q_9 := hI8.r 10 rfl
  have e_10 : (F8 10).toInt = (F5 10).toInt := hO8
  unfold cb_X6_element_15
  refine WP.ite (fun c_11 => ?_) (fun c_11 => ?_)
  · skip
    have q_12 := i_rng r8
    have l_13 : (0 : Int32).toInt = 0 := rfl
    have e_14 := i_lt.mp (show r8 < (0 : Int32) from c_11)
    unfold cb_X6_element_28
    have q_15 := i_rng r5
    have j_16 : CI (fup F8 66 r5) G8 := CI.fr rfl hI8
    unfold cb_X6_element_34
    have l_17 : (5 : Int32).toInt = 5 := rfl
    refine WP.bind (cs_X6_over hfu (5 : Int32) (fup F8 66 r5) G8 j_16) ?_
    rintro r18 F18 G18 ⟨hI18, hB18, hT18, hO18, hK18, hp18⟩
    dsimp only
    have q_19 := hI18.r 10 rfl
    have e_20 : (F18 10).toInt = (F8 10).toInt := hO18
    unfold cb_X6_element_39
    unfold cb_X6_element_52
    refine WP.ret ?_
    exact ⟨hI18, (KB.tr (KB.f (by decide) (KB.tr (KB.tr (KB.tr (KB.rf : KB F G F G) hB1) hB5) hB8)) hB18), (KT.tr (KT.f (by decide) (KT.tr (KT.tr (KT.tr (rfl : KT F F) hT1) hT5) hT8)) hT18), (KO.tr (KO.f (by decide) (KO.tr (KO.tr (KO.tr (rfl : KO F F) hO1) hO5) hO8)) hO18), (KK.tr (KK.f (by decide) (KK.tr (KK.tr (KK.tr (rfl : KK F F) hK1) hK5) hK8)) hK18), trivial⟩
  · skip
    have q_21 := i_rng r8
    have l_22 : (0 : Int32).toInt = 0 := rfl
    have e_23 := mt i_lt.mpr (show ¬ (r8 < (0 : Int32)) from c_11)
    unfold cb_X6_element_22
    refine WP.ite (fun c_24 => ?_) (fun c_24 => ?_)
    · skip
      have q_25 := i_rng x2
      have e_26 := i_lt.mp (show r8 < x2 from c_24)
      unfold cb_X6_element_42
      have q_27 := i_rng x1
      have q_28 := i_rng r1
      have q_30 := i_rng (x1 <<< (r1 &&& 31))
      first | have e_31 : ((x1 <<< (r1 &&& 31)) + r8).toInt = (x1 <<< (r1 &&& 31)).toInt + (r8.toInt) := i_addn (x1 <<< (r1 &&& 31)) rfl (by omega) (by omega) | have e_32 := i_rng ((x1 <<< (r1 &&& 31)) + r8)
      refine WP.bind (cs_X6_push hfu ((x1 <<< (r1 &&& 31)) + r8) F8 G8 hI8) ?_
      rintro r33 F33 G33 ⟨hI33, hB33, hT33, hO33, hK33, hp33⟩
      dsimp only
      have q_34 := hI33.r 10 rfl
      have e_35 : (F33 10).toInt = (F8 10).toInt := hO33
      unfold cb_X6_element_52
      refine WP.ret ?_
      exact ⟨hI33, (KB.tr (KB.tr (KB.tr (KB.tr (KB.rf : KB F G F G) hB1) hB5) hB8) hB33), (KT.tr (KT.tr (KT.tr (KT.tr (rfl : KT F F) hT1) hT5) hT8) hT33), (KO.tr (KO.tr (KO.tr (KO.tr (rfl : KO F F) hO1) hO5) hO8) hO33), (KK.tr (KK.tr (KK.tr (KK.tr (rfl : KK F F) hK1) hK5) hK8) hK33), trivial⟩
    · skip
      have q_36 := i_rng x2
      have e_37 := mt i_lt.mpr (show ¬ (r8 < x2) from c_24)
      unfold cb_X6_element_28
      have q_38 := i_rng r5
      have j_39 : CI (fup F8 66 r5) G8 := CI.fr rfl hI8
      unfold cb_X6_element_34
      have l_40 : (5 : Int32).toInt = 5 := rfl
      refine WP.bind (cs_X6_over hfu (5 : Int32) (fup F8 66 r5) G8 j_39) ?_
      rintro r41 F41 G41 ⟨hI41, hB41, hT41, hO41, hK41, hp41⟩
      dsimp only
      have q_42 := hI41.r 10 rfl
      have e_43 : (F41 10).toInt = (F8 10).toInt := hO41
      unfold cb_X6_element_39
      unfold cb_X6_element_52
      refine WP.ret ?_
      exact ⟨hI41, (KB.tr (KB.f (by decide) (KB.tr (KB.tr (KB.tr (KB.rf : KB F G F G) hB1) hB5) hB8)) hB41), (KT.tr (KT.f (by decide) (KT.tr (KT.tr (KT.tr (rfl : KT F F) hT1) hT5) hT8)) hT41), (KO.tr (KO.f (by decide) (KO.tr (KO.tr (KO.tr (rfl : KO F F) hO1) hO5) hO8)) hO41), (KK.tr (KK.f (by decide) (KK.tr (KK.tr (KK.tr (rfl : KK F F) hK1) hK5) hK8)) hK41), trivial⟩
theorem cs_X6_keepByte {fu : Nat} (hfu : 8589934592 ≤ fu) (x1 : Int32) (x2 : Int32) (F : PF) (G : PG) (hI : CI F G) : WP (cf_X6_keepByte fu x1 x2 F G) (fun r' F' G' => CI F' G' ∧ KB F G F' G' ∧ KT F F' ∧ KO F F' ∧ KK F F' ∧ True) := by
  unfold cf_X6_keepByte
  unfold cb_X6_keepByte_0
  have q_1 := i_rng x1
  have l_2 : (2 : Int32).toInt = 2 := rfl
  have e_4 : ((x1 >>> ((2 : Int32) &&& 31))).toInt = x1.toInt / 4 := i_shr 2 (by decide)
  refine WP.bind (cs_X6_held hfu (x1 >>> ((2 : Int32) &&& 31)) F G hI) ?_
  rintro r5 _ _ ⟨rfl, rfl, hp5⟩
  dsimp only
  unfold cb_X6_keepByte_19
  have q_6 := i_rng r5
  have l_7 : (255 : Int32).toInt = 255 := rfl
  have l_8 : (3 : Int32).toInt = 3 := rfl
  have e_10 := i_and x1 (m := 3) 2 (by decide) (by decide)
  have l_11 : (8 : Int32).toInt = 8 := rfl
  have q_13 := i_rng ((x1 &&& (3 : Int32)) * (8 : Int32))
  have q_15 := i_rng ((255 : Int32) <<< (((x1 &&& (3 : Int32)) * (8 : Int32)) &&& 31))
  have l_16 : (-1 : Int32).toInt = -1 := rfl
  have q_18 := i_rng (((255 : Int32) <<< (((x1 &&& (3 : Int32)) * (8 : Int32)) &&& 31)) ^^^ (-1 : Int32))
  have q_20 := i_rng (r5 &&& (((255 : Int32) <<< (((x1 &&& (3 : Int32)) * (8 : Int32)) &&& 31)) ^^^ (-1 : Int32)))
  have q_21 := i_rng x2
  have q_23 := i_rng (x2 <<< (((x1 &&& (3 : Int32)) * (8 : Int32)) &&& 31))
  have q_25 := i_rng ((r5 &&& (((255 : Int32) <<< (((x1 &&& (3 : Int32)) * (8 : Int32)) &&& 31)) ^^^ (-1 : Int32))) ||| (x2 <<< (((x1 &&& (3 : Int32)) * (8 : Int32)) &&& 31)))
  refine WP.bind (cs_X6_hold hfu (x1 >>> ((2 : Int32) &&& 31)) ((r5 &&& (((255 : Int32) <<< (((x1 &&& (3 : Int32)) * (8 : Int32)) &&& 31)) ^^^ (-1 : Int32))) ||| (x2 <<< (((x1 &&& (3 : Int32)) * (8 : Int32)) &&& 31))) F G hI) ?_
  rintro r26 F26 G26 ⟨hI26, hB26, hT26, hO26, hK26, hp26⟩
  dsimp only
  have q_27 := hI.r 10 rfl
  have q_28 := hI26.r 10 rfl
  have e_29 : (F26 10).toInt = (F 10).toInt := hO26
  unfold cb_X6_keepByte_36
  refine WP.ret ?_
  exact ⟨hI26, (KB.tr (KB.rf : KB F G F G) hB26), (KT.tr (rfl : KT F F) hT26), (KO.tr (rfl : KO F F) hO26), (KK.tr (rfl : KK F F) hK26), trivial⟩
theorem cs_X6_pass {fu : Nat} (hfu : 8589934592 ≤ fu) (x1 : Int32) (x2 : Int32) (x3 : Int32) (F : PF) (G : PG) (hI : CI F G) : WP (cf_X6_pass fu x1 x2 x3 F G) (fun r' F' G' => CI F' G' ∧ KB F G F' G' ∧ KT F F' ∧ KO F F' ∧ KK F F' ∧ True) := by
  unfold cf_X6_pass
  unfold cb_X6_pass_0
  refine WP.ite (fun c_1 => ?_) (fun c_1 => ?_)
  · skip
    have q_2 := i_rng x1
    have l_3 : (83 : Int32).toInt = 83 := rfl
    have e_4 := i_eq.mp (show x1 = (83 : Int32) from c_1)
    unfold cb_X6_pass_6
    have q_5 := i_rng (F 58)
    have q_6 := i_rng x2
    first | have e_7 : ((F 58) + x2).toInt = (F 58).toInt + (x2.toInt) := i_addn (F 58) rfl (by omega) (by omega) | have e_8 := i_rng ((F 58) + x2)
    refine WP.bind (cs_X6_held hfu ((F 58) + x2) F G hI) ?_
    rintro r9 _ _ ⟨rfl, rfl, hp9⟩
    dsimp only
    unfold cb_X6_pass_17
    have q_10 := i_rng r9
    refine WP.bind (cs_X6_push hfu r9 F G hI) ?_
    rintro r11 F11 G11 ⟨hI11, hB11, hT11, hO11, hK11, hp11⟩
    dsimp only
    have q_12 := hI.r 10 rfl
    have q_13 := hI11.r 10 rfl
    have e_14 : (F11 10).toInt = (F 10).toInt := hO11
    unfold cb_X6_pass_20
    have q_15 := i_rng (F11 58)
    first | have e_16 : ((F11 58) + x2).toInt = (F11 58).toInt + (x2.toInt) := i_addn (F11 58) rfl (by omega) (by omega) | have e_17 := i_rng ((F11 58) + x2)
    first | have e_18 : (((F11 58) + x2) + (1 : Int32)).toInt = ((F11 58) + x2).toInt + (1) := i_addn ((F11 58) + x2) rfl (by omega) (by omega) | have e_19 := i_rng (((F11 58) + x2) + (1 : Int32))
    refine WP.bind (cs_X6_held hfu (((F11 58) + x2) + (1 : Int32)) F11 G11 hI11) ?_
    rintro r20 _ _ ⟨rfl, rfl, hp20⟩
    dsimp only
    unfold cb_X6_pass_33
    have q_21 := i_rng r20
    refine WP.bind (cs_X6_push hfu r20 F11 G11 hI11) ?_
    rintro r22 F22 G22 ⟨hI22, hB22, hT22, hO22, hK22, hp22⟩
    dsimp only
    have q_23 := hI22.r 10 rfl
    have e_24 : (F22 10).toInt = (F11 10).toInt := hO22
    unfold cb_X6_pass_36
    unfold cb_X6_pass_64
    refine WP.ret ?_
    exact ⟨hI22, (KB.tr (KB.tr (KB.rf : KB F G F G) hB11) hB22), (KT.tr (KT.tr (rfl : KT F F) hT11) hT22), (KO.tr (KO.tr (rfl : KO F F) hO11) hO22), (KK.tr (KK.tr (rfl : KK F F) hK11) hK22), trivial⟩
  · skip
    have q_25 := i_rng x1
    have l_26 : (83 : Int32).toInt = 83 := rfl
    have e_27 := mt i_eq.mpr (show ¬ (x1 = (83 : Int32)) from c_1)
    unfold cb_X6_pass_39
    refine WP.ite (fun c_28 => ?_) (fun c_28 => ?_)
    · skip
      have l_29 : (81 : Int32).toInt = 81 := rfl
      have e_30 := i_eq.mp (show x1 = (81 : Int32) from c_28)
      unfold cb_X6_pass_46
      unfold cb_X6_pass_56
      have q_31 := i_rng x2
      refine WP.bind (cs_X6_push hfu x2 F G hI) ?_
      rintro r32 F32 G32 ⟨hI32, hB32, hT32, hO32, hK32, hp32⟩
      dsimp only
      have q_33 := hI.r 10 rfl
      have q_34 := hI32.r 10 rfl
      have e_35 : (F32 10).toInt = (F 10).toInt := hO32
      unfold cb_X6_pass_59
      have q_36 := i_rng x3
      refine WP.bind (cs_X6_push hfu x3 F32 G32 hI32) ?_
      rintro r37 F37 G37 ⟨hI37, hB37, hT37, hO37, hK37, hp37⟩
      dsimp only
      have q_38 := hI37.r 10 rfl
      have e_39 : (F37 10).toInt = (F32 10).toInt := hO37
      unfold cb_X6_pass_64
      refine WP.ret ?_
      exact ⟨hI37, (KB.tr (KB.tr (KB.rf : KB F G F G) hB32) hB37), (KT.tr (KT.tr (rfl : KT F F) hT32) hT37), (KO.tr (KO.tr (rfl : KO F F) hO32) hO37), (KK.tr (KK.tr (rfl : KK F F) hK32) hK37), trivial⟩
    · skip
      have l_40 : (81 : Int32).toInt = 81 := rfl
      have e_41 := mt i_eq.mpr (show ¬ (x1 = (81 : Int32)) from c_28)
      unfold cb_X6_pass_50
      unfold cb_X6_pass_56
      have q_42 := i_rng (F 58)
      have q_43 := i_rng x2
      first | have e_44 : ((F 58) + x2).toInt = (F 58).toInt + (x2.toInt) := i_addn (F 58) rfl (by omega) (by omega) | have e_45 := i_rng ((F 58) + x2)
      refine WP.bind (cs_X6_push hfu ((F 58) + x2) F G hI) ?_
      rintro r46 F46 G46 ⟨hI46, hB46, hT46, hO46, hK46, hp46⟩
      dsimp only
      have q_47 := hI.r 10 rfl
      have q_48 := hI46.r 10 rfl
      have e_49 : (F46 10).toInt = (F 10).toInt := hO46
      unfold cb_X6_pass_59
      have q_50 := i_rng x3
      refine WP.bind (cs_X6_push hfu x3 F46 G46 hI46) ?_
      rintro r51 F51 G51 ⟨hI51, hB51, hT51, hO51, hK51, hp51⟩
      dsimp only
      have q_52 := hI51.r 10 rfl
      have e_53 : (F51 10).toInt = (F46 10).toInt := hO51
      unfold cb_X6_pass_64
      refine WP.ret ?_
      exact ⟨hI51, (KB.tr (KB.tr (KB.rf : KB F G F G) hB46) hB51), (KT.tr (KT.tr (rfl : KT F F) hT46) hT51), (KO.tr (KO.tr (rfl : KO F F) hO46) hO51), (KK.tr (KK.tr (rfl : KK F F) hK46) hK51), trivial⟩
theorem cs_X6_reach {fu : Nat} (hfu : 8589934592 ≤ fu) (x1 : Int32) (F : PF) (G : PG) (hI : CI F G) : WP (cf_X6_reach fu x1 F G) (fun r' F' G' => CI F' G' ∧ KB F G F' G' ∧ KT F F' ∧ KO F F' ∧ KK F F' ∧ True) := by
  unfold cf_X6_reach
  unfold cb_X6_reach_0
  have q_1 := i_rng x1
  refine WP.ite (fun c_2 => ?_) (fun c_2 => ?_)
  · have e_3 : x1.toInt < 74 ∨ 80 < x1.toInt := c_2
    unfold cb_X6_reach_200
    refine WP.bind (cs_X6_next hfu F G hI) ?_
    rintro r4 F4 G4 ⟨hI4, hB4, hT4, hO4, hK4, hp4⟩
    dsimp only
    have q_5 := hI.r 10 rfl
    have q_6 := hI4.r 10 rfl
    have e_7 : (F4 10).toInt = (F 10).toInt := hO4
    unfold cb_X6_reach_206
    refine WP.bind (cs_X6_next hfu F4 G4 hI4) ?_
    rintro r8 F8 G8 ⟨hI8, hB8, hT8, hO8, hK8, hp8⟩
    dsimp only
    have q_9 := hI8.r 10 rfl
    have e_10 : (F8 10).toInt = (F4 10).toInt := hO8
    unfold cb_X6_reach_210
    have q_11 := i_rng r4
    have q_12 := i_rng r8
    refine WP.bind (cs_X6_pass hfu x1 r4 r8 F8 G8 hI8) ?_
    rintro r13 F13 G13 ⟨hI13, hB13, hT13, hO13, hK13, hp13⟩
    dsimp only
    have q_14 := hI13.r 10 rfl
    have e_15 : (F13 10).toInt = (F8 10).toInt := hO13
    unfold cb_X6_reach_213
    refine WP.ret ?_
    exact ⟨hI13, (KB.tr (KB.tr (KB.tr (KB.rf : KB F G F G) hB4) hB8) hB13), (KT.tr (KT.tr (KT.tr (rfl : KT F F) hT4) hT8) hT13), (KO.tr (KO.tr (KO.tr (rfl : KO F F) hO4) hO8) hO13), (KK.tr (KK.tr (KK.tr (rfl : KK F F) hK4) hK8) hK13), trivial⟩
  have e_16 : ¬ (x1.toInt < 74 ∨ 80 < x1.toInt) := c_2
  refine WP.ite (fun c_17 => ?_) (fun c_17 => ?_)
  · skip
    have l_18 : (74 : Int32).toInt = 74 := rfl
    have e_19 := i_eq.mp (show x1 = (74 : Int32) from c_17)
    unfold cb_X6_reach_44
    refine WP.bind (cs_X6_next hfu F G hI) ?_
    rintro r20 F20 G20 ⟨hI20, hB20, hT20, hO20, hK20, hp20⟩
    dsimp only
    have q_21 := hI.r 10 rfl
    have q_22 := hI20.r 10 rfl
    have e_23 : (F20 10).toInt = (F 10).toInt := hO20
    unfold cb_X6_reach_49
    refine WP.bind (cs_X6_next hfu F20 G20 hI20) ?_
    rintro r24 F24 G24 ⟨hI24, hB24, hT24, hO24, hK24, hp24⟩
    dsimp only
    have q_25 := hI24.r 10 rfl
    have e_26 : (F24 10).toInt = (F20 10).toInt := hO24
    unfold cb_X6_reach_53
    have q_27 := i_rng r20
    have q_28 := i_rng r24
    refine WP.bind (cs_X6_element hfu r20 r24 F24 G24 hI24) ?_
    rintro r29 F29 G29 ⟨hI29, hB29, hT29, hO29, hK29, hp29⟩
    dsimp only
    have q_30 := hI29.r 10 rfl
    have e_31 : (F29 10).toInt = (F24 10).toInt := hO29
    unfold cb_X6_reach_56
    unfold cb_X6_reach_213
    refine WP.ret ?_
    exact ⟨hI29, (KB.tr (KB.tr (KB.tr (KB.rf : KB F G F G) hB20) hB24) hB29), (KT.tr (KT.tr (KT.tr (rfl : KT F F) hT20) hT24) hT29), (KO.tr (KO.tr (KO.tr (rfl : KO F F) hO20) hO24) hO29), (KK.tr (KK.tr (KK.tr (rfl : KK F F) hK20) hK24) hK29), trivial⟩
  have l_32 : (74 : Int32).toInt = 74 := rfl
  have e_33 := mt i_eq.mpr (show ¬ (x1 = (74 : Int32)) from c_17)
  refine WP.ite (fun c_34 => ?_) (fun c_34 => ?_)
  · skip
    have l_35 : (75 : Int32).toInt = 75 := rfl
    have e_36 := i_eq.mp (show x1 = (75 : Int32) from c_34)
    unfold cb_X6_reach_59
    refine WP.bind (cs_X6_next hfu F G hI) ?_
    rintro r37 F37 G37 ⟨hI37, hB37, hT37, hO37, hK37, hp37⟩
    dsimp only
    have q_38 := hI.r 10 rfl
    have q_39 := hI37.r 10 rfl
    have e_40 : (F37 10).toInt = (F 10).toInt := hO37
    unfold cb_X6_reach_68
    refine WP.bind (cs_X6_next hfu F37 G37 hI37) ?_
    rintro r41 F41 G41 ⟨hI41, hB41, hT41, hO41, hK41, hp41⟩
    dsimp only
    have q_42 := hI41.r 10 rfl
    have e_43 : (F41 10).toInt = (F37 10).toInt := hO41
    unfold cb_X6_reach_73
    have q_44 := i_rng (F 58)
    have q_45 := i_rng r37
    first | have e_46 : ((F 58) + r37).toInt = (F 58).toInt + (r37.toInt) := i_addn (F 58) rfl (by omega) (by omega) | have e_47 := i_rng ((F 58) + r37)
    have q_48 := i_rng r41
    refine WP.bind (cs_X6_element hfu ((F 58) + r37) r41 F41 G41 hI41) ?_
    rintro r49 F49 G49 ⟨hI49, hB49, hT49, hO49, hK49, hp49⟩
    dsimp only
    have q_50 := hI49.r 10 rfl
    have e_51 : (F49 10).toInt = (F41 10).toInt := hO49
    unfold cb_X6_reach_76
    unfold cb_X6_reach_213
    refine WP.ret ?_
    exact ⟨hI49, (KB.tr (KB.tr (KB.tr (KB.rf : KB F G F G) hB37) hB41) hB49), (KT.tr (KT.tr (KT.tr (rfl : KT F F) hT37) hT41) hT49), (KO.tr (KO.tr (KO.tr (rfl : KO F F) hO37) hO41) hO49), (KK.tr (KK.tr (KK.tr (rfl : KK F F) hK37) hK41) hK49), trivial⟩
  have l_52 : (75 : Int32).toInt = 75 := rfl
  have e_53 := mt i_eq.mpr (show ¬ (x1 = (75 : Int32)) from c_34)
  refine WP.ite (fun c_54 => ?_) (fun c_54 => ?_)
  · skip
    have l_55 : (76 : Int32).toInt = 76 := rfl
    have e_56 := i_eq.mp (show x1 = (76 : Int32) from c_54)
    unfold cb_X6_reach_79
    refine WP.bind (cs_X6_next hfu F G hI) ?_
    rintro r57 F57 G57 ⟨hI57, hB57, hT57, hO57, hK57, hp57⟩
    dsimp only
    have q_58 := hI.r 10 rfl
    have q_59 := hI57.r 10 rfl
    have e_60 : (F57 10).toInt = (F 10).toInt := hO57
    unfold cb_X6_reach_87
    refine WP.bind (cs_X6_next hfu F57 G57 hI57) ?_
    rintro r61 F61 G61 ⟨hI61, hB61, hT61, hO61, hK61, hp61⟩
    dsimp only
    have q_62 := hI61.r 10 rfl
    have e_63 : (F61 10).toInt = (F57 10).toInt := hO61
    unfold cb_X6_reach_93
    have q_64 := i_rng (F 58)
    have q_65 := i_rng r57
    first | have e_66 : ((F 58) + r57).toInt = (F 58).toInt + (r57.toInt) := i_addn (F 58) rfl (by omega) (by omega) | have e_67 := i_rng ((F 58) + r57)
    refine WP.bind (cs_X6_held hfu ((F 58) + r57) F61 G61 hI61) ?_
    rintro r68 _ _ ⟨rfl, rfl, hp68⟩
    dsimp only
    unfold cb_X6_reach_100
    first | have e_69 : (((F 58) + r57) + (1 : Int32)).toInt = ((F 58) + r57).toInt + (1) := i_addn ((F 58) + r57) rfl (by omega) (by omega) | have e_70 := i_rng (((F 58) + r57) + (1 : Int32))
    refine WP.bind (cs_X6_held hfu (((F 58) + r57) + (1 : Int32)) F61 G61 hI61) ?_
    rintro r71 _ _ ⟨rfl, rfl, hp71⟩
    dsimp only
    unfold cb_X6_reach_107
    have q_72 := i_rng r68
    have q_73 := i_rng r71
    refine WP.bind (cs_X6_element hfu r68 r71 F61 G61 hI61) ?_
    rintro r74 F74 G74 ⟨hI74, hB74, hT74, hO74, hK74, hp74⟩
    dsimp only
    have q_75 := hI74.r 10 rfl
    have e_76 : (F74 10).toInt = (F61 10).toInt := hO74
    unfold cb_X6_reach_110
    unfold cb_X6_reach_213
    refine WP.ret ?_
    exact ⟨hI74, (KB.tr (KB.tr (KB.tr (KB.rf : KB F G F G) hB57) hB61) hB74), (KT.tr (KT.tr (KT.tr (rfl : KT F F) hT57) hT61) hT74), (KO.tr (KO.tr (KO.tr (rfl : KO F F) hO57) hO61) hO74), (KK.tr (KK.tr (KK.tr (rfl : KK F F) hK57) hK61) hK74), trivial⟩
  have l_77 : (76 : Int32).toInt = 76 := rfl
  have e_78 := mt i_eq.mpr (show ¬ (x1 = (76 : Int32)) from c_54)
  refine WP.ite (fun c_79 => ?_) (fun c_79 => ?_)
  · skip
    have l_80 : (77 : Int32).toInt = 77 := rfl
    have e_81 := i_eq.mp (show x1 = (77 : Int32) from c_79)
    unfold cb_X6_reach_113
    refine WP.bind (cs_X6_pop hfu F G hI) ?_
    rintro r82 F82 G82 ⟨hI82, hB82, hT82, hO82, hK82, hp82⟩
    dsimp only
    have q_83 := hI.r 10 rfl
    have q_84 := hI82.r 10 rfl
    have e_85 : (F82 10).toInt = (F 10).toInt := hO82
    unfold cb_X6_reach_119
    have q_86 := i_rng r82
    refine WP.bind (cs_X6_held hfu r82 F82 G82 hI82) ?_
    rintro r87 _ _ ⟨rfl, rfl, hp87⟩
    dsimp only
    unfold cb_X6_reach_122
    have q_88 := i_rng r87
    refine WP.bind (cs_X6_push hfu r87 F82 G82 hI82) ?_
    rintro r89 F89 G89 ⟨hI89, hB89, hT89, hO89, hK89, hp89⟩
    dsimp only
    have q_90 := hI89.r 10 rfl
    have e_91 : (F89 10).toInt = (F82 10).toInt := hO89
    unfold cb_X6_reach_125
    unfold cb_X6_reach_213
    refine WP.ret ?_
    exact ⟨hI89, (KB.tr (KB.tr (KB.rf : KB F G F G) hB82) hB89), (KT.tr (KT.tr (rfl : KT F F) hT82) hT89), (KO.tr (KO.tr (rfl : KO F F) hO82) hO89), (KK.tr (KK.tr (rfl : KK F F) hK82) hK89), trivial⟩
  have l_92 : (77 : Int32).toInt = 77 := rfl
  have e_93 := mt i_eq.mpr (show ¬ (x1 = (77 : Int32)) from c_79)
  refine WP.ite (fun c_94 => ?_) (fun c_94 => ?_)
  · skip
    have l_95 : (78 : Int32).toInt = 78 := rfl
    have e_96 := i_eq.mp (show x1 = (78 : Int32) from c_94)
    unfold cb_X6_reach_128
    refine WP.bind (cs_X6_pop hfu F G hI) ?_
    rintro r97 F97 G97 ⟨hI97, hB97, hT97, hO97, hK97, hp97⟩
    dsimp only
    have q_98 := hI.r 10 rfl
    have q_99 := hI97.r 10 rfl
    have e_100 : (F97 10).toInt = (F 10).toInt := hO97
    unfold cb_X6_reach_132
    have q_101 := i_rng r97
    have l_102 : (2 : Int32).toInt = 2 := rfl
    have e_104 : ((r97 >>> ((2 : Int32) &&& 31))).toInt = r97.toInt / 4 := i_shr 2 (by decide)
    refine WP.bind (cs_X6_held hfu (r97 >>> ((2 : Int32) &&& 31)) F97 G97 hI97) ?_
    rintro r105 _ _ ⟨rfl, rfl, hp105⟩
    dsimp only
    unfold cb_X6_reach_141
    have q_106 := i_rng r105
    have l_107 : (3 : Int32).toInt = 3 := rfl
    have e_109 := i_and r97 (m := 3) 2 (by decide) (by decide)
    have l_110 : (8 : Int32).toInt = 8 := rfl
    have q_112 := i_rng ((r97 &&& (3 : Int32)) * (8 : Int32))
    have q_114 := i_rng ((r105.toUInt32 >>> (((r97 &&& (3 : Int32)) * (8 : Int32)).toUInt32 &&& Int32.toUInt32 31)).toInt32)
    have l_115 : (255 : Int32).toInt = 255 := rfl
    have e_117 := i_and ((r105.toUInt32 >>> (((r97 &&& (3 : Int32)) * (8 : Int32)).toUInt32 &&& Int32.toUInt32 31)).toInt32) (m := 255) 8 (by decide) (by decide)
    refine WP.bind (cs_X6_push hfu (((r105.toUInt32 >>> (((r97 &&& (3 : Int32)) * (8 : Int32)).toUInt32 &&& Int32.toUInt32 31)).toInt32) &&& (255 : Int32)) F97 G97 hI97) ?_
    rintro r118 F118 G118 ⟨hI118, hB118, hT118, hO118, hK118, hp118⟩
    dsimp only
    have q_119 := hI118.r 10 rfl
    have e_120 : (F118 10).toInt = (F97 10).toInt := hO118
    unfold cb_X6_reach_155
    unfold cb_X6_reach_213
    refine WP.ret ?_
    exact ⟨hI118, (KB.tr (KB.tr (KB.rf : KB F G F G) hB97) hB118), (KT.tr (KT.tr (rfl : KT F F) hT97) hT118), (KO.tr (KO.tr (rfl : KO F F) hO97) hO118), (KK.tr (KK.tr (rfl : KK F F) hK97) hK118), trivial⟩
  have l_121 : (78 : Int32).toInt = 78 := rfl
  have e_122 := mt i_eq.mpr (show ¬ (x1 = (78 : Int32)) from c_94)
  refine WP.ite (fun c_123 => ?_) (fun c_123 => ?_)
  · skip
    have l_124 : (79 : Int32).toInt = 79 := rfl
    have e_125 := i_eq.mp (show x1 = (79 : Int32) from c_123)
    unfold cb_X6_reach_158
    refine WP.bind (cs_X6_pop hfu F G hI) ?_
    rintro r126 F126 G126 ⟨hI126, hB126, hT126, hO126, hK126, hp126⟩
    dsimp only
    have q_127 := hI.r 10 rfl
    have q_128 := hI126.r 10 rfl
    have e_129 : (F126 10).toInt = (F 10).toInt := hO126
    unfold cb_X6_reach_162
    refine WP.bind (cs_X6_pop hfu F126 G126 hI126) ?_
    rintro r130 F130 G130 ⟨hI130, hB130, hT130, hO130, hK130, hp130⟩
    dsimp only
    have q_131 := hI130.r 10 rfl
    have e_132 : (F130 10).toInt = (F126 10).toInt := hO130
    unfold cb_X6_reach_169
    have q_133 := i_rng r130
    have q_134 := i_rng r126
    refine WP.bind (cs_X6_hold hfu r130 r126 F130 G130 hI130) ?_
    rintro r135 F135 G135 ⟨hI135, hB135, hT135, hO135, hK135, hp135⟩
    dsimp only
    have q_136 := hI135.r 10 rfl
    have e_137 : (F135 10).toInt = (F130 10).toInt := hO135
    unfold cb_X6_reach_174
    unfold cb_X6_reach_213
    refine WP.ret ?_
    exact ⟨hI135, (KB.tr (KB.tr (KB.tr (KB.rf : KB F G F G) hB126) hB130) hB135), (KT.tr (KT.tr (KT.tr (rfl : KT F F) hT126) hT130) hT135), (KO.tr (KO.tr (KO.tr (rfl : KO F F) hO126) hO130) hO135), (KK.tr (KK.tr (KK.tr (rfl : KK F F) hK126) hK130) hK135), trivial⟩
  have l_138 : (79 : Int32).toInt = 79 := rfl
  have e_139 := mt i_eq.mpr (show ¬ (x1 = (79 : Int32)) from c_123)
  unfold cb_X6_reach_177
  refine WP.bind (cs_X6_pop hfu F G hI) ?_
  rintro r140 F140 G140 ⟨hI140, hB140, hT140, hO140, hK140, hp140⟩
  dsimp only
  have q_141 := hI.r 10 rfl
  have q_142 := hI140.r 10 rfl
  have e_143 : (F140 10).toInt = (F 10).toInt := hO140
  unfold cb_X6_reach_181
  refine WP.bind (cs_X6_pop hfu F140 G140 hI140) ?_
  rintro r144 F144 G144 ⟨hI144, hB144, hT144, hO144, hK144, hp144⟩
  dsimp only
  have q_145 := hI144.r 10 rfl
  have e_146 : (F144 10).toInt = (F140 10).toInt := hO144
  unfold cb_X6_reach_188
  have q_147 := i_rng r144
  have q_148 := i_rng r140
  have l_149 : (255 : Int32).toInt = 255 := rfl
  have e_151 := i_and r140 (m := 255) 8 (by decide) (by decide)
  refine WP.bind (cs_X6_keepByte hfu r144 (r140 &&& (255 : Int32)) F144 G144 hI144) ?_
  rintro r152 F152 G152 ⟨hI152, hB152, hT152, hO152, hK152, hp152⟩
  dsimp only
  have q_153 := hI152.r 10 rfl
  have e_154 : (F152 10).toInt = (F144 10).toInt := hO152
  unfold cb_X6_reach_197
  unfold cb_X6_reach_213
  refine WP.ret ?_
  exact ⟨hI152, (KB.tr (KB.tr (KB.tr (KB.rf : KB F G F G) hB140) hB144) hB152), (KT.tr (KT.tr (KT.tr (rfl : KT F F) hT140) hT144) hT152), (KO.tr (KO.tr (KO.tr (rfl : KO F F) hO140) hO144) hO152), (KK.tr (KK.tr (KK.tr (rfl : KK F F) hK140) hK144) hK152), trivial⟩
theorem cz_X6_clear_2 {fu : Nat} (hfu : 8589934592 ≤ fu) {F0 : PF} {G0 : PG} : ∀ (n : Nat) (x1 : Int32) (x2 : Int32) (x3 : Int32) (F : PF) (G : PG) (hI : CI F G) (hB : KB F0 G0 F G) (hT : KT F0 F) (hO : KO F0 F) (hK : KK F0 F) (hn : (2147483647 - x3.toInt).toNat < n), WP (cl_X6_clear_2 fu n x1 x2 x3 F G) (fun r' F' G' => CI F' G' ∧ KB F0 G0 F' G' ∧ KT F0 F' ∧ KO F0 F' ∧ KK F0 F' ∧ True) := by
  intro n
  induction n with
  | zero =>
    intro x1 x2 x3 F G hI hB hT hO hK hn
    exact absurd hn (Nat.not_lt_zero _)
  | succ n ihn =>
    intro x1 x2 x3 F G hI hB hT hO hK hn
    show WP (cb_X6_clear_2 fu (cl_X6_clear_2 fu n)  x1 x2 x3 F G) _
    unfold cb_X6_clear_2
    refine WP.ite (fun c_1 => ?_) (fun c_1 => ?_)
    · skip
      have q_2 := i_rng x2
      have q_3 := i_rng x3
      have e_4 := i_le.mp (show x2 ≤ x3 from c_1)
      unfold cb_X6_clear_28
      refine WP.ret ?_
      exact ⟨hI, hB, hT, hO, hK, trivial⟩
    · skip
      have q_5 := i_rng x2
      have q_6 := i_rng x3
      have e_7 := mt i_le.mpr (show ¬ (x2 ≤ x3) from c_1)
      unfold cb_X6_clear_7
      refine WP.ite (fun c_8 => ?_) (fun c_8 => ?_)
      · skip
        have l_9 : (200 : Int32).toInt = 200 := rfl
        have e_10 := i_le.mp (show (200 : Int32) ≤ x3 from c_8)
        unfold cb_X6_clear_28
        refine WP.ret ?_
        exact ⟨hI, hB, hT, hO, hK, trivial⟩
      · skip
        have l_11 : (200 : Int32).toInt = 200 := rfl
        have e_12 := mt i_le.mpr (show ¬ ((200 : Int32) ≤ x3) from c_8)
        unfold cb_X6_clear_14
        have q_13 := i_rng x1
        first | have e_14 : (x1 + x3).toInt = x1.toInt + (x3.toInt) := i_addn x1 rfl (by omega) (by omega) | have e_15 := i_rng (x1 + x3)
        have l_16 : (0 : Int32).toInt = 0 := rfl
        refine WP.bind (cs_X6_hold hfu (x1 + x3) (0 : Int32) F G hI) ?_
        rintro r17 F17 G17 ⟨hI17, hB17, hT17, hO17, hK17, hp17⟩
        dsimp only
        have q_18 := hI.r 10 rfl
        have q_19 := hI17.r 10 rfl
        have e_20 : (F17 10).toInt = (F 10).toInt := hO17
        unfold cb_X6_clear_22
        first | have e_21 : (x3 + (1 : Int32)).toInt = x3.toInt + (1) := i_addn x3 rfl (by omega) (by omega) | have e_22 := i_rng (x3 + (1 : Int32))
        exact ihn x1 x2 (x3 + (1 : Int32)) F17 G17 hI17 (KB.tr hB hB17) (KT.tr hT hT17) (KO.tr hO hO17) (KK.tr hK hK17) (by omega)
theorem cs_X6_clear {fu : Nat} (hfu : 8589934592 ≤ fu) (x1 : Int32) (x2 : Int32) (F : PF) (G : PG) (hI : CI F G) : WP (cf_X6_clear fu x1 x2 F G) (fun r' F' G' => CI F' G' ∧ KB F G F' G' ∧ KT F F' ∧ KO F F' ∧ KK F F' ∧ True) := by
  unfold cf_X6_clear
  unfold cb_X6_clear_0
  have q_1 := i_rng x1
  have q_2 := i_rng x2
  have l_3 : (0 : Int32).toInt = 0 := rfl
  exact cz_X6_clear_2 (F0 := F) (G0 := G) hfu fu x1 x2 (0 : Int32) F G hI (KB.rf : KB F G F G) (rfl : KT F F) (rfl : KO F F) (rfl : KK F F) (by omega)
theorem cs_X6_move {fu : Nat} (hfu : 8589934592 ≤ fu) (x1 : Int32) (F : PF) (G : PG) (hI : CI F G) : WP (cf_X6_move fu x1 F G) (fun r' F' G' => CI F' G' ∧ KB F G F' G' ∧ KT F F' ∧ KO F F' ∧ KK F F' ∧ True) := by
  unfold cf_X6_move
  unfold cb_X6_move_0
  have q_1 := i_rng x1
  refine WP.ite (fun c_2 => ?_) (fun c_2 => ?_)
  · have e_3 : x1.toInt < 66 ∨ 72 < x1.toInt := c_2
    unfold cb_X6_move_151
    refine WP.bind (cs_X6_next hfu F G hI) ?_
    rintro r4 F4 G4 ⟨hI4, hB4, hT4, hO4, hK4, hp4⟩
    dsimp only
    have q_5 := hI.r 10 rfl
    have q_6 := hI4.r 10 rfl
    have e_7 : (F4 10).toInt = (F 10).toInt := hO4
    unfold cb_X6_move_160
    refine WP.bind (cs_X6_next hfu F4 G4 hI4) ?_
    rintro r8 F8 G8 ⟨hI8, hB8, hT8, hO8, hK8, hp8⟩
    dsimp only
    have q_9 := hI8.r 10 rfl
    have e_10 : (F8 10).toInt = (F4 10).toInt := hO8
    unfold cb_X6_move_165
    have q_11 := i_rng (F 58)
    have q_12 := i_rng r4
    first | have e_13 : ((F 58) + r4).toInt = (F 58).toInt + (r4.toInt) := i_addn (F 58) rfl (by omega) (by omega) | have e_14 := i_rng ((F 58) + r4)
    have q_15 := i_rng r8
    refine WP.bind (cs_X6_clear hfu ((F 58) + r4) r8 F8 G8 hI8) ?_
    rintro r16 F16 G16 ⟨hI16, hB16, hT16, hO16, hK16, hp16⟩
    dsimp only
    have q_17 := hI16.r 10 rfl
    have e_18 : (F16 10).toInt = (F8 10).toInt := hO16
    unfold cb_X6_move_168
    refine WP.ret ?_
    exact ⟨hI16, (KB.tr (KB.tr (KB.tr (KB.rf : KB F G F G) hB4) hB8) hB16), (KT.tr (KT.tr (KT.tr (rfl : KT F F) hT4) hT8) hT16), (KO.tr (KO.tr (KO.tr (rfl : KO F F) hO4) hO8) hO16), (KK.tr (KK.tr (KK.tr (rfl : KK F F) hK4) hK8) hK16), trivial⟩
  have e_19 : ¬ (x1.toInt < 66 ∨ 72 < x1.toInt) := c_2
  refine WP.ite (fun c_20 => ?_) (fun c_20 => ?_)
  · skip
    have l_21 : (66 : Int32).toInt = 66 := rfl
    have e_22 := i_eq.mp (show x1 = (66 : Int32) from c_20)
    unfold cb_X6_move_44
    refine WP.bind (cs_X6_next hfu F G hI) ?_
    rintro r23 F23 G23 ⟨hI23, hB23, hT23, hO23, hK23, hp23⟩
    dsimp only
    have q_24 := hI.r 10 rfl
    have q_25 := hI23.r 10 rfl
    have e_26 : (F23 10).toInt = (F 10).toInt := hO23
    unfold cb_X6_move_49
    have q_27 := i_rng r23
    refine WP.bind (cs_X6_push hfu r23 F23 G23 hI23) ?_
    rintro r28 F28 G28 ⟨hI28, hB28, hT28, hO28, hK28, hp28⟩
    dsimp only
    have q_29 := hI28.r 10 rfl
    have e_30 : (F28 10).toInt = (F23 10).toInt := hO28
    unfold cb_X6_move_52
    unfold cb_X6_move_168
    refine WP.ret ?_
    exact ⟨hI28, (KB.tr (KB.tr (KB.rf : KB F G F G) hB23) hB28), (KT.tr (KT.tr (rfl : KT F F) hT23) hT28), (KO.tr (KO.tr (rfl : KO F F) hO23) hO28), (KK.tr (KK.tr (rfl : KK F F) hK23) hK28), trivial⟩
  have l_31 : (66 : Int32).toInt = 66 := rfl
  have e_32 := mt i_eq.mpr (show ¬ (x1 = (66 : Int32)) from c_20)
  refine WP.ite (fun c_33 => ?_) (fun c_33 => ?_)
  · skip
    have l_34 : (67 : Int32).toInt = 67 := rfl
    have e_35 := i_eq.mp (show x1 = (67 : Int32) from c_33)
    unfold cb_X6_move_55
    refine WP.bind (cs_X6_pop hfu F G hI) ?_
    rintro r36 F36 G36 ⟨hI36, hB36, hT36, hO36, hK36, hp36⟩
    dsimp only
    have q_37 := hI.r 10 rfl
    have q_38 := hI36.r 10 rfl
    have e_39 : (F36 10).toInt = (F 10).toInt := hO36
    unfold cb_X6_move_59
    have q_40 := i_rng r36
    refine WP.bind (cs_X6_push hfu r36 F36 G36 hI36) ?_
    rintro r41 F41 G41 ⟨hI41, hB41, hT41, hO41, hK41, hp41⟩
    dsimp only
    have q_42 := hI41.r 10 rfl
    have e_43 : (F41 10).toInt = (F36 10).toInt := hO41
    unfold cb_X6_move_65
    refine WP.bind (cs_X6_push hfu r36 F41 G41 hI41) ?_
    rintro r44 F44 G44 ⟨hI44, hB44, hT44, hO44, hK44, hp44⟩
    dsimp only
    have q_45 := hI44.r 10 rfl
    have e_46 : (F44 10).toInt = (F41 10).toInt := hO44
    unfold cb_X6_move_70
    unfold cb_X6_move_168
    refine WP.ret ?_
    exact ⟨hI44, (KB.tr (KB.tr (KB.tr (KB.rf : KB F G F G) hB36) hB41) hB44), (KT.tr (KT.tr (KT.tr (rfl : KT F F) hT36) hT41) hT44), (KO.tr (KO.tr (KO.tr (rfl : KO F F) hO36) hO41) hO44), (KK.tr (KK.tr (KK.tr (rfl : KK F F) hK36) hK41) hK44), trivial⟩
  have l_47 : (67 : Int32).toInt = 67 := rfl
  have e_48 := mt i_eq.mpr (show ¬ (x1 = (67 : Int32)) from c_33)
  refine WP.ite (fun c_49 => ?_) (fun c_49 => ?_)
  · skip
    have l_50 : (68 : Int32).toInt = 68 := rfl
    have e_51 := i_eq.mp (show x1 = (68 : Int32) from c_49)
    unfold cb_X6_move_73
    refine WP.bind (cs_X6_pop hfu F G hI) ?_
    rintro r52 F52 G52 ⟨hI52, hB52, hT52, hO52, hK52, hp52⟩
    dsimp only
    have q_53 := hI.r 10 rfl
    have q_54 := hI52.r 10 rfl
    have e_55 : (F52 10).toInt = (F 10).toInt := hO52
    unfold cb_X6_move_77
    unfold cb_X6_move_168
    refine WP.ret ?_
    exact ⟨hI52, (KB.tr (KB.rf : KB F G F G) hB52), (KT.tr (rfl : KT F F) hT52), (KO.tr (rfl : KO F F) hO52), (KK.tr (rfl : KK F F) hK52), trivial⟩
  have l_56 : (68 : Int32).toInt = 68 := rfl
  have e_57 := mt i_eq.mpr (show ¬ (x1 = (68 : Int32)) from c_49)
  refine WP.ite (fun c_58 => ?_) (fun c_58 => ?_)
  · skip
    have l_59 : (69 : Int32).toInt = 69 := rfl
    have e_60 := i_eq.mp (show x1 = (69 : Int32) from c_58)
    unfold cb_X6_move_81
    refine WP.bind (cs_X6_next hfu F G hI) ?_
    rintro r61 F61 G61 ⟨hI61, hB61, hT61, hO61, hK61, hp61⟩
    dsimp only
    have q_62 := hI.r 10 rfl
    have q_63 := hI61.r 10 rfl
    have e_64 : (F61 10).toInt = (F 10).toInt := hO61
    unfold cb_X6_move_87
    have q_65 := i_rng r61
    refine WP.bind (cs_X6_held hfu r61 F61 G61 hI61) ?_
    rintro r66 _ _ ⟨rfl, rfl, hp66⟩
    dsimp only
    unfold cb_X6_move_90
    have q_67 := i_rng r66
    refine WP.bind (cs_X6_push hfu r66 F61 G61 hI61) ?_
    rintro r68 F68 G68 ⟨hI68, hB68, hT68, hO68, hK68, hp68⟩
    dsimp only
    have q_69 := hI68.r 10 rfl
    have e_70 : (F68 10).toInt = (F61 10).toInt := hO68
    unfold cb_X6_move_93
    unfold cb_X6_move_168
    refine WP.ret ?_
    exact ⟨hI68, (KB.tr (KB.tr (KB.rf : KB F G F G) hB61) hB68), (KT.tr (KT.tr (rfl : KT F F) hT61) hT68), (KO.tr (KO.tr (rfl : KO F F) hO61) hO68), (KK.tr (KK.tr (rfl : KK F F) hK61) hK68), trivial⟩
  have l_71 : (69 : Int32).toInt = 69 := rfl
  have e_72 := mt i_eq.mpr (show ¬ (x1 = (69 : Int32)) from c_58)
  refine WP.ite (fun c_73 => ?_) (fun c_73 => ?_)
  · skip
    have l_74 : (70 : Int32).toInt = 70 := rfl
    have e_75 := i_eq.mp (show x1 = (70 : Int32) from c_73)
    unfold cb_X6_move_96
    refine WP.bind (cs_X6_next hfu F G hI) ?_
    rintro r76 F76 G76 ⟨hI76, hB76, hT76, hO76, hK76, hp76⟩
    dsimp only
    have q_77 := hI.r 10 rfl
    have q_78 := hI76.r 10 rfl
    have e_79 : (F76 10).toInt = (F 10).toInt := hO76
    unfold cb_X6_move_106
    have q_80 := i_rng (F 58)
    have q_81 := i_rng r76
    first | have e_82 : ((F 58) + r76).toInt = (F 58).toInt + (r76.toInt) := i_addn (F 58) rfl (by omega) (by omega) | have e_83 := i_rng ((F 58) + r76)
    refine WP.bind (cs_X6_held hfu ((F 58) + r76) F76 G76 hI76) ?_
    rintro r84 _ _ ⟨rfl, rfl, hp84⟩
    dsimp only
    unfold cb_X6_move_110
    have q_85 := i_rng r84
    refine WP.bind (cs_X6_push hfu r84 F76 G76 hI76) ?_
    rintro r86 F86 G86 ⟨hI86, hB86, hT86, hO86, hK86, hp86⟩
    dsimp only
    have q_87 := hI86.r 10 rfl
    have e_88 : (F86 10).toInt = (F76 10).toInt := hO86
    unfold cb_X6_move_113
    unfold cb_X6_move_168
    refine WP.ret ?_
    exact ⟨hI86, (KB.tr (KB.tr (KB.rf : KB F G F G) hB76) hB86), (KT.tr (KT.tr (rfl : KT F F) hT76) hT86), (KO.tr (KO.tr (rfl : KO F F) hO76) hO86), (KK.tr (KK.tr (rfl : KK F F) hK76) hK86), trivial⟩
  have l_89 : (70 : Int32).toInt = 70 := rfl
  have e_90 := mt i_eq.mpr (show ¬ (x1 = (70 : Int32)) from c_73)
  refine WP.ite (fun c_91 => ?_) (fun c_91 => ?_)
  · skip
    have l_92 : (71 : Int32).toInt = 71 := rfl
    have e_93 := i_eq.mp (show x1 = (71 : Int32) from c_91)
    unfold cb_X6_move_116
    refine WP.bind (cs_X6_next hfu F G hI) ?_
    rintro r94 F94 G94 ⟨hI94, hB94, hT94, hO94, hK94, hp94⟩
    dsimp only
    have q_95 := hI.r 10 rfl
    have q_96 := hI94.r 10 rfl
    have e_97 : (F94 10).toInt = (F 10).toInt := hO94
    unfold cb_X6_move_121
    refine WP.bind (cs_X6_pop hfu F94 G94 hI94) ?_
    rintro r98 F98 G98 ⟨hI98, hB98, hT98, hO98, hK98, hp98⟩
    dsimp only
    have q_99 := hI98.r 10 rfl
    have e_100 : (F98 10).toInt = (F94 10).toInt := hO98
    unfold cb_X6_move_125
    have q_101 := i_rng r94
    have q_102 := i_rng r98
    refine WP.bind (cs_X6_hold hfu r94 r98 F98 G98 hI98) ?_
    rintro r103 F103 G103 ⟨hI103, hB103, hT103, hO103, hK103, hp103⟩
    dsimp only
    have q_104 := hI103.r 10 rfl
    have e_105 : (F103 10).toInt = (F98 10).toInt := hO103
    unfold cb_X6_move_128
    unfold cb_X6_move_168
    refine WP.ret ?_
    exact ⟨hI103, (KB.tr (KB.tr (KB.tr (KB.rf : KB F G F G) hB94) hB98) hB103), (KT.tr (KT.tr (KT.tr (rfl : KT F F) hT94) hT98) hT103), (KO.tr (KO.tr (KO.tr (rfl : KO F F) hO94) hO98) hO103), (KK.tr (KK.tr (KK.tr (rfl : KK F F) hK94) hK98) hK103), trivial⟩
  have l_106 : (71 : Int32).toInt = 71 := rfl
  have e_107 := mt i_eq.mpr (show ¬ (x1 = (71 : Int32)) from c_91)
  unfold cb_X6_move_131
  refine WP.bind (cs_X6_next hfu F G hI) ?_
  rintro r108 F108 G108 ⟨hI108, hB108, hT108, hO108, hK108, hp108⟩
  dsimp only
  have q_109 := hI.r 10 rfl
  have q_110 := hI108.r 10 rfl
  have e_111 : (F108 10).toInt = (F 10).toInt := hO108
  unfold cb_X6_move_140
  refine WP.bind (cs_X6_pop hfu F108 G108 hI108) ?_
  rintro r112 F112 G112 ⟨hI112, hB112, hT112, hO112, hK112, hp112⟩
  dsimp only
  have q_113 := hI112.r 10 rfl
  have e_114 : (F112 10).toInt = (F108 10).toInt := hO112
  unfold cb_X6_move_145
  have q_115 := i_rng (F 58)
  have q_116 := i_rng r108
  first | have e_117 : ((F 58) + r108).toInt = (F 58).toInt + (r108.toInt) := i_addn (F 58) rfl (by omega) (by omega) | have e_118 := i_rng ((F 58) + r108)
  have q_119 := i_rng r112
  refine WP.bind (cs_X6_hold hfu ((F 58) + r108) r112 F112 G112 hI112) ?_
  rintro r120 F120 G120 ⟨hI120, hB120, hT120, hO120, hK120, hp120⟩
  dsimp only
  have q_121 := hI120.r 10 rfl
  have e_122 : (F120 10).toInt = (F112 10).toInt := hO120
  unfold cb_X6_move_148
  unfold cb_X6_move_168
  refine WP.ret ?_
  exact ⟨hI120, (KB.tr (KB.tr (KB.tr (KB.rf : KB F G F G) hB108) hB112) hB120), (KT.tr (KT.tr (KT.tr (rfl : KT F F) hT108) hT112) hT120), (KO.tr (KO.tr (KO.tr (rfl : KO F F) hO108) hO112) hO120), (KK.tr (KK.tr (KK.tr (rfl : KK F F) hK108) hK112) hK120), trivial⟩
theorem i_nn {x : Int32} (h : ¬ x < (0 : Int32)) : 0 ≤ x.toInt := by
  have := mt i_lt.mpr h
  have l : (0 : Int32).toInt = 0 := rfl
  omega
theorem d_dec {x : Int32} {n : Nat} (h0 : 0 ≤ x.toInt) (hn : (x.toInt + 1).toNat < n + 1) : ((x + (-1 : Int32)).toInt + 1).toNat < n := by
  have := i_rng x
  have e : (x + (-1 : Int32)).toInt = x.toInt + -1 := i_addn x (m := -1) rfl (by omega) (by omega)
  omega
theorem cz_X6_enters_75 {fu : Nat} (hfu : 8589934592 ≤ fu) {F0 : PF} {G0 : PG} : ∀ (n : Nat) (x1 : Int32) (x3 : Int32) (x4 : Int32) (F : PF) (G : PG) (hI : CI F G) (hB : KB F0 G0 F G) (hT : KT F0 F) (hO : KO F0 F) (hK : KK F0 F) (i_0 : 0 ≤ x1.toInt) (i_1 : x1.toInt < 450) (hn : (x4.toInt + 1).toNat < n), WP (cl_X6_enters_75 fu n x1 x3 x4 F G) (fun r' F' G' => CI F' G' ∧ KB F0 G0 F' G' ∧ KT F0 F' ∧ KO F0 F' ∧ KK F0 F' ∧ (r' = 0 ∨ r' = 1)) := by
  intro n
  induction n with
  | zero =>
    intro x1 x3 x4 F G hI hB hT hO hK i_0 i_1 hn
    exact absurd hn (Nat.not_lt_zero _)
  | succ n ihn =>
    intro x1 x3 x4 F G hI hB hT hO hK i_0 i_1 hn
    show WP (cb_X6_enters_75 fu (cl_X6_enters_75 fu n)  x1 x3 x4 F G) _
    unfold cb_X6_enters_75
    refine WP.ite (fun c_1 => ?_) (fun c_1 => ?_)
    · skip
      have q_2 := i_rng x4
      have l_3 : (0 : Int32).toInt = 0 := rfl
      have e_4 := i_lt.mp (show x4 < (0 : Int32) from c_1)
      unfold cb_X6_enters_103
      have q_5 := i_rng (F 59)
      have j_6 : CI (fup F 58 (F 59)) G := CI.fr rfl hI
      unfold cb_X6_enters_111
      have q_7 := i_rng x3
      first | have e_8 : ((F 59) + x3).toInt = (F 59).toInt + (x3.toInt) := i_addn (F 59) rfl (by omega) (by omega) | have e_9 := i_rng ((F 59) + x3)
      have j_10 : CI (fup (fup F 58 (F 59)) 59 ((F 59) + x3)) G := CI.fr rfl j_6
      unfold cb_X6_enters_121
      have q_11 := i_rng x1
      refine WP.ix (show vp_in x1 450 from vp_in_iff.mpr ⟨by omega, by omega⟩) ?_
      have q_12 := i_rng (G 80 x1.toNatClampNeg)
      have j_13 : CI (fup (fup (fup F 58 (F 59)) 59 ((F 59) + x3)) 57 (G 80 x1.toNatClampNeg)) G := CI.fr rfl j_10
      unfold cb_X6_enters_134
      refine WP.ret ?_
      exact ⟨j_13, (KB.f (by decide) (KB.f (by decide) (KB.f (by decide) hB))), (KT.f (by decide) (KT.f (by decide) (KT.f (by decide) hT))), (KO.f (by decide) (KO.f (by decide) (KO.f (by decide) hO))), (KK.f (by decide) (KK.f (by decide) (KK.f (by decide) hK))), (by decide)⟩
    · skip
      have q_14 := i_rng x4
      have l_15 : (0 : Int32).toInt = 0 := rfl
      have e_16 := mt i_lt.mpr (show ¬ (x4 < (0 : Int32)) from c_1)
      unfold cb_X6_enters_80
      refine WP.bind (cs_X6_pop hfu F G hI) ?_
      rintro r17 F17 G17 ⟨hI17, hB17, hT17, hO17, hK17, hp17⟩
      dsimp only
      have q_18 := hI.r 10 rfl
      have q_19 := hI17.r 10 rfl
      have e_20 : (F17 10).toInt = (F 10).toInt := hO17
      unfold cb_X6_enters_94
      have q_21 := i_rng (F 59)
      first | have e_22 : ((F 59) + (4 : Int32)).toInt = (F 59).toInt + (4) := i_addn (F 59) rfl (by omega) (by omega) | have e_23 := i_rng ((F 59) + (4 : Int32))
      first | have e_24 : (((F 59) + (4 : Int32)) + x4).toInt = ((F 59) + (4 : Int32)).toInt + (x4.toInt) := i_addn ((F 59) + (4 : Int32)) rfl (by omega) (by omega) | have e_25 := i_rng (((F 59) + (4 : Int32)) + x4)
      have q_26 := i_rng r17
      refine WP.bind (cs_X6_hold hfu (((F 59) + (4 : Int32)) + x4) r17 F17 G17 hI17) ?_
      rintro r27 F27 G27 ⟨hI27, hB27, hT27, hO27, hK27, hp27⟩
      dsimp only
      have q_28 := hI27.r 10 rfl
      have e_29 : (F27 10).toInt = (F17 10).toInt := hO27
      unfold cb_X6_enters_97
      have q_30 := i_rng x1
      have q_31 := i_rng x3
      first | have e_32 : (x4 + (-1 : Int32)).toInt = x4.toInt + (-1) := i_addn x4 rfl (by omega) (by omega) | have e_33 := i_rng (x4 + (-1 : Int32))
      exact ihn x1 x3 (x4 + (-1 : Int32)) F27 G27 hI27 (KB.tr (KB.tr hB hB17) hB27) (KT.tr (KT.tr hT hT17) hT27) (KO.tr (KO.tr hO hO17) hO27) (KK.tr (KK.tr hK hK17) hK27) (show 0 ≤ x1.toInt by omega) (show x1.toInt < 450 by omega) (d_dec (i_nn c_1) hn)
theorem cs_X6_enters {fu : Nat} (hfu : 8589934592 ≤ fu) (x1 : Int32) (x2 : Int32) (F : PF) (G : PG) (hI : CI F G) (hc : 0 ≤ x1.toInt) (hd : x1.toInt < 450) : WP (cf_X6_enters fu x1 x2 F G) (fun r' F' G' => CI F' G' ∧ KB F G F' G' ∧ KT F F' ∧ KO F F' ∧ KK F F' ∧ (r' = 0 ∨ r' = 1)) := by
  unfold cf_X6_enters
  unfold cb_X6_enters_0
  have q_1 := i_rng x1
  refine WP.ix (show vp_in x1 450 from vp_in_iff.mpr ⟨by omega, by omega⟩) ?_
  refine WP.bind (cs_X6_depth hfu F G hI) ?_
  rintro r2 _ _ ⟨rfl, rfl, hp2⟩
  dsimp only
  unfold cb_X6_enters_14
  refine WP.ite (fun c_3 => ?_) (fun c_3 => ?_)
  · skip
    have q_4 := i_rng r2
    have q_5 := i_rng (G 79 x1.toNatClampNeg)
    first | have e_6 : (r2 + (G 79 x1.toNatClampNeg)).toInt = r2.toInt + ((G 79 x1.toNatClampNeg).toInt) := i_addn r2 rfl (by omega) (by omega) | have e_7 := i_rng (r2 + (G 79 x1.toNatClampNeg))
    have q_8 := i_rng (F 67)
    have e_9 := i_le.mp (show (r2 + (G 79 x1.toNatClampNeg)) ≤ (F 67) from c_3)
    unfold cb_X6_enters_36
    have q_10 := i_rng (F 59)
    have q_11 := i_rng (F 57)
    refine WP.bind (cs_X6_hold hfu (F 59) (F 57) F G hI) ?_
    rintro r12 F12 G12 ⟨hI12, hB12, hT12, hO12, hK12, hp12⟩
    dsimp only
    have q_13 := hI.r 10 rfl
    have q_14 := hI12.r 10 rfl
    have e_15 : (F12 10).toInt = (F 10).toInt := hO12
    unfold cb_X6_enters_48
    have q_16 := i_rng (F12 59)
    first | have e_17 : ((F12 59) + (1 : Int32)).toInt = (F12 59).toInt + (1) := i_addn (F12 59) rfl (by omega) (by omega) | have e_18 := i_rng ((F12 59) + (1 : Int32))
    have q_19 := i_rng (F12 58)
    refine WP.bind (cs_X6_hold hfu ((F12 59) + (1 : Int32)) (F12 58) F12 G12 hI12) ?_
    rintro r20 F20 G20 ⟨hI20, hB20, hT20, hO20, hK20, hp20⟩
    dsimp only
    have q_21 := hI20.r 10 rfl
    have e_22 : (F20 10).toInt = (F12 10).toInt := hO20
    unfold cb_X6_enters_62
    refine WP.ix (show vp_in x1 450 from vp_in_iff.mpr ⟨by omega, by omega⟩) ?_
    have q_23 := i_rng (G20 81 x1.toNatClampNeg)
    first | have e_24 : ((G20 81 x1.toNatClampNeg) - (1 : Int32)).toInt = (G20 81 x1.toNatClampNeg).toInt - (1) := i_subn (G20 81 x1.toNatClampNeg) rfl (by omega) (by omega) | have e_25 := i_rng ((G20 81 x1.toNatClampNeg) - (1 : Int32))
    exact cz_X6_enters_75 (F0 := F) (G0 := G) hfu fu x1 (G 79 x1.toNatClampNeg) ((G20 81 x1.toNatClampNeg) - (1 : Int32)) F20 G20 hI20 (KB.tr (KB.tr (KB.rf : KB F G F G) hB12) hB20) (KT.tr (KT.tr (rfl : KT F F) hT12) hT20) (KO.tr (KO.tr (rfl : KO F F) hO12) hO20) (KK.tr (KK.tr (rfl : KK F F) hK12) hK20) (show 0 ≤ x1.toInt by omega) (show x1.toInt < 450 by omega) (by omega)
  · skip
    have q_26 := i_rng r2
    have q_27 := i_rng (G 79 x1.toNatClampNeg)
    first | have e_28 : (r2 + (G 79 x1.toNatClampNeg)).toInt = r2.toInt + ((G 79 x1.toNatClampNeg).toInt) := i_addn r2 rfl (by omega) (by omega) | have e_29 := i_rng (r2 + (G 79 x1.toNatClampNeg))
    have q_30 := i_rng (F 67)
    have e_31 := mt i_le.mpr (show ¬ ((r2 + (G 79 x1.toNatClampNeg)) ≤ (F 67)) from c_3)
    unfold cb_X6_enters_23
    have q_32 := i_rng x2
    have j_33 : CI (fup F 66 x2) G := CI.fr rfl hI
    unfold cb_X6_enters_28
    have l_34 : (6 : Int32).toInt = 6 := rfl
    refine WP.bind (cs_X6_over hfu (6 : Int32) (fup F 66 x2) G j_33) ?_
    rintro r35 F35 G35 ⟨hI35, hB35, hT35, hO35, hK35, hp35⟩
    dsimp only
    have q_36 := hI.r 10 rfl
    have q_37 := hI35.r 10 rfl
    have e_38 : (F35 10).toInt = (F 10).toInt := hO35
    unfold cb_X6_enters_34
    refine WP.ret ?_
    exact ⟨hI35, (KB.tr (KB.f (by decide) (KB.rf : KB F G F G)) hB35), (KT.tr (KT.f (by decide) (rfl : KT F F)) hT35), (KO.tr (KO.f (by decide) (rfl : KO F F)) hO35), (KK.tr (KK.f (by decide) (rfl : KK F F)) hK35), (by decide)⟩
