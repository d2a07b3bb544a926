theorem cs_X0_link {fu : Nat} (hfu : 8589934592 ≤ fu) (x1 : Int32) (x2 : Int32) (F : PF) (G : PG) (hI : CI F G) : WP (cf_X0_link fu x1 x2 F G) (fun r' F' G' => CI F' G' ∧ KT F F' ∧ KO F F' ∧ True) := by
  unfold cf_X0_link
  unfold cb_X0_link_0
  refine WP.ite (fun c_1 => ?_) (fun c_1 => ?_)
  · skip
    have q_2 := i_rng x2
    have l_3 : (3 : Int32).toInt = 3 := rfl
    have e_5 := i_and x2 (m := 3) 2 (by decide) (by decide)
    have l_6 : (0 : Int32).toInt = 0 := rfl
    have e_7 := i_eq.mp (show (x2 &&& (3 : Int32)) = (0 : Int32) from c_1)
    unfold cb_X0_link_8
    have j_8 : CI (fup F 4 x2) G := CI.fr rfl hI
    unfold cb_X0_link_13
    have q_9 := i_rng x1
    have q_10 := i_rng (F 2)
    first | have e_11 : ((F 2) + (4 : Int32)).toInt = (F 2).toInt + (4) := i_addn (F 2) rfl (by omega) (by omega) | have e_12 := i_rng ((F 2) + (4 : Int32))
    refine WP.bind (cs_X0_keep hfu x1 ((F 2) + (4 : Int32)) (fup F 4 x2) G j_8) ?_
    rintro r13 F13 G13 ⟨hI13, hT13, hO13, hp13⟩
    dsimp only
    have q_14 := hI.r 10 rfl
    have q_15 := hI13.r 10 rfl
    have e_16 : (F13 10).toInt = (F 10).toInt := hO13
    unfold cb_X0_link_24
    refine WP.ret ?_
    exact ⟨hI13, (KT.tr (KT.f (by decide) (rfl : KT F F)) hT13), (KO.tr (KO.f (by decide) (rfl : KO F F)) hO13), trivial⟩
  · skip
    have q_17 := i_rng x2
    have l_18 : (3 : Int32).toInt = 3 := rfl
    have e_20 := i_and x2 (m := 3) 2 (by decide) (by decide)
    have l_21 : (0 : Int32).toInt = 0 := rfl
    have e_22 := mt i_eq.mpr (show ¬ ((x2 &&& (3 : Int32)) = (0 : Int32)) from c_1)
    unfold cb_X0_link_6
    refine WP.ret ?_
    exact ⟨hI, (rfl : KT F F), (rfl : KO F F), trivial⟩
theorem cs_X0_reach {fu : Nat} (hfu : 8589934592 ≤ fu) (x0 : Int32) (x1 : Int32) (F : PF) (G : PG) (hI : CI F G) (ha : 1 ≤ x1.toInt) (hb : x1.toInt ≤ 8) : WP (cf_X0_reach fu x0 x1 F G) (fun r' F' G' => F = F' ∧ G = G' ∧ ((r'.toInt = 0 → 0 ≤ x0.toInt ∧ x0.toInt ≤ 16384 - x1.toInt))) := by
  unfold cf_X0_reach
  unfold cb_X0_reach_0
  refine WP.ite (fun c_1 => ?_) (fun c_1 => ?_)
  · skip
    have q_2 := i_rng x0
    have q_3 := i_rng x1
    first | have e_4 : (x1 - (1 : Int32)).toInt = x1.toInt - (1) := i_subn x1 rfl (by omega) (by omega) | have e_5 := i_rng (x1 - (1 : Int32))
    have q_7 := i_rng (x0 &&& (x1 - (1 : Int32)))
    have l_8 : (0 : Int32).toInt = 0 := rfl
    have e_9 := i_eq.mp (show (x0 &&& (x1 - (1 : Int32))) = (0 : Int32) from c_1)
    unfold cb_X0_reach_10
    refine WP.ite (fun c_10 => ?_) (fun c_10 => ?_)
    · skip
      have e_11 := i_lt.mp (show x0 < (0 : Int32) from c_10)
      unfold cb_X0_reach_23
      unfold cb_X0_reach_28
      refine WP.ret ?_
      have l_12 : (5 : Int32).toInt = 5 := rfl
      exact ⟨rfl, rfl, (show (5 : Int32).toInt = 0 → 0 ≤ x0.toInt ∧ x0.toInt ≤ 16384 - x1.toInt by omega)⟩
    · skip
      have e_13 := mt i_lt.mpr (show ¬ (x0 < (0 : Int32)) from c_10)
      unfold cb_X0_reach_14
      refine WP.ite (fun c_14 => ?_) (fun c_14 => ?_)
      · skip
        have l_15 : (16384 : Int32).toInt = 16384 := rfl
        first | have e_16 : ((16384 : Int32) - x1).toInt = (16384 : Int32).toInt - (x1.toInt) := i_subn (16384 : Int32) rfl (by omega) (by omega) | have e_17 := i_rng ((16384 : Int32) - x1)
        have e_18 := i_le.mp (show x0 ≤ ((16384 : Int32) - x1) from c_14)
        unfold cb_X0_reach_27
        unfold cb_X0_reach_28
        refine WP.ret ?_
        exact ⟨rfl, rfl, (show (0 : Int32).toInt = 0 → 0 ≤ x0.toInt ∧ x0.toInt ≤ 16384 - x1.toInt by omega)⟩
      · skip
        have l_19 : (16384 : Int32).toInt = 16384 := rfl
        first | have e_20 : ((16384 : Int32) - x1).toInt = (16384 : Int32).toInt - (x1.toInt) := i_subn (16384 : Int32) rfl (by omega) (by omega) | have e_21 := i_rng ((16384 : Int32) - x1)
        have e_22 := mt i_le.mpr (show ¬ (x0 ≤ ((16384 : Int32) - x1)) from c_14)
        unfold cb_X0_reach_23
        unfold cb_X0_reach_28
        refine WP.ret ?_
        have l_23 : (5 : Int32).toInt = 5 := rfl
        exact ⟨rfl, rfl, (show (5 : Int32).toInt = 0 → 0 ≤ x0.toInt ∧ x0.toInt ≤ 16384 - x1.toInt by omega)⟩
  · skip
    have q_24 := i_rng x0
    have q_25 := i_rng x1
    first | have e_26 : (x1 - (1 : Int32)).toInt = x1.toInt - (1) := i_subn x1 rfl (by omega) (by omega) | have e_27 := i_rng (x1 - (1 : Int32))
    have q_29 := i_rng (x0 &&& (x1 - (1 : Int32)))
    have l_30 : (0 : Int32).toInt = 0 := rfl
    have e_31 := mt i_eq.mpr (show ¬ ((x0 &&& (x1 - (1 : Int32))) = (0 : Int32)) from c_1)
    unfold cb_X0_reach_8
    refine WP.ret ?_
    have l_32 : (4 : Int32).toInt = 4 := rfl
    exact ⟨rfl, rfl, (show (4 : Int32).toInt = 0 → 0 ≤ x0.toInt ∧ x0.toInt ≤ 16384 - x1.toInt by omega)⟩
theorem cs_X0_store {fu : Nat} (hfu : 8589934592 ≤ fu) (x1 : Int32) (F : PF) (G : PG) (hI : CI F G) : WP (cf_X0_store fu x1 F G) (fun r' F' G' => CI F' G' ∧ KT F F' ∧ KO F F' ∧ True) := by
  unfold cf_X0_store
  unfold cb_X0_store_0
  refine WP.ite (fun c_1 => ?_) (fun c_1 => ?_)
  · skip
    have q_2 := i_rng x1
    have l_3 : (12 : Int32).toInt = 12 := rfl
    have q_5 := i_rng ((x1.toUInt32 >>> ((12 : Int32).toUInt32 &&& Int32.toUInt32 31)).toInt32)
    have l_6 : (7 : Int32).toInt = 7 := rfl
    have e_8 := i_and ((x1.toUInt32 >>> ((12 : Int32).toUInt32 &&& Int32.toUInt32 31)).toInt32) (m := 7) 3 (by decide) (by decide)
    have l_9 : (2 : Int32).toInt = 2 := rfl
    have e_10 := i_le.mp (show (((x1.toUInt32 >>> ((12 : Int32).toUInt32 &&& Int32.toUInt32 31)).toInt32) &&& (7 : Int32)) ≤ (2 : Int32) from c_1)
    unfold cb_X0_store_15
    have l_11 : (15 : Int32).toInt = 15 := rfl
    have q_13 := i_rng ((x1.toUInt32 >>> ((15 : Int32).toUInt32 &&& Int32.toUInt32 31)).toInt32)
    have l_14 : (31 : Int32).toInt = 31 := rfl
    have e_16 := i_and ((x1.toUInt32 >>> ((15 : Int32).toUInt32 &&& Int32.toUInt32 31)).toInt32) (m := 31) 5 (by decide) (by decide)
    refine WP.ix (show vp_in (((x1.toUInt32 >>> ((15 : Int32).toUInt32 &&& Int32.toUInt32 31)).toInt32) &&& (31 : Int32)) 32 from vp_in_iff.mpr ⟨by omega, by omega⟩) ?_
    have q_17 := i_rng (G 1 (((x1.toUInt32 >>> ((15 : Int32).toUInt32 &&& Int32.toUInt32 31)).toInt32) &&& (31 : Int32)).toNatClampNeg)
    have l_18 : (25 : Int32).toInt = 25 := rfl
    have e_20 : ((x1 >>> ((25 : Int32) &&& 31))).toInt = x1.toInt / 33554432 := i_shr 25 (by decide)
    have l_21 : (5 : Int32).toInt = 5 := rfl
    have q_23 := i_rng ((x1 >>> ((25 : Int32) &&& 31)) <<< ((5 : Int32) &&& 31))
    have q_25 := i_rng ((x1.toUInt32 >>> ((7 : Int32).toUInt32 &&& Int32.toUInt32 31)).toInt32)
    have e_27 := i_and ((x1.toUInt32 >>> ((7 : Int32).toUInt32 &&& Int32.toUInt32 31)).toInt32) (m := 31) 5 (by decide) (by decide)
    have q_29 := i_rng (((x1 >>> ((25 : Int32) &&& 31)) <<< ((5 : Int32) &&& 31)) ||| (((x1.toUInt32 >>> ((7 : Int32).toUInt32 &&& Int32.toUInt32 31)).toInt32) &&& (31 : Int32)))
    first | have e_30 : ((G 1 (((x1.toUInt32 >>> ((15 : Int32).toUInt32 &&& Int32.toUInt32 31)).toInt32) &&& (31 : Int32)).toNatClampNeg) + (((x1 >>> ((25 : Int32) &&& 31)) <<< ((5 : Int32) &&& 31)) ||| (((x1.toUInt32 >>> ((7 : Int32).toUInt32 &&& Int32.toUInt32 31)).toInt32) &&& (31 : Int32)))).toInt = (G 1 (((x1.toUInt32 >>> ((15 : Int32).toUInt32 &&& Int32.toUInt32 31)).toInt32) &&& (31 : Int32)).toNatClampNeg).toInt + ((((x1 >>> ((25 : Int32) &&& 31)) <<< ((5 : Int32) &&& 31)) ||| (((x1.toUInt32 >>> ((7 : Int32).toUInt32 &&& Int32.toUInt32 31)).toInt32) &&& (31 : Int32))).toInt) := i_addn (G 1 (((x1.toUInt32 >>> ((15 : Int32).toUInt32 &&& Int32.toUInt32 31)).toInt32) &&& (31 : Int32)).toNatClampNeg) rfl (by omega) (by omega) | have e_31 := i_rng ((G 1 (((x1.toUInt32 >>> ((15 : Int32).toUInt32 &&& Int32.toUInt32 31)).toInt32) &&& (31 : Int32)).toNatClampNeg) + (((x1 >>> ((25 : Int32) &&& 31)) <<< ((5 : Int32) &&& 31)) ||| (((x1.toUInt32 >>> ((7 : Int32).toUInt32 &&& Int32.toUInt32 31)).toInt32) &&& (31 : Int32))))
    have l_32 : (1 : Int32).toInt = 1 := rfl
    have e_34 := i_shl1 (s := (((x1.toUInt32 >>> ((12 : Int32).toUInt32 &&& Int32.toUInt32 31)).toInt32) &&& (7 : Int32))) ⟨by omega, by omega⟩
    refine WP.bind (cs_X0_reach hfu ((G 1 (((x1.toUInt32 >>> ((15 : Int32).toUInt32 &&& Int32.toUInt32 31)).toInt32) &&& (31 : Int32)).toNatClampNeg) + (((x1 >>> ((25 : Int32) &&& 31)) <<< ((5 : Int32) &&& 31)) ||| (((x1.toUInt32 >>> ((7 : Int32).toUInt32 &&& Int32.toUInt32 31)).toInt32) &&& (31 : Int32)))) ((1 : Int32) <<< ((((x1.toUInt32 >>> ((12 : Int32).toUInt32 &&& Int32.toUInt32 31)).toInt32) &&& (7 : Int32)) &&& 31)) F G hI (show 1 ≤ ((1 : Int32) <<< ((((x1.toUInt32 >>> ((12 : Int32).toUInt32 &&& Int32.toUInt32 31)).toInt32) &&& (7 : Int32)) &&& 31)).toInt by omega) (show ((1 : Int32) <<< ((((x1.toUInt32 >>> ((12 : Int32).toUInt32 &&& Int32.toUInt32 31)).toInt32) &&& (7 : Int32)) &&& 31)).toInt ≤ 8 by omega)) ?_
    rintro r35 _ _ ⟨rfl, rfl, hp35⟩
    dsimp only
    have q_36 := i_rng r35
    unfold cb_X0_store_54
    refine WP.ite (fun c_37 => ?_) (fun c_37 => ?_)
    · skip
      have l_38 : (0 : Int32).toInt = 0 := rfl
      have e_39 := i_eq.mp (show r35 = (0 : Int32) from c_37)
      unfold cb_X0_store_64
      have e_41 : ((((G 1 (((x1.toUInt32 >>> ((15 : Int32).toUInt32 &&& Int32.toUInt32 31)).toInt32) &&& (31 : Int32)).toNatClampNeg) + (((x1 >>> ((25 : Int32) &&& 31)) <<< ((5 : Int32) &&& 31)) ||| (((x1.toUInt32 >>> ((7 : Int32).toUInt32 &&& Int32.toUInt32 31)).toInt32) &&& (31 : Int32)))) >>> ((2 : Int32) &&& 31))).toInt = ((G 1 (((x1.toUInt32 >>> ((15 : Int32).toUInt32 &&& Int32.toUInt32 31)).toInt32) &&& (31 : Int32)).toNatClampNeg) + (((x1 >>> ((25 : Int32) &&& 31)) <<< ((5 : Int32) &&& 31)) ||| (((x1.toUInt32 >>> ((7 : Int32).toUInt32 &&& Int32.toUInt32 31)).toInt32) &&& (31 : Int32)))).toInt / 4 := i_shr 2 (by decide)
      refine WP.ix (show vp_in (((G 1 (((x1.toUInt32 >>> ((15 : Int32).toUInt32 &&& Int32.toUInt32 31)).toInt32) &&& (31 : Int32)).toNatClampNeg) + (((x1 >>> ((25 : Int32) &&& 31)) <<< ((5 : Int32) &&& 31)) ||| (((x1.toUInt32 >>> ((7 : Int32).toUInt32 &&& Int32.toUInt32 31)).toInt32) &&& (31 : Int32)))) >>> ((2 : Int32) &&& 31)) 4096 from vp_in_iff.mpr ⟨by omega, by omega⟩) ?_
      have l_42 : (20 : Int32).toInt = 20 := rfl
      have q_44 := i_rng ((x1.toUInt32 >>> ((20 : Int32).toUInt32 &&& Int32.toUInt32 31)).toInt32)
      have e_46 := i_and ((x1.toUInt32 >>> ((20 : Int32).toUInt32 &&& Int32.toUInt32 31)).toInt32) (m := 31) 5 (by decide) (by decide)
      refine WP.ix (show vp_in (((x1.toUInt32 >>> ((20 : Int32).toUInt32 &&& Int32.toUInt32 31)).toInt32) &&& (31 : Int32)) 32 from vp_in_iff.mpr ⟨by omega, by omega⟩) ?_
      refine WP.ix (show vp_in (((G 1 (((x1.toUInt32 >>> ((15 : Int32).toUInt32 &&& Int32.toUInt32 31)).toInt32) &&& (31 : Int32)).toNatClampNeg) + (((x1 >>> ((25 : Int32) &&& 31)) <<< ((5 : Int32) &&& 31)) ||| (((x1.toUInt32 >>> ((7 : Int32).toUInt32 &&& Int32.toUInt32 31)).toInt32) &&& (31 : Int32)))) >>> ((2 : Int32) &&& 31)) 4096 from vp_in_iff.mpr ⟨by omega, by omega⟩) ?_
      have j_47 : CI F (gup G 0 (((G 1 (((x1.toUInt32 >>> ((15 : Int32).toUInt32 &&& Int32.toUInt32 31)).toInt32) &&& (31 : Int32)).toNatClampNeg) + (((x1 >>> ((25 : Int32) &&& 31)) <<< ((5 : Int32) &&& 31)) ||| (((x1.toUInt32 >>> ((7 : Int32).toUInt32 &&& Int32.toUInt32 31)).toInt32) &&& (31 : Int32)))) >>> ((2 : Int32) &&& 31)).toNatClampNeg (((G 0 (((G 1 (((x1.toUInt32 >>> ((15 : Int32).toUInt32 &&& Int32.toUInt32 31)).toInt32) &&& (31 : Int32)).toNatClampNeg) + (((x1 >>> ((25 : Int32) &&& 31)) <<< ((5 : Int32) &&& 31)) ||| (((x1.toUInt32 >>> ((7 : Int32).toUInt32 &&& Int32.toUInt32 31)).toInt32) &&& (31 : Int32)))) >>> ((2 : Int32) &&& 31)).toNatClampNeg) &&& (((((-1 : Int32).toUInt32 >>> (((32 : Int32) - (((1 : Int32) <<< ((((x1.toUInt32 >>> ((12 : Int32).toUInt32 &&& Int32.toUInt32 31)).toInt32) &&& (7 : Int32)) &&& 31)) * (8 : Int32))).toUInt32 &&& Int32.toUInt32 31)).toInt32) <<< (((((G 1 (((x1.toUInt32 >>> ((15 : Int32).toUInt32 &&& Int32.toUInt32 31)).toInt32) &&& (31 : Int32)).toNatClampNeg) + (((x1 >>> ((25 : Int32) &&& 31)) <<< ((5 : Int32) &&& 31)) ||| (((x1.toUInt32 >>> ((7 : Int32).toUInt32 &&& Int32.toUInt32 31)).toInt32) &&& (31 : Int32)))) &&& (3 : Int32)) * (8 : Int32)) &&& 31)) ^^^ (-1 : Int32))) ||| (((G 1 (((x1.toUInt32 >>> ((20 : Int32).toUInt32 &&& Int32.toUInt32 31)).toInt32) &&& (31 : Int32)).toNatClampNeg) <<< (((((G 1 (((x1.toUInt32 >>> ((15 : Int32).toUInt32 &&& Int32.toUInt32 31)).toInt32) &&& (31 : Int32)).toNatClampNeg) + (((x1 >>> ((25 : Int32) &&& 31)) <<< ((5 : Int32) &&& 31)) ||| (((x1.toUInt32 >>> ((7 : Int32).toUInt32 &&& Int32.toUInt32 31)).toInt32) &&& (31 : Int32)))) &&& (3 : Int32)) * (8 : Int32)) &&& 31)) &&& ((((-1 : Int32).toUInt32 >>> (((32 : Int32) - (((1 : Int32) <<< ((((x1.toUInt32 >>> ((12 : Int32).toUInt32 &&& Int32.toUInt32 31)).toInt32) &&& (7 : Int32)) &&& 31)) * (8 : Int32))).toUInt32 &&& Int32.toUInt32 31)).toInt32) <<< (((((G 1 (((x1.toUInt32 >>> ((15 : Int32).toUInt32 &&& Int32.toUInt32 31)).toInt32) &&& (31 : Int32)).toNatClampNeg) + (((x1 >>> ((25 : Int32) &&& 31)) <<< ((5 : Int32) &&& 31)) ||| (((x1.toUInt32 >>> ((7 : Int32).toUInt32 &&& Int32.toUInt32 31)).toInt32) &&& (31 : Int32)))) &&& (3 : Int32)) * (8 : Int32)) &&& 31))))) := CI.g (by decide) hI
      unfold cb_X0_store_131
      refine WP.ret ?_
      exact ⟨j_47, (rfl : KT F F), (rfl : KO F F), trivial⟩
    · skip
      have l_48 : (0 : Int32).toInt = 0 := rfl
      have e_49 := mt i_eq.mpr (show ¬ (r35 = (0 : Int32)) from c_37)
      unfold cb_X0_store_61
      refine WP.ret ?_
      exact ⟨hI, (rfl : KT F F), (rfl : KO F F), trivial⟩
  · skip
    have q_50 := i_rng x1
    have l_51 : (12 : Int32).toInt = 12 := rfl
    have q_53 := i_rng ((x1.toUInt32 >>> ((12 : Int32).toUInt32 &&& Int32.toUInt32 31)).toInt32)
    have l_54 : (7 : Int32).toInt = 7 := rfl
    have e_56 := i_and ((x1.toUInt32 >>> ((12 : Int32).toUInt32 &&& Int32.toUInt32 31)).toInt32) (m := 7) 3 (by decide) (by decide)
    have l_57 : (2 : Int32).toInt = 2 := rfl
    have e_58 := mt i_le.mpr (show ¬ ((((x1.toUInt32 >>> ((12 : Int32).toUInt32 &&& Int32.toUInt32 31)).toInt32) &&& (7 : Int32)) ≤ (2 : Int32)) from c_1)
    unfold cb_X0_store_13
    refine WP.ret ?_
    exact ⟨hI, (rfl : KT F F), (rfl : KO F F), trivial⟩
theorem cs_X0_offsetB {fu : Nat} (hfu : 8589934592 ≤ fu) (x0 : Int32) (F : PF) (G : PG) (hI : CI F G) : WP (cf_X0_offsetB fu x0 F G) (fun r' F' G' => F = F' ∧ G = G' ∧ True) := by
  unfold cf_X0_offsetB
  unfold cb_X0_offsetB_0
  refine WP.ret ?_
  exact ⟨rfl, rfl, trivial⟩
theorem cs_X0_branch {fu : Nat} (hfu : 8589934592 ≤ fu) (x1 : Int32) (F : PF) (G : PG) (hI : CI F G) : WP (cf_X0_branch fu x1 F G) (fun r' F' G' => CI F' G' ∧ KT F F' ∧ KO F F' ∧ True) := by
  unfold cf_X0_branch
  unfold cb_X0_branch_0
  have q_1 := i_rng x1
  have l_2 : (15 : Int32).toInt = 15 := rfl
  have q_4 := i_rng ((x1.toUInt32 >>> ((15 : Int32).toUInt32 &&& Int32.toUInt32 31)).toInt32)
  have l_5 : (31 : Int32).toInt = 31 := rfl
  have e_7 := i_and ((x1.toUInt32 >>> ((15 : Int32).toUInt32 &&& Int32.toUInt32 31)).toInt32) (m := 31) 5 (by decide) (by decide)
  refine WP.ix (show vp_in (((x1.toUInt32 >>> ((15 : Int32).toUInt32 &&& Int32.toUInt32 31)).toInt32) &&& (31 : Int32)) 32 from vp_in_iff.mpr ⟨by omega, by omega⟩) ?_
  have l_8 : (20 : Int32).toInt = 20 := rfl
  have q_10 := i_rng ((x1.toUInt32 >>> ((20 : Int32).toUInt32 &&& Int32.toUInt32 31)).toInt32)
  have e_12 := i_and ((x1.toUInt32 >>> ((20 : Int32).toUInt32 &&& Int32.toUInt32 31)).toInt32) (m := 31) 5 (by decide) (by decide)
  refine WP.ix (show vp_in (((x1.toUInt32 >>> ((20 : Int32).toUInt32 &&& Int32.toUInt32 31)).toInt32) &&& (31 : Int32)) 32 from vp_in_iff.mpr ⟨by omega, by omega⟩) ?_
  refine WP.ite (fun c_13 => ?_) (fun c_13 => ?_)
  · skip
    have l_14 : (12 : Int32).toInt = 12 := rfl
    have q_16 := i_rng ((x1.toUInt32 >>> ((12 : Int32).toUInt32 &&& Int32.toUInt32 31)).toInt32)
    have l_17 : (7 : Int32).toInt = 7 := rfl
    have e_19 := i_and ((x1.toUInt32 >>> ((12 : Int32).toUInt32 &&& Int32.toUInt32 31)).toInt32) (m := 7) 3 (by decide) (by decide)
    have l_20 : (2 : Int32).toInt = 2 := rfl
    have e_21 := i_eq.mp (show (((x1.toUInt32 >>> ((12 : Int32).toUInt32 &&& Int32.toUInt32 31)).toInt32) &&& (7 : Int32)) = (2 : Int32) from c_13)
    unfold cb_X0_branch_45
    refine WP.ret ?_
    exact ⟨hI, (rfl : KT F F), (rfl : KO F F), trivial⟩
  · skip
    have l_22 : (12 : Int32).toInt = 12 := rfl
    have q_24 := i_rng ((x1.toUInt32 >>> ((12 : Int32).toUInt32 &&& Int32.toUInt32 31)).toInt32)
    have l_25 : (7 : Int32).toInt = 7 := rfl
    have e_27 := i_and ((x1.toUInt32 >>> ((12 : Int32).toUInt32 &&& Int32.toUInt32 31)).toInt32) (m := 7) 3 (by decide) (by decide)
    have l_28 : (2 : Int32).toInt = 2 := rfl
    have e_29 := mt i_eq.mpr (show ¬ ((((x1.toUInt32 >>> ((12 : Int32).toUInt32 &&& Int32.toUInt32 31)).toInt32) &&& (7 : Int32)) = (2 : Int32)) from c_13)
    unfold cb_X0_branch_40
    refine WP.ite (fun c_30 => ?_) (fun c_30 => ?_)
    · skip
      have l_31 : (3 : Int32).toInt = 3 := rfl
      have e_32 := i_eq.mp (show (((x1.toUInt32 >>> ((12 : Int32).toUInt32 &&& Int32.toUInt32 31)).toInt32) &&& (7 : Int32)) = (3 : Int32) from c_30)
      unfold cb_X0_branch_45
      refine WP.ret ?_
      exact ⟨hI, (rfl : KT F F), (rfl : KO F F), trivial⟩
    · skip
      have l_33 : (3 : Int32).toInt = 3 := rfl
      have e_34 := mt i_eq.mpr (show ¬ ((((x1.toUInt32 >>> ((12 : Int32).toUInt32 &&& Int32.toUInt32 31)).toInt32) &&& (7 : Int32)) = (3 : Int32)) from c_30)
      unfold cb_X0_branch_47
      refine WP.ite (fun c_35 => ?_) (fun c_35 => ?_)
      · skip
        have e_36 := i_le.mp (show (2 : Int32) ≤ (((x1.toUInt32 >>> ((12 : Int32).toUInt32 &&& Int32.toUInt32 31)).toInt32) &&& (7 : Int32)) from c_35)
        unfold cb_X0_branch_68
        refine WP.ite (fun c_37 => ?_) (fun c_37 => ?_)
        · skip
          have l_38 : (6 : Int32).toInt = 6 := rfl
          have e_39 := i_le.mp (show (6 : Int32) ≤ (((x1.toUInt32 >>> ((12 : Int32).toUInt32 &&& Int32.toUInt32 31)).toInt32) &&& (7 : Int32)) from c_37)
          unfold cb_X0_branch_90
          have q_40 := i_rng (G 1 (((x1.toUInt32 >>> ((15 : Int32).toUInt32 &&& Int32.toUInt32 31)).toInt32) &&& (31 : Int32)).toNatClampNeg)
          have q_41 := i_rng (G 1 (((x1.toUInt32 >>> ((20 : Int32).toUInt32 &&& Int32.toUInt32 31)).toInt32) &&& (31 : Int32)).toNatClampNeg)
          refine WP.bind (cs_X0_isBelow hfu (G 1 (((x1.toUInt32 >>> ((15 : Int32).toUInt32 &&& Int32.toUInt32 31)).toInt32) &&& (31 : Int32)).toNatClampNeg) (G 1 (((x1.toUInt32 >>> ((20 : Int32).toUInt32 &&& Int32.toUInt32 31)).toInt32) &&& (31 : Int32)).toNatClampNeg) F G hI) ?_
          rintro r42 _ _ ⟨rfl, rfl, hp42⟩
          dsimp only
          have q_43 := b_rng hp42
          unfold cb_X0_branch_96
          unfold cb_X0_branch_98
          refine WP.ite (fun c_44 => ?_) (fun c_44 => ?_)
          · skip
            have l_45 : (1 : Int32).toInt = 1 := rfl
            have e_47 := i_and (((x1.toUInt32 >>> ((12 : Int32).toUInt32 &&& Int32.toUInt32 31)).toInt32) &&& (7 : Int32)) (m := 1) 1 (by decide) (by decide)
            have e_48 := i_eq.mp (show ((((x1.toUInt32 >>> ((12 : Int32).toUInt32 &&& Int32.toUInt32 31)).toInt32) &&& (7 : Int32)) &&& (1 : Int32)) = (1 : Int32) from c_44)
            unfold cb_X0_branch_107
            unfold cb_X0_branch_112
            refine WP.ite (fun c_49 => ?_) (fun c_49 => ?_)
            · skip
              have e_50 := i_eq.mp (show r42 = (1 : Int32) from c_49)
              unfold cb_X0_branch_115
              refine WP.ret ?_
              exact ⟨hI, (rfl : KT F F), (rfl : KO F F), trivial⟩
            · skip
              have e_51 := mt i_eq.mpr (show ¬ (r42 = (1 : Int32)) from c_49)
              unfold cb_X0_branch_117
              refine WP.bind (cs_X0_offsetB hfu x1 F G hI) ?_
              rintro r52 _ _ ⟨rfl, rfl, hp52⟩
              dsimp only
              unfold cb_X0_branch_125
              refine WP.ite (fun c_53 => ?_) (fun c_53 => ?_)
              · skip
                have q_54 := i_rng (F 2)
                have q_55 := i_rng r52
                first | have e_56 : ((F 2) + r52).toInt = (F 2).toInt + (r52.toInt) := i_addn (F 2) rfl (by omega) (by omega) | have e_57 := i_rng ((F 2) + r52)
                have e_59 := i_and ((F 2) + r52) (m := 3) 2 (by decide) (by decide)
                have l_60 : (0 : Int32).toInt = 0 := rfl
                have e_61 := i_eq.mp (show (((F 2) + r52) &&& (3 : Int32)) = (0 : Int32) from c_53)
                unfold cb_X0_branch_137
                have j_62 : CI (fup F 4 ((F 2) + r52)) G := CI.fr rfl hI
                unfold cb_X0_branch_143
                refine WP.ret ?_
                exact ⟨j_62, (KT.f (by decide) (rfl : KT F F)), (KO.f (by decide) (rfl : KO F F)), trivial⟩
              · skip
                have q_63 := i_rng (F 2)
                have q_64 := i_rng r52
                first | have e_65 : ((F 2) + r52).toInt = (F 2).toInt + (r52.toInt) := i_addn (F 2) rfl (by omega) (by omega) | have e_66 := i_rng ((F 2) + r52)
                have e_68 := i_and ((F 2) + r52) (m := 3) 2 (by decide) (by decide)
                have l_69 : (0 : Int32).toInt = 0 := rfl
                have e_70 := mt i_eq.mpr (show ¬ ((((F 2) + r52) &&& (3 : Int32)) = (0 : Int32)) from c_53)
                unfold cb_X0_branch_135
                refine WP.ret ?_
                exact ⟨hI, (rfl : KT F F), (rfl : KO F F), trivial⟩
          · skip
            have l_71 : (1 : Int32).toInt = 1 := rfl
            have e_73 := i_and (((x1.toUInt32 >>> ((12 : Int32).toUInt32 &&& Int32.toUInt32 31)).toInt32) &&& (7 : Int32)) (m := 1) 1 (by decide) (by decide)
            have e_74 := mt i_eq.mpr (show ¬ (((((x1.toUInt32 >>> ((12 : Int32).toUInt32 &&& Int32.toUInt32 31)).toInt32) &&& (7 : Int32)) &&& (1 : Int32)) = (1 : Int32)) from c_44)
            unfold cb_X0_branch_111
            unfold cb_X0_branch_112
            refine WP.ite (fun c_75 => ?_) (fun c_75 => ?_)
            · skip
              have l_76 : (0 : Int32).toInt = 0 := rfl
              have e_77 := i_eq.mp (show r42 = (0 : Int32) from c_75)
              unfold cb_X0_branch_115
              refine WP.ret ?_
              exact ⟨hI, (rfl : KT F F), (rfl : KO F F), trivial⟩
            · skip
              have l_78 : (0 : Int32).toInt = 0 := rfl
              have e_79 := mt i_eq.mpr (show ¬ (r42 = (0 : Int32)) from c_75)
              unfold cb_X0_branch_117
              refine WP.bind (cs_X0_offsetB hfu x1 F G hI) ?_
              rintro r80 _ _ ⟨rfl, rfl, hp80⟩
              dsimp only
              unfold cb_X0_branch_125
              refine WP.ite (fun c_81 => ?_) (fun c_81 => ?_)
              · skip
                have q_82 := i_rng (F 2)
                have q_83 := i_rng r80
                first | have e_84 : ((F 2) + r80).toInt = (F 2).toInt + (r80.toInt) := i_addn (F 2) rfl (by omega) (by omega) | have e_85 := i_rng ((F 2) + r80)
                have e_87 := i_and ((F 2) + r80) (m := 3) 2 (by decide) (by decide)
                have e_88 := i_eq.mp (show (((F 2) + r80) &&& (3 : Int32)) = (0 : Int32) from c_81)
                unfold cb_X0_branch_137
                have j_89 : CI (fup F 4 ((F 2) + r80)) G := CI.fr rfl hI
                unfold cb_X0_branch_143
                refine WP.ret ?_
                exact ⟨j_89, (KT.f (by decide) (rfl : KT F F)), (KO.f (by decide) (rfl : KO F F)), trivial⟩
              · skip
                have q_90 := i_rng (F 2)
                have q_91 := i_rng r80
                first | have e_92 : ((F 2) + r80).toInt = (F 2).toInt + (r80.toInt) := i_addn (F 2) rfl (by omega) (by omega) | have e_93 := i_rng ((F 2) + r80)
                have e_95 := i_and ((F 2) + r80) (m := 3) 2 (by decide) (by decide)
                have e_96 := mt i_eq.mpr (show ¬ ((((F 2) + r80) &&& (3 : Int32)) = (0 : Int32)) from c_81)
                unfold cb_X0_branch_135
                refine WP.ret ?_
                exact ⟨hI, (rfl : KT F F), (rfl : KO F F), trivial⟩
        · skip
          have l_97 : (6 : Int32).toInt = 6 := rfl
          have e_98 := mt i_le.mpr (show ¬ ((6 : Int32) ≤ (((x1.toUInt32 >>> ((12 : Int32).toUInt32 &&& Int32.toUInt32 31)).toInt32) &&& (7 : Int32))) from c_37)
          unfold cb_X0_branch_74
          refine WP.ite (fun c_99 => ?_) (fun c_99 => ?_)
          · skip
            have q_100 := i_rng (G 1 (((x1.toUInt32 >>> ((20 : Int32).toUInt32 &&& Int32.toUInt32 31)).toInt32) &&& (31 : Int32)).toNatClampNeg)
            have q_101 := i_rng (G 1 (((x1.toUInt32 >>> ((15 : Int32).toUInt32 &&& Int32.toUInt32 31)).toInt32) &&& (31 : Int32)).toNatClampNeg)
            have e_102 := i_le.mp (show (G 1 (((x1.toUInt32 >>> ((20 : Int32).toUInt32 &&& Int32.toUInt32 31)).toInt32) &&& (31 : Int32)).toNatClampNeg) ≤ (G 1 (((x1.toUInt32 >>> ((15 : Int32).toUInt32 &&& Int32.toUInt32 31)).toInt32) &&& (31 : Int32)).toNatClampNeg) from c_99)
            unfold cb_X0_branch_84
            unfold cb_X0_branch_85
            unfold cb_X0_branch_98
            refine WP.ite (fun c_103 => ?_) (fun c_103 => ?_)
            · skip
              have l_104 : (1 : Int32).toInt = 1 := rfl
              have e_106 := i_and (((x1.toUInt32 >>> ((12 : Int32).toUInt32 &&& Int32.toUInt32 31)).toInt32) &&& (7 : Int32)) (m := 1) 1 (by decide) (by decide)
              have e_107 := i_eq.mp (show ((((x1.toUInt32 >>> ((12 : Int32).toUInt32 &&& Int32.toUInt32 31)).toInt32) &&& (7 : Int32)) &&& (1 : Int32)) = (1 : Int32) from c_103)
              unfold cb_X0_branch_107
              unfold cb_X0_branch_112
              refine WP.ite (fun c_108 => absurd c_108 (by decide)) (fun _ => ?_)
              unfold cb_X0_branch_117
              refine WP.bind (cs_X0_offsetB hfu x1 F G hI) ?_
              rintro r109 _ _ ⟨rfl, rfl, hp109⟩
              dsimp only
              unfold cb_X0_branch_125
              refine WP.ite (fun c_110 => ?_) (fun c_110 => ?_)
              · skip
                have q_111 := i_rng (F 2)
                have q_112 := i_rng r109
                first | have e_113 : ((F 2) + r109).toInt = (F 2).toInt + (r109.toInt) := i_addn (F 2) rfl (by omega) (by omega) | have e_114 := i_rng ((F 2) + r109)
                have e_116 := i_and ((F 2) + r109) (m := 3) 2 (by decide) (by decide)
                have l_117 : (0 : Int32).toInt = 0 := rfl
                have e_118 := i_eq.mp (show (((F 2) + r109) &&& (3 : Int32)) = (0 : Int32) from c_110)
                unfold cb_X0_branch_137
                have j_119 : CI (fup F 4 ((F 2) + r109)) G := CI.fr rfl hI
                unfold cb_X0_branch_143
                refine WP.ret ?_
                exact ⟨j_119, (KT.f (by decide) (rfl : KT F F)), (KO.f (by decide) (rfl : KO F F)), trivial⟩
              · skip
                have q_120 := i_rng (F 2)
                have q_121 := i_rng r109
                first | have e_122 : ((F 2) + r109).toInt = (F 2).toInt + (r109.toInt) := i_addn (F 2) rfl (by omega) (by omega) | have e_123 := i_rng ((F 2) + r109)
                have e_125 := i_and ((F 2) + r109) (m := 3) 2 (by decide) (by decide)
                have l_126 : (0 : Int32).toInt = 0 := rfl
                have e_127 := mt i_eq.mpr (show ¬ ((((F 2) + r109) &&& (3 : Int32)) = (0 : Int32)) from c_110)
                unfold cb_X0_branch_135
                refine WP.ret ?_
                exact ⟨hI, (rfl : KT F F), (rfl : KO F F), trivial⟩
            · skip
              have l_128 : (1 : Int32).toInt = 1 := rfl
              have e_130 := i_and (((x1.toUInt32 >>> ((12 : Int32).toUInt32 &&& Int32.toUInt32 31)).toInt32) &&& (7 : Int32)) (m := 1) 1 (by decide) (by decide)
              have e_131 := mt i_eq.mpr (show ¬ (((((x1.toUInt32 >>> ((12 : Int32).toUInt32 &&& Int32.toUInt32 31)).toInt32) &&& (7 : Int32)) &&& (1 : Int32)) = (1 : Int32)) from c_103)
              unfold cb_X0_branch_111
              unfold cb_X0_branch_112
              refine WP.ite (fun _ => ?_) (fun c_132 => absurd (by decide) c_132)
              unfold cb_X0_branch_115
              refine WP.ret ?_
              exact ⟨hI, (rfl : KT F F), (rfl : KO F F), trivial⟩
          · skip
            have q_133 := i_rng (G 1 (((x1.toUInt32 >>> ((20 : Int32).toUInt32 &&& Int32.toUInt32 31)).toInt32) &&& (31 : Int32)).toNatClampNeg)
            have q_134 := i_rng (G 1 (((x1.toUInt32 >>> ((15 : Int32).toUInt32 &&& Int32.toUInt32 31)).toInt32) &&& (31 : Int32)).toNatClampNeg)
            have e_135 := mt i_le.mpr (show ¬ ((G 1 (((x1.toUInt32 >>> ((20 : Int32).toUInt32 &&& Int32.toUInt32 31)).toInt32) &&& (31 : Int32)).toNatClampNeg) ≤ (G 1 (((x1.toUInt32 >>> ((15 : Int32).toUInt32 &&& Int32.toUInt32 31)).toInt32) &&& (31 : Int32)).toNatClampNeg)) from c_99)
            unfold cb_X0_branch_80
            unfold cb_X0_branch_85
            unfold cb_X0_branch_98
            refine WP.ite (fun c_136 => ?_) (fun c_136 => ?_)
            · skip
              have l_137 : (1 : Int32).toInt = 1 := rfl
              have e_139 := i_and (((x1.toUInt32 >>> ((12 : Int32).toUInt32 &&& Int32.toUInt32 31)).toInt32) &&& (7 : Int32)) (m := 1) 1 (by decide) (by decide)
              have e_140 := i_eq.mp (show ((((x1.toUInt32 >>> ((12 : Int32).toUInt32 &&& Int32.toUInt32 31)).toInt32) &&& (7 : Int32)) &&& (1 : Int32)) = (1 : Int32) from c_136)
              unfold cb_X0_branch_107
              unfold cb_X0_branch_112
              refine WP.ite (fun _ => ?_) (fun c_141 => absurd (by decide) c_141)
              unfold cb_X0_branch_115
              refine WP.ret ?_
              exact ⟨hI, (rfl : KT F F), (rfl : KO F F), trivial⟩
            · skip
              have l_142 : (1 : Int32).toInt = 1 := rfl
              have e_144 := i_and (((x1.toUInt32 >>> ((12 : Int32).toUInt32 &&& Int32.toUInt32 31)).toInt32) &&& (7 : Int32)) (m := 1) 1 (by decide) (by decide)
              have e_145 := mt i_eq.mpr (show ¬ (((((x1.toUInt32 >>> ((12 : Int32).toUInt32 &&& Int32.toUInt32 31)).toInt32) &&& (7 : Int32)) &&& (1 : Int32)) = (1 : Int32)) from c_136)
              unfold cb_X0_branch_111
              unfold cb_X0_branch_112
              refine WP.ite (fun c_146 => absurd c_146 (by decide)) (fun _ => ?_)
              unfold cb_X0_branch_117
              refine WP.bind (cs_X0_offsetB hfu x1 F G hI) ?_
              rintro r147 _ _ ⟨rfl, rfl, hp147⟩
              dsimp only
              unfold cb_X0_branch_125
              refine WP.ite (fun c_148 => ?_) (fun c_148 => ?_)
              · skip
                have q_149 := i_rng (F 2)
                have q_150 := i_rng r147
                first | have e_151 : ((F 2) + r147).toInt = (F 2).toInt + (r147.toInt) := i_addn (F 2) rfl (by omega) (by omega) | have e_152 := i_rng ((F 2) + r147)
                have e_154 := i_and ((F 2) + r147) (m := 3) 2 (by decide) (by decide)
                have l_155 : (0 : Int32).toInt = 0 := rfl
                have e_156 := i_eq.mp (show (((F 2) + r147) &&& (3 : Int32)) = (0 : Int32) from c_148)
                unfold cb_X0_branch_137
                have j_157 : CI (fup F 4 ((F 2) + r147)) G := CI.fr rfl hI
                unfold cb_X0_branch_143
                refine WP.ret ?_
                exact ⟨j_157, (KT.f (by decide) (rfl : KT F F)), (KO.f (by decide) (rfl : KO F F)), trivial⟩
              · skip
                have q_158 := i_rng (F 2)
                have q_159 := i_rng r147
                first | have e_160 : ((F 2) + r147).toInt = (F 2).toInt + (r147.toInt) := i_addn (F 2) rfl (by omega) (by omega) | have e_161 := i_rng ((F 2) + r147)
                have e_163 := i_and ((F 2) + r147) (m := 3) 2 (by decide) (by decide)
                have l_164 : (0 : Int32).toInt = 0 := rfl
                have e_165 := mt i_eq.mpr (show ¬ ((((F 2) + r147) &&& (3 : Int32)) = (0 : Int32)) from c_148)
                unfold cb_X0_branch_135
                refine WP.ret ?_
                exact ⟨hI, (rfl : KT F F), (rfl : KO F F), trivial⟩
      · skip
        have e_166 := mt i_le.mpr (show ¬ ((2 : Int32) ≤ (((x1.toUInt32 >>> ((12 : Int32).toUInt32 &&& Int32.toUInt32 31)).toInt32) &&& (7 : Int32))) from c_35)
        unfold cb_X0_branch_52
        refine WP.ite (fun c_167 => ?_) (fun c_167 => ?_)
        · skip
          have q_168 := i_rng (G 1 (((x1.toUInt32 >>> ((15 : Int32).toUInt32 &&& Int32.toUInt32 31)).toInt32) &&& (31 : Int32)).toNatClampNeg)
          have q_169 := i_rng (G 1 (((x1.toUInt32 >>> ((20 : Int32).toUInt32 &&& Int32.toUInt32 31)).toInt32) &&& (31 : Int32)).toNatClampNeg)
          have e_170 := i_eq.mp (show (G 1 (((x1.toUInt32 >>> ((15 : Int32).toUInt32 &&& Int32.toUInt32 31)).toInt32) &&& (31 : Int32)).toNatClampNeg) = (G 1 (((x1.toUInt32 >>> ((20 : Int32).toUInt32 &&& Int32.toUInt32 31)).toInt32) &&& (31 : Int32)).toNatClampNeg) from c_167)
          unfold cb_X0_branch_58
          unfold cb_X0_branch_63
          unfold cb_X0_branch_98
          refine WP.ite (fun c_171 => ?_) (fun c_171 => ?_)
          · skip
            have l_172 : (1 : Int32).toInt = 1 := rfl
            have e_174 := i_and (((x1.toUInt32 >>> ((12 : Int32).toUInt32 &&& Int32.toUInt32 31)).toInt32) &&& (7 : Int32)) (m := 1) 1 (by decide) (by decide)
            have e_175 := i_eq.mp (show ((((x1.toUInt32 >>> ((12 : Int32).toUInt32 &&& Int32.toUInt32 31)).toInt32) &&& (7 : Int32)) &&& (1 : Int32)) = (1 : Int32) from c_171)
            unfold cb_X0_branch_107
            unfold cb_X0_branch_112
            refine WP.ite (fun _ => ?_) (fun c_176 => absurd (by decide) c_176)
            unfold cb_X0_branch_115
            refine WP.ret ?_
            exact ⟨hI, (rfl : KT F F), (rfl : KO F F), trivial⟩
          · skip
            have l_177 : (1 : Int32).toInt = 1 := rfl
            have e_179 := i_and (((x1.toUInt32 >>> ((12 : Int32).toUInt32 &&& Int32.toUInt32 31)).toInt32) &&& (7 : Int32)) (m := 1) 1 (by decide) (by decide)
            have e_180 := mt i_eq.mpr (show ¬ (((((x1.toUInt32 >>> ((12 : Int32).toUInt32 &&& Int32.toUInt32 31)).toInt32) &&& (7 : Int32)) &&& (1 : Int32)) = (1 : Int32)) from c_171)
            unfold cb_X0_branch_111
            unfold cb_X0_branch_112
            refine WP.ite (fun c_181 => absurd c_181 (by decide)) (fun _ => ?_)
            unfold cb_X0_branch_117
            refine WP.bind (cs_X0_offsetB hfu x1 F G hI) ?_
            rintro r182 _ _ ⟨rfl, rfl, hp182⟩
            dsimp only
            unfold cb_X0_branch_125
            refine WP.ite (fun c_183 => ?_) (fun c_183 => ?_)
            · skip
              have q_184 := i_rng (F 2)
              have q_185 := i_rng r182
              first | have e_186 : ((F 2) + r182).toInt = (F 2).toInt + (r182.toInt) := i_addn (F 2) rfl (by omega) (by omega) | have e_187 := i_rng ((F 2) + r182)
              have e_189 := i_and ((F 2) + r182) (m := 3) 2 (by decide) (by decide)
              have l_190 : (0 : Int32).toInt = 0 := rfl
              have e_191 := i_eq.mp (show (((F 2) + r182) &&& (3 : Int32)) = (0 : Int32) from c_183)
              unfold cb_X0_branch_137
              have j_192 : CI (fup F 4 ((F 2) + r182)) G := CI.fr rfl hI
              unfold cb_X0_branch_143
              refine WP.ret ?_
              exact ⟨j_192, (KT.f (by decide) (rfl : KT F F)), (KO.f (by decide) (rfl : KO F F)), trivial⟩
            · skip
              have q_193 := i_rng (F 2)
              have q_194 := i_rng r182
              first | have e_195 : ((F 2) + r182).toInt = (F 2).toInt + (r182.toInt) := i_addn (F 2) rfl (by omega) (by omega) | have e_196 := i_rng ((F 2) + r182)
              have e_198 := i_and ((F 2) + r182) (m := 3) 2 (by decide) (by decide)
              have l_199 : (0 : Int32).toInt = 0 := rfl
              have e_200 := mt i_eq.mpr (show ¬ ((((F 2) + r182) &&& (3 : Int32)) = (0 : Int32)) from c_183)
              unfold cb_X0_branch_135
              refine WP.ret ?_
              exact ⟨hI, (rfl : KT F F), (rfl : KO F F), trivial⟩
        · skip
          have q_201 := i_rng (G 1 (((x1.toUInt32 >>> ((15 : Int32).toUInt32 &&& Int32.toUInt32 31)).toInt32) &&& (31 : Int32)).toNatClampNeg)
          have q_202 := i_rng (G 1 (((x1.toUInt32 >>> ((20 : Int32).toUInt32 &&& Int32.toUInt32 31)).toInt32) &&& (31 : Int32)).toNatClampNeg)
          have e_203 := mt i_eq.mpr (show ¬ ((G 1 (((x1.toUInt32 >>> ((15 : Int32).toUInt32 &&& Int32.toUInt32 31)).toInt32) &&& (31 : Int32)).toNatClampNeg) = (G 1 (((x1.toUInt32 >>> ((20 : Int32).toUInt32 &&& Int32.toUInt32 31)).toInt32) &&& (31 : Int32)).toNatClampNeg)) from c_167)
          unfold cb_X0_branch_62
          unfold cb_X0_branch_63
          unfold cb_X0_branch_98
          refine WP.ite (fun c_204 => ?_) (fun c_204 => ?_)
          · skip
            have l_205 : (1 : Int32).toInt = 1 := rfl
            have e_207 := i_and (((x1.toUInt32 >>> ((12 : Int32).toUInt32 &&& Int32.toUInt32 31)).toInt32) &&& (7 : Int32)) (m := 1) 1 (by decide) (by decide)
            have e_208 := i_eq.mp (show ((((x1.toUInt32 >>> ((12 : Int32).toUInt32 &&& Int32.toUInt32 31)).toInt32) &&& (7 : Int32)) &&& (1 : Int32)) = (1 : Int32) from c_204)
            unfold cb_X0_branch_107
            unfold cb_X0_branch_112
            refine WP.ite (fun c_209 => absurd c_209 (by decide)) (fun _ => ?_)
            unfold cb_X0_branch_117
            refine WP.bind (cs_X0_offsetB hfu x1 F G hI) ?_
            rintro r210 _ _ ⟨rfl, rfl, hp210⟩
            dsimp only
            unfold cb_X0_branch_125
            refine WP.ite (fun c_211 => ?_) (fun c_211 => ?_)
            · skip
              have q_212 := i_rng (F 2)
              have q_213 := i_rng r210
              first | have e_214 : ((F 2) + r210).toInt = (F 2).toInt + (r210.toInt) := i_addn (F 2) rfl (by omega) (by omega) | have e_215 := i_rng ((F 2) + r210)
              have e_217 := i_and ((F 2) + r210) (m := 3) 2 (by decide) (by decide)
              have l_218 : (0 : Int32).toInt = 0 := rfl
              have e_219 := i_eq.mp (show (((F 2) + r210) &&& (3 : Int32)) = (0 : Int32) from c_211)
              unfold cb_X0_branch_137
              have j_220 : CI (fup F 4 ((F 2) + r210)) G := CI.fr rfl hI
              unfold cb_X0_branch_143
              refine WP.ret ?_
              exact ⟨j_220, (KT.f (by decide) (rfl : KT F F)), (KO.f (by decide) (rfl : KO F F)), trivial⟩
            · skip
              have q_221 := i_rng (F 2)
              have q_222 := i_rng r210
              first | have e_223 : ((F 2) + r210).toInt = (F 2).toInt + (r210.toInt) := i_addn (F 2) rfl (by omega) (by omega) | have e_224 := i_rng ((F 2) + r210)
              have e_226 := i_and ((F 2) + r210) (m := 3) 2 (by decide) (by decide)
              have l_227 : (0 : Int32).toInt = 0 := rfl
              have e_228 := mt i_eq.mpr (show ¬ ((((F 2) + r210) &&& (3 : Int32)) = (0 : Int32)) from c_211)
              unfold cb_X0_branch_135
              refine WP.ret ?_
              exact ⟨hI, (rfl : KT F F), (rfl : KO F F), trivial⟩
          · skip
            have l_229 : (1 : Int32).toInt = 1 := rfl
            have e_231 := i_and (((x1.toUInt32 >>> ((12 : Int32).toUInt32 &&& Int32.toUInt32 31)).toInt32) &&& (7 : Int32)) (m := 1) 1 (by decide) (by decide)
            have e_232 := mt i_eq.mpr (show ¬ (((((x1.toUInt32 >>> ((12 : Int32).toUInt32 &&& Int32.toUInt32 31)).toInt32) &&& (7 : Int32)) &&& (1 : Int32)) = (1 : Int32)) from c_204)
            unfold cb_X0_branch_111
            unfold cb_X0_branch_112
            refine WP.ite (fun _ => ?_) (fun c_233 => absurd (by decide) c_233)
            unfold cb_X0_branch_115
            refine WP.ret ?_
            exact ⟨hI, (rfl : KT F F), (rfl : KO F F), trivial⟩
theorem cs_X0_load {fu : Nat} (hfu : 8589934592 ≤ fu) (x1 : Int32) (F : PF) (G : PG) (hI : CI F G) : WP (cf_X0_load fu x1 F G) (fun r' F' G' => CI F' G' ∧ KT F F' ∧ KO F F' ∧ True) := by
  unfold cf_X0_load
  unfold cb_X0_load_0
  refine WP.ite (fun c_1 => ?_) (fun c_1 => ?_)
  · skip
    have q_2 := i_rng x1
    have l_3 : (12 : Int32).toInt = 12 := rfl
    have q_5 := i_rng ((x1.toUInt32 >>> ((12 : Int32).toUInt32 &&& Int32.toUInt32 31)).toInt32)
    have l_6 : (7 : Int32).toInt = 7 := rfl
    have e_8 := i_and ((x1.toUInt32 >>> ((12 : Int32).toUInt32 &&& Int32.toUInt32 31)).toInt32) (m := 7) 3 (by decide) (by decide)
    have l_9 : (3 : Int32).toInt = 3 := rfl
    have e_10 := i_eq.mp (show (((x1.toUInt32 >>> ((12 : Int32).toUInt32 &&& Int32.toUInt32 31)).toInt32) &&& (7 : Int32)) = (3 : Int32) from c_1)
    unfold cb_X0_load_18
    refine WP.ret ?_
    exact ⟨hI, (rfl : KT F F), (rfl : KO F F), trivial⟩
  · skip
    have q_11 := i_rng x1
    have l_12 : (12 : Int32).toInt = 12 := rfl
    have q_14 := i_rng ((x1.toUInt32 >>> ((12 : Int32).toUInt32 &&& Int32.toUInt32 31)).toInt32)
    have l_15 : (7 : Int32).toInt = 7 := rfl
    have e_17 := i_and ((x1.toUInt32 >>> ((12 : Int32).toUInt32 &&& Int32.toUInt32 31)).toInt32) (m := 7) 3 (by decide) (by decide)
    have l_18 : (3 : Int32).toInt = 3 := rfl
    have e_19 := mt i_eq.mpr (show ¬ ((((x1.toUInt32 >>> ((12 : Int32).toUInt32 &&& Int32.toUInt32 31)).toInt32) &&& (7 : Int32)) = (3 : Int32)) from c_1)
    unfold cb_X0_load_13
    refine WP.ite (fun c_20 => ?_) (fun c_20 => ?_)
    · skip
      have l_21 : (5 : Int32).toInt = 5 := rfl
      have e_22 := i_le.mp (show (((x1.toUInt32 >>> ((12 : Int32).toUInt32 &&& Int32.toUInt32 31)).toInt32) &&& (7 : Int32)) ≤ (5 : Int32) from c_20)
      unfold cb_X0_load_20
      have l_23 : (15 : Int32).toInt = 15 := rfl
      have q_25 := i_rng ((x1.toUInt32 >>> ((15 : Int32).toUInt32 &&& Int32.toUInt32 31)).toInt32)
      have l_26 : (31 : Int32).toInt = 31 := rfl
      have e_28 := i_and ((x1.toUInt32 >>> ((15 : Int32).toUInt32 &&& Int32.toUInt32 31)).toInt32) (m := 31) 5 (by decide) (by decide)
      refine WP.ix (show vp_in (((x1.toUInt32 >>> ((15 : Int32).toUInt32 &&& Int32.toUInt32 31)).toInt32) &&& (31 : Int32)) 32 from vp_in_iff.mpr ⟨by omega, by omega⟩) ?_
      have q_29 := i_rng (G 1 (((x1.toUInt32 >>> ((15 : Int32).toUInt32 &&& Int32.toUInt32 31)).toInt32) &&& (31 : Int32)).toNatClampNeg)
      have l_30 : (20 : Int32).toInt = 20 := rfl
      have e_32 : ((x1 >>> ((20 : Int32) &&& 31))).toInt = x1.toInt / 1048576 := i_shr 20 (by decide)
      first | have e_33 : ((G 1 (((x1.toUInt32 >>> ((15 : Int32).toUInt32 &&& Int32.toUInt32 31)).toInt32) &&& (31 : Int32)).toNatClampNeg) + (x1 >>> ((20 : Int32) &&& 31))).toInt = (G 1 (((x1.toUInt32 >>> ((15 : Int32).toUInt32 &&& Int32.toUInt32 31)).toInt32) &&& (31 : Int32)).toNatClampNeg).toInt + ((x1 >>> ((20 : Int32) &&& 31)).toInt) := i_addn (G 1 (((x1.toUInt32 >>> ((15 : Int32).toUInt32 &&& Int32.toUInt32 31)).toInt32) &&& (31 : Int32)).toNatClampNeg) rfl (by omega) (by omega) | have e_34 := i_rng ((G 1 (((x1.toUInt32 >>> ((15 : Int32).toUInt32 &&& Int32.toUInt32 31)).toInt32) &&& (31 : Int32)).toNatClampNeg) + (x1 >>> ((20 : Int32) &&& 31)))
      have l_35 : (1 : Int32).toInt = 1 := rfl
      have e_37 := i_and (((x1.toUInt32 >>> ((12 : Int32).toUInt32 &&& Int32.toUInt32 31)).toInt32) &&& (7 : Int32)) (m := 3) 2 (by decide) (by decide)
      have e_39 := i_shl1 (s := ((((x1.toUInt32 >>> ((12 : Int32).toUInt32 &&& Int32.toUInt32 31)).toInt32) &&& (7 : Int32)) &&& (3 : Int32))) ⟨by omega, by omega⟩
      refine WP.bind (cs_X0_reach hfu ((G 1 (((x1.toUInt32 >>> ((15 : Int32).toUInt32 &&& Int32.toUInt32 31)).toInt32) &&& (31 : Int32)).toNatClampNeg) + (x1 >>> ((20 : Int32) &&& 31))) ((1 : Int32) <<< (((((x1.toUInt32 >>> ((12 : Int32).toUInt32 &&& Int32.toUInt32 31)).toInt32) &&& (7 : Int32)) &&& (3 : Int32)) &&& 31)) F G hI (show 1 ≤ ((1 : Int32) <<< (((((x1.toUInt32 >>> ((12 : Int32).toUInt32 &&& Int32.toUInt32 31)).toInt32) &&& (7 : Int32)) &&& (3 : Int32)) &&& 31)).toInt by omega) (show ((1 : Int32) <<< (((((x1.toUInt32 >>> ((12 : Int32).toUInt32 &&& Int32.toUInt32 31)).toInt32) &&& (7 : Int32)) &&& (3 : Int32)) &&& 31)).toInt ≤ 8 by omega)) ?_
      rintro r40 _ _ ⟨rfl, rfl, hp40⟩
      dsimp only
      have q_41 := i_rng r40
      unfold cb_X0_load_51
      refine WP.ite (fun c_42 => ?_) (fun c_42 => ?_)
      · skip
        have l_43 : (0 : Int32).toInt = 0 := rfl
        have e_44 := i_eq.mp (show r40 = (0 : Int32) from c_42)
        unfold cb_X0_load_61
        have l_45 : (2 : Int32).toInt = 2 := rfl
        have e_47 : ((((G 1 (((x1.toUInt32 >>> ((15 : Int32).toUInt32 &&& Int32.toUInt32 31)).toInt32) &&& (31 : Int32)).toNatClampNeg) + (x1 >>> ((20 : Int32) &&& 31))) >>> ((2 : Int32) &&& 31))).toInt = ((G 1 (((x1.toUInt32 >>> ((15 : Int32).toUInt32 &&& Int32.toUInt32 31)).toInt32) &&& (31 : Int32)).toNatClampNeg) + (x1 >>> ((20 : Int32) &&& 31))).toInt / 4 := i_shr 2 (by decide)
        refine WP.ix (show vp_in (((G 1 (((x1.toUInt32 >>> ((15 : Int32).toUInt32 &&& Int32.toUInt32 31)).toInt32) &&& (31 : Int32)).toNatClampNeg) + (x1 >>> ((20 : Int32) &&& 31))) >>> ((2 : Int32) &&& 31)) 4096 from vp_in_iff.mpr ⟨by omega, by omega⟩) ?_
        refine WP.ite (fun c_48 => ?_) (fun c_48 => ?_)
        · skip
          have l_49 : (4 : Int32).toInt = 4 := rfl
          have e_50 := i_le.mp (show (4 : Int32) ≤ (((x1.toUInt32 >>> ((12 : Int32).toUInt32 &&& Int32.toUInt32 31)).toInt32) &&& (7 : Int32)) from c_48)
          unfold cb_X0_load_113
          unfold cb_X0_load_118
          have q_52 := i_rng ((x1.toUInt32 >>> ((7 : Int32).toUInt32 &&& Int32.toUInt32 31)).toInt32)
          have e_54 := i_and ((x1.toUInt32 >>> ((7 : Int32).toUInt32 &&& Int32.toUInt32 31)).toInt32) (m := 31) 5 (by decide) (by decide)
          have q_55 := i_rng (G 0 (((G 1 (((x1.toUInt32 >>> ((15 : Int32).toUInt32 &&& Int32.toUInt32 31)).toInt32) &&& (31 : Int32)).toNatClampNeg) + (x1 >>> ((20 : Int32) &&& 31))) >>> ((2 : Int32) &&& 31)).toNatClampNeg)
          have e_57 := i_and ((G 1 (((x1.toUInt32 >>> ((15 : Int32).toUInt32 &&& Int32.toUInt32 31)).toInt32) &&& (31 : Int32)).toNatClampNeg) + (x1 >>> ((20 : Int32) &&& 31))) (m := 3) 2 (by decide) (by decide)
          have l_58 : (8 : Int32).toInt = 8 := rfl
          have q_60 := i_rng ((((G 1 (((x1.toUInt32 >>> ((15 : Int32).toUInt32 &&& Int32.toUInt32 31)).toInt32) &&& (31 : Int32)).toNatClampNeg) + (x1 >>> ((20 : Int32) &&& 31))) &&& (3 : Int32)) * (8 : Int32))
          have q_62 := i_rng (((G 0 (((G 1 (((x1.toUInt32 >>> ((15 : Int32).toUInt32 &&& Int32.toUInt32 31)).toInt32) &&& (31 : Int32)).toNatClampNeg) + (x1 >>> ((20 : Int32) &&& 31))) >>> ((2 : Int32) &&& 31)).toNatClampNeg).toUInt32 >>> (((((G 1 (((x1.toUInt32 >>> ((15 : Int32).toUInt32 &&& Int32.toUInt32 31)).toInt32) &&& (31 : Int32)).toNatClampNeg) + (x1 >>> ((20 : Int32) &&& 31))) &&& (3 : Int32)) * (8 : Int32)).toUInt32 &&& Int32.toUInt32 31)).toInt32)
          have l_63 : (32 : Int32).toInt = 32 := rfl
          have q_65 := i_rng (((1 : Int32) <<< (((((x1.toUInt32 >>> ((12 : Int32).toUInt32 &&& Int32.toUInt32 31)).toInt32) &&& (7 : Int32)) &&& (3 : Int32)) &&& 31)) * (8 : Int32))
          first | have e_66 : ((32 : Int32) - (((1 : Int32) <<< (((((x1.toUInt32 >>> ((12 : Int32).toUInt32 &&& Int32.toUInt32 31)).toInt32) &&& (7 : Int32)) &&& (3 : Int32)) &&& 31)) * (8 : Int32))).toInt = (32 : Int32).toInt - ((((1 : Int32) <<< (((((x1.toUInt32 >>> ((12 : Int32).toUInt32 &&& Int32.toUInt32 31)).toInt32) &&& (7 : Int32)) &&& (3 : Int32)) &&& 31)) * (8 : Int32)).toInt) := i_subn (32 : Int32) rfl (by omega) (by omega) | have e_67 := i_rng ((32 : Int32) - (((1 : Int32) <<< (((((x1.toUInt32 >>> ((12 : Int32).toUInt32 &&& Int32.toUInt32 31)).toInt32) &&& (7 : Int32)) &&& (3 : Int32)) &&& 31)) * (8 : Int32)))
          have q_69 := i_rng ((((G 0 (((G 1 (((x1.toUInt32 >>> ((15 : Int32).toUInt32 &&& Int32.toUInt32 31)).toInt32) &&& (31 : Int32)).toNatClampNeg) + (x1 >>> ((20 : Int32) &&& 31))) >>> ((2 : Int32) &&& 31)).toNatClampNeg).toUInt32 >>> (((((G 1 (((x1.toUInt32 >>> ((15 : Int32).toUInt32 &&& Int32.toUInt32 31)).toInt32) &&& (31 : Int32)).toNatClampNeg) + (x1 >>> ((20 : Int32) &&& 31))) &&& (3 : Int32)) * (8 : Int32)).toUInt32 &&& Int32.toUInt32 31)).toInt32) <<< (((32 : Int32) - (((1 : Int32) <<< (((((x1.toUInt32 >>> ((12 : Int32).toUInt32 &&& Int32.toUInt32 31)).toInt32) &&& (7 : Int32)) &&& (3 : Int32)) &&& 31)) * (8 : Int32))) &&& 31))
          have q_71 := i_rng ((((((G 0 (((G 1 (((x1.toUInt32 >>> ((15 : Int32).toUInt32 &&& Int32.toUInt32 31)).toInt32) &&& (31 : Int32)).toNatClampNeg) + (x1 >>> ((20 : Int32) &&& 31))) >>> ((2 : Int32) &&& 31)).toNatClampNeg).toUInt32 >>> (((((G 1 (((x1.toUInt32 >>> ((15 : Int32).toUInt32 &&& Int32.toUInt32 31)).toInt32) &&& (31 : Int32)).toNatClampNeg) + (x1 >>> ((20 : Int32) &&& 31))) &&& (3 : Int32)) * (8 : Int32)).toUInt32 &&& Int32.toUInt32 31)).toInt32) <<< (((32 : Int32) - (((1 : Int32) <<< (((((x1.toUInt32 >>> ((12 : Int32).toUInt32 &&& Int32.toUInt32 31)).toInt32) &&& (7 : Int32)) &&& (3 : Int32)) &&& 31)) * (8 : Int32))) &&& 31)).toUInt32 >>> (((32 : Int32) - (((1 : Int32) <<< (((((x1.toUInt32 >>> ((12 : Int32).toUInt32 &&& Int32.toUInt32 31)).toInt32) &&& (7 : Int32)) &&& (3 : Int32)) &&& 31)) * (8 : Int32))).toUInt32 &&& Int32.toUInt32 31)).toInt32)
          refine WP.bind (cs_X0_keep hfu (((x1.toUInt32 >>> ((7 : Int32).toUInt32 &&& Int32.toUInt32 31)).toInt32) &&& (31 : Int32)) ((((((G 0 (((G 1 (((x1.toUInt32 >>> ((15 : Int32).toUInt32 &&& Int32.toUInt32 31)).toInt32) &&& (31 : Int32)).toNatClampNeg) + (x1 >>> ((20 : Int32) &&& 31))) >>> ((2 : Int32) &&& 31)).toNatClampNeg).toUInt32 >>> (((((G 1 (((x1.toUInt32 >>> ((15 : Int32).toUInt32 &&& Int32.toUInt32 31)).toInt32) &&& (31 : Int32)).toNatClampNeg) + (x1 >>> ((20 : Int32) &&& 31))) &&& (3 : Int32)) * (8 : Int32)).toUInt32 &&& Int32.toUInt32 31)).toInt32) <<< (((32 : Int32) - (((1 : Int32) <<< (((((x1.toUInt32 >>> ((12 : Int32).toUInt32 &&& Int32.toUInt32 31)).toInt32) &&& (7 : Int32)) &&& (3 : Int32)) &&& 31)) * (8 : Int32))) &&& 31)).toUInt32 >>> (((32 : Int32) - (((1 : Int32) <<< (((((x1.toUInt32 >>> ((12 : Int32).toUInt32 &&& Int32.toUInt32 31)).toInt32) &&& (7 : Int32)) &&& (3 : Int32)) &&& 31)) * (8 : Int32))).toUInt32 &&& Int32.toUInt32 31)).toInt32) F G hI) ?_
          rintro r72 F72 G72 ⟨hI72, hT72, hO72, hp72⟩
          dsimp only
          have q_73 := hI.r 10 rfl
          have q_74 := hI72.r 10 rfl
          have e_75 : (F72 10).toInt = (F 10).toInt := hO72
          unfold cb_X0_load_121
          refine WP.ret ?_
          exact ⟨hI72, (KT.tr (rfl : KT F F) hT72), (KO.tr (rfl : KO F F) hO72), trivial⟩
        · skip
          have l_76 : (4 : Int32).toInt = 4 := rfl
          have e_77 := mt i_le.mpr (show ¬ ((4 : Int32) ≤ (((x1.toUInt32 >>> ((12 : Int32).toUInt32 &&& Int32.toUInt32 31)).toInt32) &&& (7 : Int32))) from c_48)
          unfold cb_X0_load_105
          unfold cb_X0_load_118
          have q_79 := i_rng ((x1.toUInt32 >>> ((7 : Int32).toUInt32 &&& Int32.toUInt32 31)).toInt32)
          have e_81 := i_and ((x1.toUInt32 >>> ((7 : Int32).toUInt32 &&& Int32.toUInt32 31)).toInt32) (m := 31) 5 (by decide) (by decide)
          have q_82 := i_rng (G 0 (((G 1 (((x1.toUInt32 >>> ((15 : Int32).toUInt32 &&& Int32.toUInt32 31)).toInt32) &&& (31 : Int32)).toNatClampNeg) + (x1 >>> ((20 : Int32) &&& 31))) >>> ((2 : Int32) &&& 31)).toNatClampNeg)
          have e_84 := i_and ((G 1 (((x1.toUInt32 >>> ((15 : Int32).toUInt32 &&& Int32.toUInt32 31)).toInt32) &&& (31 : Int32)).toNatClampNeg) + (x1 >>> ((20 : Int32) &&& 31))) (m := 3) 2 (by decide) (by decide)
          have l_85 : (8 : Int32).toInt = 8 := rfl
          have q_87 := i_rng ((((G 1 (((x1.toUInt32 >>> ((15 : Int32).toUInt32 &&& Int32.toUInt32 31)).toInt32) &&& (31 : Int32)).toNatClampNeg) + (x1 >>> ((20 : Int32) &&& 31))) &&& (3 : Int32)) * (8 : Int32))
          have q_89 := i_rng (((G 0 (((G 1 (((x1.toUInt32 >>> ((15 : Int32).toUInt32 &&& Int32.toUInt32 31)).toInt32) &&& (31 : Int32)).toNatClampNeg) + (x1 >>> ((20 : Int32) &&& 31))) >>> ((2 : Int32) &&& 31)).toNatClampNeg).toUInt32 >>> (((((G 1 (((x1.toUInt32 >>> ((15 : Int32).toUInt32 &&& Int32.toUInt32 31)).toInt32) &&& (31 : Int32)).toNatClampNeg) + (x1 >>> ((20 : Int32) &&& 31))) &&& (3 : Int32)) * (8 : Int32)).toUInt32 &&& Int32.toUInt32 31)).toInt32)
          have l_90 : (32 : Int32).toInt = 32 := rfl
          have q_92 := i_rng (((1 : Int32) <<< (((((x1.toUInt32 >>> ((12 : Int32).toUInt32 &&& Int32.toUInt32 31)).toInt32) &&& (7 : Int32)) &&& (3 : Int32)) &&& 31)) * (8 : Int32))
          first | have e_93 : ((32 : Int32) - (((1 : Int32) <<< (((((x1.toUInt32 >>> ((12 : Int32).toUInt32 &&& Int32.toUInt32 31)).toInt32) &&& (7 : Int32)) &&& (3 : Int32)) &&& 31)) * (8 : Int32))).toInt = (32 : Int32).toInt - ((((1 : Int32) <<< (((((x1.toUInt32 >>> ((12 : Int32).toUInt32 &&& Int32.toUInt32 31)).toInt32) &&& (7 : Int32)) &&& (3 : Int32)) &&& 31)) * (8 : Int32)).toInt) := i_subn (32 : Int32) rfl (by omega) (by omega) | have e_94 := i_rng ((32 : Int32) - (((1 : Int32) <<< (((((x1.toUInt32 >>> ((12 : Int32).toUInt32 &&& Int32.toUInt32 31)).toInt32) &&& (7 : Int32)) &&& (3 : Int32)) &&& 31)) * (8 : Int32)))
          have q_96 := i_rng ((((G 0 (((G 1 (((x1.toUInt32 >>> ((15 : Int32).toUInt32 &&& Int32.toUInt32 31)).toInt32) &&& (31 : Int32)).toNatClampNeg) + (x1 >>> ((20 : Int32) &&& 31))) >>> ((2 : Int32) &&& 31)).toNatClampNeg).toUInt32 >>> (((((G 1 (((x1.toUInt32 >>> ((15 : Int32).toUInt32 &&& Int32.toUInt32 31)).toInt32) &&& (31 : Int32)).toNatClampNeg) + (x1 >>> ((20 : Int32) &&& 31))) &&& (3 : Int32)) * (8 : Int32)).toUInt32 &&& Int32.toUInt32 31)).toInt32) <<< (((32 : Int32) - (((1 : Int32) <<< (((((x1.toUInt32 >>> ((12 : Int32).toUInt32 &&& Int32.toUInt32 31)).toInt32) &&& (7 : Int32)) &&& (3 : Int32)) &&& 31)) * (8 : Int32))) &&& 31))
          have q_98 := i_rng (((((G 0 (((G 1 (((x1.toUInt32 >>> ((15 : Int32).toUInt32 &&& Int32.toUInt32 31)).toInt32) &&& (31 : Int32)).toNatClampNeg) + (x1 >>> ((20 : Int32) &&& 31))) >>> ((2 : Int32) &&& 31)).toNatClampNeg).toUInt32 >>> (((((G 1 (((x1.toUInt32 >>> ((15 : Int32).toUInt32 &&& Int32.toUInt32 31)).toInt32) &&& (31 : Int32)).toNatClampNeg) + (x1 >>> ((20 : Int32) &&& 31))) &&& (3 : Int32)) * (8 : Int32)).toUInt32 &&& Int32.toUInt32 31)).toInt32) <<< (((32 : Int32) - (((1 : Int32) <<< (((((x1.toUInt32 >>> ((12 : Int32).toUInt32 &&& Int32.toUInt32 31)).toInt32) &&& (7 : Int32)) &&& (3 : Int32)) &&& 31)) * (8 : Int32))) &&& 31)) >>> (((32 : Int32) - (((1 : Int32) <<< (((((x1.toUInt32 >>> ((12 : Int32).toUInt32 &&& Int32.toUInt32 31)).toInt32) &&& (7 : Int32)) &&& (3 : Int32)) &&& 31)) * (8 : Int32))) &&& 31))
          refine WP.bind (cs_X0_keep hfu (((x1.toUInt32 >>> ((7 : Int32).toUInt32 &&& Int32.toUInt32 31)).toInt32) &&& (31 : Int32)) (((((G 0 (((G 1 (((x1.toUInt32 >>> ((15 : Int32).toUInt32 &&& Int32.toUInt32 31)).toInt32) &&& (31 : Int32)).toNatClampNeg) + (x1 >>> ((20 : Int32) &&& 31))) >>> ((2 : Int32) &&& 31)).toNatClampNeg).toUInt32 >>> (((((G 1 (((x1.toUInt32 >>> ((15 : Int32).toUInt32 &&& Int32.toUInt32 31)).toInt32) &&& (31 : Int32)).toNatClampNeg) + (x1 >>> ((20 : Int32) &&& 31))) &&& (3 : Int32)) * (8 : Int32)).toUInt32 &&& Int32.toUInt32 31)).toInt32) <<< (((32 : Int32) - (((1 : Int32) <<< (((((x1.toUInt32 >>> ((12 : Int32).toUInt32 &&& Int32.toUInt32 31)).toInt32) &&& (7 : Int32)) &&& (3 : Int32)) &&& 31)) * (8 : Int32))) &&& 31)) >>> (((32 : Int32) - (((1 : Int32) <<< (((((x1.toUInt32 >>> ((12 : Int32).toUInt32 &&& Int32.toUInt32 31)).toInt32) &&& (7 : Int32)) &&& (3 : Int32)) &&& 31)) * (8 : Int32))) &&& 31)) F G hI) ?_
          rintro r99 F99 G99 ⟨hI99, hT99, hO99, hp99⟩
          dsimp only
          have q_100 := hI.r 10 rfl
          have q_101 := hI99.r 10 rfl
          have e_102 : (F99 10).toInt = (F 10).toInt := hO99
          unfold cb_X0_load_121
          refine WP.ret ?_
          exact ⟨hI99, (KT.tr (rfl : KT F F) hT99), (KO.tr (rfl : KO F F) hO99), trivial⟩
      · skip
        have l_103 : (0 : Int32).toInt = 0 := rfl
        have e_104 := mt i_eq.mpr (show ¬ (r40 = (0 : Int32)) from c_42)
        unfold cb_X0_load_58
        refine WP.ret ?_
        exact ⟨hI, (rfl : KT F F), (rfl : KO F F), trivial⟩
    · skip
      have l_105 : (5 : Int32).toInt = 5 := rfl
      have e_106 := mt i_le.mpr (show ¬ ((((x1.toUInt32 >>> ((12 : Int32).toUInt32 &&& Int32.toUInt32 31)).toInt32) &&& (7 : Int32)) ≤ (5 : Int32)) from c_20)
      unfold cb_X0_load_18
      refine WP.ret ?_
      exact ⟨hI, (rfl : KT F F), (rfl : KO F F), trivial⟩
theorem cs_X0_does {fu : Nat} (hfu : 8589934592 ≤ fu) (x1 : Int32) (F : PF) (G : PG) (hI : CI F G) : WP (cf_X0_does fu x1 F G) (fun r' F' G' => CI F' G' ∧ KT F F' ∧ KO F F' ∧ True) := by
  unfold cf_X0_does
  unfold cb_X0_does_0
  refine WP.ite (fun c_1 => ?_) (fun c_1 => ?_)
  · skip
    have q_2 := i_rng x1
    have l_3 : (127 : Int32).toInt = 127 := rfl
    have e_5 := i_and x1 (m := 127) 7 (by decide) (by decide)
    have l_6 : (3 : Int32).toInt = 3 := rfl
    have e_7 := i_eq.mp (show (x1 &&& (127 : Int32)) = (3 : Int32) from c_1)
    unfold cb_X0_does_210
    refine WP.bind (cs_X0_load hfu x1 F G hI) ?_
    rintro r8 F8 G8 ⟨hI8, hT8, hO8, hp8⟩
    dsimp only
    have q_9 := hI.r 10 rfl
    have q_10 := hI8.r 10 rfl
    have e_11 : (F8 10).toInt = (F 10).toInt := hO8
    unfold cb_X0_does_215
    refine WP.ret ?_
    exact ⟨hI8, (KT.tr (rfl : KT F F) hT8), (KO.tr (rfl : KO F F) hO8), trivial⟩
  have q_12 := i_rng x1
  have l_13 : (127 : Int32).toInt = 127 := rfl
  have e_15 := i_and x1 (m := 127) 7 (by decide) (by decide)
  have l_16 : (3 : Int32).toInt = 3 := rfl
  have e_17 := mt i_eq.mpr (show ¬ ((x1 &&& (127 : Int32)) = (3 : Int32)) from c_1)
  refine WP.ite (fun c_18 => ?_) (fun c_18 => ?_)
  · skip
    have l_19 : (15 : Int32).toInt = 15 := rfl
    have e_20 := i_eq.mp (show (x1 &&& (127 : Int32)) = (15 : Int32) from c_18)
    unfold cb_X0_does_234
    refine WP.ite (fun c_21 => ?_) (fun c_21 => ?_)
    · skip
      have l_22 : (12 : Int32).toInt = 12 := rfl
      have q_24 := i_rng ((x1.toUInt32 >>> ((12 : Int32).toUInt32 &&& Int32.toUInt32 31)).toInt32)
      have l_25 : (7 : Int32).toInt = 7 := rfl
      have e_27 := i_and ((x1.toUInt32 >>> ((12 : Int32).toUInt32 &&& Int32.toUInt32 31)).toInt32) (m := 7) 3 (by decide) (by decide)
      have l_28 : (0 : Int32).toInt = 0 := rfl
      have e_29 := i_eq.mp (show (((x1.toUInt32 >>> ((12 : Int32).toUInt32 &&& Int32.toUInt32 31)).toInt32) &&& (7 : Int32)) = (0 : Int32) from c_21)
      unfold cb_X0_does_244
      unfold cb_X0_does_249
      refine WP.ret ?_
      exact ⟨hI, (rfl : KT F F), (rfl : KO F F), trivial⟩
    · skip
      have l_30 : (12 : Int32).toInt = 12 := rfl
      have q_32 := i_rng ((x1.toUInt32 >>> ((12 : Int32).toUInt32 &&& Int32.toUInt32 31)).toInt32)
      have l_33 : (7 : Int32).toInt = 7 := rfl
      have e_35 := i_and ((x1.toUInt32 >>> ((12 : Int32).toUInt32 &&& Int32.toUInt32 31)).toInt32) (m := 7) 3 (by decide) (by decide)
      have l_36 : (0 : Int32).toInt = 0 := rfl
      have e_37 := mt i_eq.mpr (show ¬ ((((x1.toUInt32 >>> ((12 : Int32).toUInt32 &&& Int32.toUInt32 31)).toInt32) &&& (7 : Int32)) = (0 : Int32)) from c_21)
      unfold cb_X0_does_248
      unfold cb_X0_does_249
      refine WP.ret ?_
      exact ⟨hI, (rfl : KT F F), (rfl : KO F F), trivial⟩
  have l_38 : (15 : Int32).toInt = 15 := rfl
  have e_39 := mt i_eq.mpr (show ¬ ((x1 &&& (127 : Int32)) = (15 : Int32)) from c_18)
  refine WP.ite (fun c_40 => ?_) (fun c_40 => ?_)
  · skip
    have l_41 : (19 : Int32).toInt = 19 := rfl
    have e_42 := i_eq.mp (show (x1 &&& (127 : Int32)) = (19 : Int32) from c_40)
    unfold cb_X0_does_222
    refine WP.bind (cs_X0_withNumber hfu x1 F G hI) ?_
    rintro r43 F43 G43 ⟨hI43, hT43, hO43, hp43⟩
    dsimp only
    have q_44 := hI.r 10 rfl
    have q_45 := hI43.r 10 rfl
    have e_46 : (F43 10).toInt = (F 10).toInt := hO43
    unfold cb_X0_does_227
    refine WP.ret ?_
    exact ⟨hI43, (KT.tr (rfl : KT F F) hT43), (KO.tr (rfl : KO F F) hO43), trivial⟩
  have l_47 : (19 : Int32).toInt = 19 := rfl
  have e_48 := mt i_eq.mpr (show ¬ ((x1 &&& (127 : Int32)) = (19 : Int32)) from c_40)
  refine WP.ite (fun c_49 => ?_) (fun c_49 => ?_)
  · skip
    have l_50 : (23 : Int32).toInt = 23 := rfl
    have e_51 := i_eq.mp (show (x1 &&& (127 : Int32)) = (23 : Int32) from c_49)
    unfold cb_X0_does_113
    have l_52 : (7 : Int32).toInt = 7 := rfl
    have q_54 := i_rng ((x1.toUInt32 >>> ((7 : Int32).toUInt32 &&& Int32.toUInt32 31)).toInt32)
    have l_55 : (31 : Int32).toInt = 31 := rfl
    have e_57 := i_and ((x1.toUInt32 >>> ((7 : Int32).toUInt32 &&& Int32.toUInt32 31)).toInt32) (m := 31) 5 (by decide) (by decide)
    have q_58 := i_rng (F 2)
    have l_59 : (-4096 : Int32).toInt = -4096 := rfl
    have q_61 := i_rng (x1 &&& (-4096 : Int32))
    first | have e_62 : ((F 2) + (x1 &&& (-4096 : Int32))).toInt = (F 2).toInt + ((x1 &&& (-4096 : Int32)).toInt) := i_addn (F 2) rfl (by omega) (by omega) | have e_63 := i_rng ((F 2) + (x1 &&& (-4096 : Int32)))
    refine WP.bind (cs_X0_keep hfu (((x1.toUInt32 >>> ((7 : Int32).toUInt32 &&& Int32.toUInt32 31)).toInt32) &&& (31 : Int32)) ((F 2) + (x1 &&& (-4096 : Int32))) F G hI) ?_
    rintro r64 F64 G64 ⟨hI64, hT64, hO64, hp64⟩
    dsimp only
    have q_65 := hI.r 10 rfl
    have q_66 := hI64.r 10 rfl
    have e_67 : (F64 10).toInt = (F 10).toInt := hO64
    unfold cb_X0_does_134
    refine WP.ret ?_
    exact ⟨hI64, (KT.tr (rfl : KT F F) hT64), (KO.tr (rfl : KO F F) hO64), trivial⟩
  have l_68 : (23 : Int32).toInt = 23 := rfl
  have e_69 := mt i_eq.mpr (show ¬ ((x1 &&& (127 : Int32)) = (23 : Int32)) from c_49)
  refine WP.ite (fun c_70 => ?_) (fun c_70 => ?_)
  · skip
    have l_71 : (35 : Int32).toInt = 35 := rfl
    have e_72 := i_eq.mp (show (x1 &&& (127 : Int32)) = (35 : Int32) from c_70)
    unfold cb_X0_does_216
    refine WP.bind (cs_X0_store hfu x1 F G hI) ?_
    rintro r73 F73 G73 ⟨hI73, hT73, hO73, hp73⟩
    dsimp only
    have q_74 := hI.r 10 rfl
    have q_75 := hI73.r 10 rfl
    have e_76 : (F73 10).toInt = (F 10).toInt := hO73
    unfold cb_X0_does_221
    refine WP.ret ?_
    exact ⟨hI73, (KT.tr (rfl : KT F F) hT73), (KO.tr (rfl : KO F F) hO73), trivial⟩
  have l_77 : (35 : Int32).toInt = 35 := rfl
  have e_78 := mt i_eq.mpr (show ¬ ((x1 &&& (127 : Int32)) = (35 : Int32)) from c_70)
  refine WP.ite (fun c_79 => ?_) (fun c_79 => ?_)
  · skip
    have l_80 : (51 : Int32).toInt = 51 := rfl
    have e_81 := i_eq.mp (show (x1 &&& (127 : Int32)) = (51 : Int32) from c_79)
    unfold cb_X0_does_228
    refine WP.bind (cs_X0_withRegister hfu x1 F G hI) ?_
    rintro r82 F82 G82 ⟨hI82, hT82, hO82, hp82⟩
    dsimp only
    have q_83 := hI.r 10 rfl
    have q_84 := hI82.r 10 rfl
    have e_85 : (F82 10).toInt = (F 10).toInt := hO82
    unfold cb_X0_does_233
    refine WP.ret ?_
    exact ⟨hI82, (KT.tr (rfl : KT F F) hT82), (KO.tr (rfl : KO F F) hO82), trivial⟩
  have l_86 : (51 : Int32).toInt = 51 := rfl
  have e_87 := mt i_eq.mpr (show ¬ ((x1 &&& (127 : Int32)) = (51 : Int32)) from c_79)
  refine WP.ite (fun c_88 => ?_) (fun c_88 => ?_)
  · skip
    have l_89 : (55 : Int32).toInt = 55 := rfl
    have e_90 := i_eq.mp (show (x1 &&& (127 : Int32)) = (55 : Int32) from c_88)
    unfold cb_X0_does_96
    have l_91 : (7 : Int32).toInt = 7 := rfl
    have q_93 := i_rng ((x1.toUInt32 >>> ((7 : Int32).toUInt32 &&& Int32.toUInt32 31)).toInt32)
    have l_94 : (31 : Int32).toInt = 31 := rfl
    have e_96 := i_and ((x1.toUInt32 >>> ((7 : Int32).toUInt32 &&& Int32.toUInt32 31)).toInt32) (m := 31) 5 (by decide) (by decide)
    have l_97 : (-4096 : Int32).toInt = -4096 := rfl
    have q_99 := i_rng (x1 &&& (-4096 : Int32))
    refine WP.bind (cs_X0_keep hfu (((x1.toUInt32 >>> ((7 : Int32).toUInt32 &&& Int32.toUInt32 31)).toInt32) &&& (31 : Int32)) (x1 &&& (-4096 : Int32)) F G hI) ?_
    rintro r100 F100 G100 ⟨hI100, hT100, hO100, hp100⟩
    dsimp only
    have q_101 := hI.r 10 rfl
    have q_102 := hI100.r 10 rfl
    have e_103 : (F100 10).toInt = (F 10).toInt := hO100
    unfold cb_X0_does_112
    refine WP.ret ?_
    exact ⟨hI100, (KT.tr (rfl : KT F F) hT100), (KO.tr (rfl : KO F F) hO100), trivial⟩
  have l_104 : (55 : Int32).toInt = 55 := rfl
  have e_105 := mt i_eq.mpr (show ¬ ((x1 &&& (127 : Int32)) = (55 : Int32)) from c_88)
  refine WP.ite (fun c_106 => ?_) (fun c_106 => ?_)
  · skip
    have l_107 : (99 : Int32).toInt = 99 := rfl
    have e_108 := i_eq.mp (show (x1 &&& (127 : Int32)) = (99 : Int32) from c_106)
    unfold cb_X0_does_204
    refine WP.bind (cs_X0_branch hfu x1 F G hI) ?_
    rintro r109 F109 G109 ⟨hI109, hT109, hO109, hp109⟩
    dsimp only
    have q_110 := hI.r 10 rfl
    have q_111 := hI109.r 10 rfl
    have e_112 : (F109 10).toInt = (F 10).toInt := hO109
    unfold cb_X0_does_209
    refine WP.ret ?_
    exact ⟨hI109, (KT.tr (rfl : KT F F) hT109), (KO.tr (rfl : KO F F) hO109), trivial⟩
  have l_113 : (99 : Int32).toInt = 99 := rfl
  have e_114 := mt i_eq.mpr (show ¬ ((x1 &&& (127 : Int32)) = (99 : Int32)) from c_106)
  refine WP.ite (fun c_115 => ?_) (fun c_115 => ?_)
  · skip
    have l_116 : (103 : Int32).toInt = 103 := rfl
    have e_117 := i_eq.mp (show (x1 &&& (127 : Int32)) = (103 : Int32) from c_115)
    unfold cb_X0_does_156
    have q_119 := i_rng ((x1.toUInt32 >>> ((15 : Int32).toUInt32 &&& Int32.toUInt32 31)).toInt32)
    have l_120 : (31 : Int32).toInt = 31 := rfl
    have e_122 := i_and ((x1.toUInt32 >>> ((15 : Int32).toUInt32 &&& Int32.toUInt32 31)).toInt32) (m := 31) 5 (by decide) (by decide)
    refine WP.ix (show vp_in (((x1.toUInt32 >>> ((15 : Int32).toUInt32 &&& Int32.toUInt32 31)).toInt32) &&& (31 : Int32)) 32 from vp_in_iff.mpr ⟨by omega, by omega⟩) ?_
    refine WP.ite (fun c_123 => ?_) (fun c_123 => ?_)
    · skip
      have l_124 : (12 : Int32).toInt = 12 := rfl
      have q_126 := i_rng ((x1.toUInt32 >>> ((12 : Int32).toUInt32 &&& Int32.toUInt32 31)).toInt32)
      have l_127 : (7 : Int32).toInt = 7 := rfl
      have e_129 := i_and ((x1.toUInt32 >>> ((12 : Int32).toUInt32 &&& Int32.toUInt32 31)).toInt32) (m := 7) 3 (by decide) (by decide)
      have l_130 : (0 : Int32).toInt = 0 := rfl
      have e_131 := i_eq.mp (show (((x1.toUInt32 >>> ((12 : Int32).toUInt32 &&& Int32.toUInt32 31)).toInt32) &&& (7 : Int32)) = (0 : Int32) from c_123)
      unfold cb_X0_does_187
      have q_133 := i_rng ((x1.toUInt32 >>> ((7 : Int32).toUInt32 &&& Int32.toUInt32 31)).toInt32)
      have e_135 := i_and ((x1.toUInt32 >>> ((7 : Int32).toUInt32 &&& Int32.toUInt32 31)).toInt32) (m := 31) 5 (by decide) (by decide)
      have q_136 := i_rng (G 1 (((x1.toUInt32 >>> ((15 : Int32).toUInt32 &&& Int32.toUInt32 31)).toInt32) &&& (31 : Int32)).toNatClampNeg)
      have l_137 : (20 : Int32).toInt = 20 := rfl
      have e_139 : ((x1 >>> ((20 : Int32) &&& 31))).toInt = x1.toInt / 1048576 := i_shr 20 (by decide)
      first | have e_140 : ((G 1 (((x1.toUInt32 >>> ((15 : Int32).toUInt32 &&& Int32.toUInt32 31)).toInt32) &&& (31 : Int32)).toNatClampNeg) + (x1 >>> ((20 : Int32) &&& 31))).toInt = (G 1 (((x1.toUInt32 >>> ((15 : Int32).toUInt32 &&& Int32.toUInt32 31)).toInt32) &&& (31 : Int32)).toNatClampNeg).toInt + ((x1 >>> ((20 : Int32) &&& 31)).toInt) := i_addn (G 1 (((x1.toUInt32 >>> ((15 : Int32).toUInt32 &&& Int32.toUInt32 31)).toInt32) &&& (31 : Int32)).toNatClampNeg) rfl (by omega) (by omega) | have e_141 := i_rng ((G 1 (((x1.toUInt32 >>> ((15 : Int32).toUInt32 &&& Int32.toUInt32 31)).toInt32) &&& (31 : Int32)).toNatClampNeg) + (x1 >>> ((20 : Int32) &&& 31)))
      have l_142 : (-2 : Int32).toInt = -2 := rfl
      have q_144 := i_rng (((G 1 (((x1.toUInt32 >>> ((15 : Int32).toUInt32 &&& Int32.toUInt32 31)).toInt32) &&& (31 : Int32)).toNatClampNeg) + (x1 >>> ((20 : Int32) &&& 31))) &&& (-2 : Int32))
      refine WP.bind (cs_X0_link hfu (((x1.toUInt32 >>> ((7 : Int32).toUInt32 &&& Int32.toUInt32 31)).toInt32) &&& (31 : Int32)) (((G 1 (((x1.toUInt32 >>> ((15 : Int32).toUInt32 &&& Int32.toUInt32 31)).toInt32) &&& (31 : Int32)).toNatClampNeg) + (x1 >>> ((20 : Int32) &&& 31))) &&& (-2 : Int32)) F G hI) ?_
      rintro r145 F145 G145 ⟨hI145, hT145, hO145, hp145⟩
      dsimp only
      have q_146 := hI.r 10 rfl
      have q_147 := hI145.r 10 rfl
      have e_148 : (F145 10).toInt = (F 10).toInt := hO145
      unfold cb_X0_does_199
      unfold cb_X0_does_203
      refine WP.ret ?_
      exact ⟨hI145, (KT.tr (rfl : KT F F) hT145), (KO.tr (rfl : KO F F) hO145), trivial⟩
    · skip
      have l_149 : (12 : Int32).toInt = 12 := rfl
      have q_151 := i_rng ((x1.toUInt32 >>> ((12 : Int32).toUInt32 &&& Int32.toUInt32 31)).toInt32)
      have l_152 : (7 : Int32).toInt = 7 := rfl
      have e_154 := i_and ((x1.toUInt32 >>> ((12 : Int32).toUInt32 &&& Int32.toUInt32 31)).toInt32) (m := 7) 3 (by decide) (by decide)
      have l_155 : (0 : Int32).toInt = 0 := rfl
      have e_156 := mt i_eq.mpr (show ¬ ((((x1.toUInt32 >>> ((12 : Int32).toUInt32 &&& Int32.toUInt32 31)).toInt32) &&& (7 : Int32)) = (0 : Int32)) from c_123)
      unfold cb_X0_does_202
      unfold cb_X0_does_203
      refine WP.ret ?_
      exact ⟨hI, (rfl : KT F F), (rfl : KO F F), trivial⟩
  have l_157 : (103 : Int32).toInt = 103 := rfl
  have e_158 := mt i_eq.mpr (show ¬ ((x1 &&& (127 : Int32)) = (103 : Int32)) from c_115)
  refine WP.ite (fun c_159 => ?_) (fun c_159 => ?_)
  · skip
    have l_160 : (111 : Int32).toInt = 111 := rfl
    have e_161 := i_eq.mp (show (x1 &&& (127 : Int32)) = (111 : Int32) from c_159)
    unfold cb_X0_does_135
    refine WP.bind (cs_X0_offsetJ hfu x1 F G hI) ?_
    rintro r162 _ _ ⟨rfl, rfl, hp162⟩
    dsimp only
    unfold cb_X0_does_151
    have l_163 : (7 : Int32).toInt = 7 := rfl
    have q_165 := i_rng ((x1.toUInt32 >>> ((7 : Int32).toUInt32 &&& Int32.toUInt32 31)).toInt32)
    have l_166 : (31 : Int32).toInt = 31 := rfl
    have e_168 := i_and ((x1.toUInt32 >>> ((7 : Int32).toUInt32 &&& Int32.toUInt32 31)).toInt32) (m := 31) 5 (by decide) (by decide)
    have q_169 := i_rng (F 2)
    have q_170 := i_rng r162
    first | have e_171 : ((F 2) + r162).toInt = (F 2).toInt + (r162.toInt) := i_addn (F 2) rfl (by omega) (by omega) | have e_172 := i_rng ((F 2) + r162)
    refine WP.bind (cs_X0_link hfu (((x1.toUInt32 >>> ((7 : Int32).toUInt32 &&& Int32.toUInt32 31)).toInt32) &&& (31 : Int32)) ((F 2) + r162) F G hI) ?_
    rintro r173 F173 G173 ⟨hI173, hT173, hO173, hp173⟩
    dsimp only
    have q_174 := hI.r 10 rfl
    have q_175 := hI173.r 10 rfl
    have e_176 : (F173 10).toInt = (F 10).toInt := hO173
    unfold cb_X0_does_155
    refine WP.ret ?_
    exact ⟨hI173, (KT.tr (rfl : KT F F) hT173), (KO.tr (rfl : KO F F) hO173), trivial⟩
  have l_177 : (111 : Int32).toInt = 111 := rfl
  have e_178 := mt i_eq.mpr (show ¬ ((x1 &&& (127 : Int32)) = (111 : Int32)) from c_159)
  unfold cb_X0_does_250
  refine WP.ite (fun c_179 => ?_) (fun c_179 => ?_)
  · skip
    have l_180 : (115 : Int32).toInt = 115 := rfl
    have e_181 := i_eq.mp (show x1 = (115 : Int32) from c_179)
    unfold cb_X0_does_256
    unfold cb_X0_does_273
    refine WP.ret ?_
    exact ⟨hI, (rfl : KT F F), (rfl : KO F F), trivial⟩
  · skip
    have l_182 : (115 : Int32).toInt = 115 := rfl
    have e_183 := mt i_eq.mpr (show ¬ (x1 = (115 : Int32)) from c_179)
    unfold cb_X0_does_261
    refine WP.ite (fun c_184 => ?_) (fun c_184 => ?_)
    · skip
      have l_185 : (1048691 : Int32).toInt = 1048691 := rfl
      have e_186 := i_eq.mp (show x1 = (1048691 : Int32) from c_184)
      unfold cb_X0_does_267
      unfold cb_X0_does_273
      refine WP.ret ?_
      exact ⟨hI, (rfl : KT F F), (rfl : KO F F), trivial⟩
    · skip
      have l_187 : (1048691 : Int32).toInt = 1048691 := rfl
      have e_188 := mt i_eq.mpr (show ¬ (x1 = (1048691 : Int32)) from c_184)
      unfold cb_X0_does_272
      unfold cb_X0_does_273
      refine WP.ret ?_
      exact ⟨hI, (rfl : KT F F), (rfl : KO F F), trivial⟩
theorem cs_X0_doWord {fu : Nat} (hfu : 8589934592 ≤ fu) (F : PF) (G : PG) (hI : CI F G) : WP (cf_X0_doWord fu F G) (fun r' F' G' => CI F' G' ∧ KT F F' ∧ KO F F' ∧ True) := by
  unfold cf_X0_doWord
  unfold cb_X0_doWord_0
  refine WP.ite (fun c_1 => ?_) (fun c_1 => ?_)
  · skip
    have q_2 := i_rng (F 2)
    have l_3 : (3 : Int32).toInt = 3 := rfl
    have e_5 := i_and (F 2) (m := 3) 2 (by decide) (by decide)
    have l_6 : (0 : Int32).toInt = 0 := rfl
    have e_7 := i_eq.mp (show ((F 2) &&& (3 : Int32)) = (0 : Int32) from c_1)
    unfold cb_X0_doWord_9
    refine WP.ite (fun c_8 => ?_) (fun c_8 => ?_)
    · skip
      have e_9 := i_lt.mp (show (F 2) < (0 : Int32) from c_8)
      unfold cb_X0_doWord_26
      refine WP.ret ?_
      exact ⟨hI, (rfl : KT F F), (rfl : KO F F), trivial⟩
    · skip
      have e_10 := mt i_lt.mpr (show ¬ ((F 2) < (0 : Int32)) from c_8)
      unfold cb_X0_doWord_16
      refine WP.ite (fun c_11 => ?_) (fun c_11 => ?_)
      · skip
        have l_12 : (16384 : Int32).toInt = 16384 := rfl
        have e_13 := i_lt.mp (show (F 2) < (16384 : Int32) from c_11)
        unfold cb_X0_doWord_28
        have l_14 : (2 : Int32).toInt = 2 := rfl
        have e_16 : (((F 2) >>> ((2 : Int32) &&& 31))).toInt = (F 2).toInt / 4 := i_shr 2 (by decide)
        refine WP.ix (show vp_in ((F 2) >>> ((2 : Int32) &&& 31)) 4096 from vp_in_iff.mpr ⟨by omega, by omega⟩) ?_
        first | have e_17 : ((F 2) + (4 : Int32)).toInt = (F 2).toInt + (4) := i_addn (F 2) rfl (by omega) (by omega) | have e_18 := i_rng ((F 2) + (4 : Int32))
        have j_19 : CI (fup F 4 ((F 2) + (4 : Int32))) G := CI.fr rfl hI
        unfold cb_X0_doWord_50
        have q_20 := i_rng (G 0 ((F 2) >>> ((2 : Int32) &&& 31)).toNatClampNeg)
        refine WP.bind (cs_X0_does hfu (G 0 ((F 2) >>> ((2 : Int32) &&& 31)).toNatClampNeg) (fup F 4 ((F 2) + (4 : Int32))) G j_19) ?_
        rintro r21 F21 G21 ⟨hI21, hT21, hO21, hp21⟩
        dsimp only
        have q_22 := hI.r 10 rfl
        have q_23 := hI21.r 10 rfl
        have e_24 : (F21 10).toInt = (F 10).toInt := hO21
        unfold cb_X0_doWord_55
        refine WP.ite (fun c_25 => ?_) (fun c_25 => ?_)
        · skip
          have q_26 := i_rng r21
          have e_27 := i_eq.mp (show r21 = (0 : Int32) from c_25)
          unfold cb_X0_doWord_72
          have q_28 := i_rng (F21 4)
          have j_29 : CI (fup F21 2 (F21 4)) G21 := CI.fr rfl hI21
          unfold cb_X0_doWord_80
          have q_30 := i_rng (F21 3)
          first | have e_31 : ((F21 3) + (1 : Int32)).toInt = (F21 3).toInt + (1) := i_addn (F21 3) rfl (by omega) (by omega) | have e_32 := i_rng ((F21 3) + (1 : Int32))
          have j_33 : CI (fup (fup F21 2 (F21 4)) 3 ((F21 3) + (1 : Int32))) G21 := CI.fr rfl j_29
          unfold cb_X0_doWord_90
          refine WP.ret ?_
          exact ⟨j_33, (KT.f (by decide) (KT.f (by decide) (KT.tr (KT.f (by decide) (rfl : KT F F)) hT21))), (KO.f (by decide) (KO.f (by decide) (KO.tr (KO.f (by decide) (rfl : KO F F)) hO21))), trivial⟩
        · skip
          have q_34 := i_rng r21
          have e_35 := mt i_eq.mpr (show ¬ (r21 = (0 : Int32)) from c_25)
          unfold cb_X0_doWord_60
          refine WP.ite (fun c_36 => ?_) (fun c_36 => ?_)
          · skip
            have l_37 : (6 : Int32).toInt = 6 := rfl
            have e_38 := i_eq.mp (show r21 = (6 : Int32) from c_36)
            unfold cb_X0_doWord_72
            have q_39 := i_rng (F21 4)
            have j_40 : CI (fup F21 2 (F21 4)) G21 := CI.fr rfl hI21
            unfold cb_X0_doWord_80
            have q_41 := i_rng (F21 3)
            first | have e_42 : ((F21 3) + (1 : Int32)).toInt = (F21 3).toInt + (1) := i_addn (F21 3) rfl (by omega) (by omega) | have e_43 := i_rng ((F21 3) + (1 : Int32))
            have j_44 : CI (fup (fup F21 2 (F21 4)) 3 ((F21 3) + (1 : Int32))) G21 := CI.fr rfl j_40
            unfold cb_X0_doWord_90
            refine WP.ret ?_
            exact ⟨j_44, (KT.f (by decide) (KT.f (by decide) (KT.tr (KT.f (by decide) (rfl : KT F F)) hT21))), (KO.f (by decide) (KO.f (by decide) (KO.tr (KO.f (by decide) (rfl : KO F F)) hO21))), trivial⟩
          · skip
            have l_45 : (6 : Int32).toInt = 6 := rfl
            have e_46 := mt i_eq.mpr (show ¬ (r21 = (6 : Int32)) from c_36)
            unfold cb_X0_doWord_66
            refine WP.ite (fun c_47 => ?_) (fun c_47 => ?_)
            · skip
              have l_48 : (7 : Int32).toInt = 7 := rfl
              have e_49 := i_eq.mp (show r21 = (7 : Int32) from c_47)
              unfold cb_X0_doWord_72
              have q_50 := i_rng (F21 4)
              have j_51 : CI (fup F21 2 (F21 4)) G21 := CI.fr rfl hI21
              unfold cb_X0_doWord_80
              have q_52 := i_rng (F21 3)
              first | have e_53 : ((F21 3) + (1 : Int32)).toInt = (F21 3).toInt + (1) := i_addn (F21 3) rfl (by omega) (by omega) | have e_54 := i_rng ((F21 3) + (1 : Int32))
              have j_55 : CI (fup (fup F21 2 (F21 4)) 3 ((F21 3) + (1 : Int32))) G21 := CI.fr rfl j_51
              unfold cb_X0_doWord_90
              refine WP.ret ?_
              exact ⟨j_55, (KT.f (by decide) (KT.f (by decide) (KT.tr (KT.f (by decide) (rfl : KT F F)) hT21))), (KO.f (by decide) (KO.f (by decide) (KO.tr (KO.f (by decide) (rfl : KO F F)) hO21))), trivial⟩
            · skip
              have l_56 : (7 : Int32).toInt = 7 := rfl
              have e_57 := mt i_eq.mpr (show ¬ (r21 = (7 : Int32)) from c_47)
              unfold cb_X0_doWord_90
              refine WP.ret ?_
              exact ⟨hI21, (KT.tr (KT.f (by decide) (rfl : KT F F)) hT21), (KO.tr (KO.f (by decide) (rfl : KO F F)) hO21), trivial⟩
      · skip
        have l_58 : (16384 : Int32).toInt = 16384 := rfl
        have e_59 := mt i_lt.mpr (show ¬ ((F 2) < (16384 : Int32)) from c_11)
        unfold cb_X0_doWord_26
        refine WP.ret ?_
        exact ⟨hI, (rfl : KT F F), (rfl : KO F F), trivial⟩
  · skip
    have q_60 := i_rng (F 2)
    have l_61 : (3 : Int32).toInt = 3 := rfl
    have e_63 := i_and (F 2) (m := 3) 2 (by decide) (by decide)
    have l_64 : (0 : Int32).toInt = 0 := rfl
    have e_65 := mt i_eq.mpr (show ¬ (((F 2) &&& (3 : Int32)) = (0 : Int32)) from c_1)
    unfold cb_X0_doWord_26
    refine WP.ret ?_
    exact ⟨hI, (rfl : KT F F), (rfl : KO F F), trivial⟩
theorem cz_X0_doWords_4 {fu : Nat} (hfu : 8589934592 ≤ fu) {F0 : PF} {G0 : PG} : ∀ (n : Nat) (x1 : Int32) (x2 : Int32) (x3 : Int32) (F : PF) (G : PG) (hI : CI F G) (hT : KT F0 F) (hO : KO F0 F) (hn : (2147483647 - x3.toInt).toNat < n), WP (cl_X0_doWords_4 fu n x1 x2 x3 F G) (fun r' F' G' => CI F' G' ∧ KT F0 F' ∧ KO F0 F' ∧ True) := by
  intro n
  induction n with
  | zero =>
    intro x1 x2 x3 F G hI hT hO hn
    exact absurd hn (Nat.not_lt_zero _)
  | succ n ihn =>
    intro x1 x2 x3 F G hI hT hO hn
    show WP (cb_X0_doWords_4 fu (cl_X0_doWords_4 fu n)  x1 x2 x3 F G) _
    unfold cb_X0_doWords_4
    refine WP.ite (fun c_1 => ?_) (fun c_1 => ?_)
    · skip
      have q_2 := i_rng x1
      have q_3 := i_rng x3
      have e_4 := i_le.mp (show x1 ≤ x3 from c_1)
      unfold cb_X0_doWords_24
      refine WP.ret ?_
      exact ⟨hI, hT, hO, trivial⟩
    · skip
      have q_5 := i_rng x1
      have q_6 := i_rng x3
      have e_7 := mt i_le.mpr (show ¬ (x1 ≤ x3) from c_1)
      unfold cb_X0_doWords_9
      refine WP.ite (fun c_8 => ?_) (fun c_8 => ?_)
      · skip
        have q_9 := i_rng x2
        have l_10 : (0 : Int32).toInt = 0 := rfl
        have e_11 := i_eq.mp (show x2 = (0 : Int32) from c_8)
        unfold cb_X0_doWords_13
        refine WP.bind (cs_X0_doWord hfu F G hI) ?_
        rintro r12 F12 G12 ⟨hI12, hT12, hO12, hp12⟩
        dsimp only
        have q_13 := hI.r 10 rfl
        have q_14 := hI12.r 10 rfl
        have e_15 : (F12 10).toInt = (F 10).toInt := hO12
        unfold cb_X0_doWords_17
        have q_16 := i_rng r12
        first | have e_17 : (x3 + (1 : Int32)).toInt = x3.toInt + (1) := i_addn x3 rfl (by omega) (by omega) | have e_18 := i_rng (x3 + (1 : Int32))
        exact ihn x1 r12 (x3 + (1 : Int32)) F12 G12 hI12 (KT.tr hT hT12) (KO.tr hO hO12) (by omega)
      · skip
        have q_19 := i_rng x2
        have l_20 : (0 : Int32).toInt = 0 := rfl
        have e_21 := mt i_eq.mpr (show ¬ (x2 = (0 : Int32)) from c_8)
        unfold cb_X0_doWords_24
        refine WP.ret ?_
        exact ⟨hI, hT, hO, trivial⟩
theorem cs_X0_doWords {fu : Nat} (hfu : 8589934592 ≤ fu) (x1 : Int32) (F : PF) (G : PG) (hI : CI F G) : WP (cf_X0_doWords fu x1 F G) (fun r' F' G' => CI F' G' ∧ KT F F' ∧ KO F F' ∧ True) := by
  unfold cf_X0_doWords
  unfold cb_X0_doWords_0
  have q_1 := i_rng x1
  have l_2 : (0 : Int32).toInt = 0 := rfl
  exact cz_X0_doWords_4 (F0 := F) (G0 := G) hfu fu x1 (0 : Int32) (0 : Int32) F G hI (rfl : KT F F) (rfl : KO F F) (by omega)
theorem cs_X1_add {fu : Nat} (hfu : 8589934592 ≤ fu) (x1 : Int32) (F : PF) (G : PG) (hI : CI F G) : WP (cf_X1_add fu x1 F G) (fun r' F' G' => CI F' G' ∧ KB F G F' G' ∧ KT F F' ∧ KO F F' ∧ KK F F' ∧ (F' 21 = F 21)) := by
  unfold cf_X1_add
  unfold cb_X1_add_0
  refine WP.ite (fun c_1 => ?_) (fun c_1 => ?_)
  · skip
    have q_2 := hI.r 7 rfl
    have l_3 : (0 : Int32).toInt = 0 := rfl
    have e_4 := i_eq.mp (show (F 7) = (0 : Int32) from c_1)
    unfold cb_X1_add_37
    refine WP.ret ?_
    exact ⟨hI, (KB.rf : KB F G F G), (rfl : KT F F), (rfl : KO F F), (rfl : KK F F), (show (F 21) = F 21 from rfl)⟩
  · skip
    have q_5 := hI.r 7 rfl
    have l_6 : (0 : Int32).toInt = 0 := rfl
    have e_7 := mt i_eq.mpr (show ¬ ((F 7) = (0 : Int32)) from c_1)
    unfold cb_X1_add_7
    refine WP.ite (fun c_8 => ?_) (fun c_8 => ?_)
    · skip
      have l_9 : (8400 : Int32).toInt = 8400 := rfl
      have q_10 := hI.r 6 rfl
      have e_11 := i_le.mp (show (8400 : Int32) ≤ (F 6) from c_8)
      unfold cb_X1_add_37
      refine WP.ret ?_
      exact ⟨hI, (KB.rf : KB F G F G), (rfl : KT F F), (rfl : KO F F), (rfl : KK F F), (show (F 21) = F 21 from rfl)⟩
    · skip
      have l_12 : (8400 : Int32).toInt = 8400 := rfl
      have q_13 := hI.r 6 rfl
      have e_14 := mt i_le.mpr (show ¬ ((8400 : Int32) ≤ (F 6)) from c_8)
      unfold cb_X1_add_17
      refine WP.ix (show vp_in (F 6) 8400 from vp_in_iff.mpr ⟨by omega, by omega⟩) ?_
      have j_15 : CI F (gup G 5 (F 6).toNatClampNeg x1) := CI.g (by decide) hI
      unfold cb_X1_add_27
      first | have e_16 : ((F 6) + (1 : Int32)).toInt = (F 6).toInt + (1) := i_addn (F 6) rfl (by omega) (by omega) | have e_17 := i_rng ((F 6) + (1 : Int32))
      have j_18 : CI (fup F 6 ((F 6) + (1 : Int32))) (gup G 5 (F 6).toNatClampNeg x1) := CI.rg (k := 6) (x := ((F 6) + (1 : Int32))) rfl (by decide) (by decide) j_15 ⟨by omega, by omega⟩
      unfold cb_X1_add_37
      refine WP.ret ?_
      exact ⟨j_18, (KB.f (by decide) (KB.g (by decide) (KB.rf : KB F G F G))), (KT.f (by decide) (rfl : KT F F)), (KO.f (by decide) (rfl : KO F F)), (KK.f (by decide) (rfl : KK F F)), (show (F 21) = F 21 from rfl)⟩
theorem cs_X1_addPair {fu : Nat} (hfu : 8589934592 ≤ fu) (x1 : Int32) (x2 : Int32) (F : PF) (G : PG) (hI : CI F G) : WP (cf_X1_addPair fu x1 x2 F G) (fun r' F' G' => CI F' G' ∧ KB F G F' G' ∧ KT F F' ∧ KO F F' ∧ KK F F' ∧ True) := by
  unfold cf_X1_addPair
  unfold cb_X1_addPair_0
  refine WP.ite (fun c_1 => ?_) (fun c_1 => ?_)
  · skip
    have q_2 := hI.r 7 rfl
    have l_3 : (0 : Int32).toInt = 0 := rfl
    have e_4 := i_eq.mp (show (F 7) = (0 : Int32) from c_1)
    unfold cb_X1_addPair_49
    refine WP.ret ?_
    exact ⟨hI, (KB.rf : KB F G F G), (rfl : KT F F), (rfl : KO F F), (rfl : KK F F), trivial⟩
  · skip
    have q_5 := hI.r 7 rfl
    have l_6 : (0 : Int32).toInt = 0 := rfl
    have e_7 := mt i_eq.mpr (show ¬ ((F 7) = (0 : Int32)) from c_1)
    unfold cb_X1_addPair_7
    refine WP.ite (fun c_8 => ?_) (fun c_8 => ?_)
    · skip
      have l_9 : (8399 : Int32).toInt = 8399 := rfl
      have q_10 := hI.r 6 rfl
      have e_11 := i_le.mp (show (8399 : Int32) ≤ (F 6) from c_8)
      unfold cb_X1_addPair_49
      refine WP.ret ?_
      exact ⟨hI, (KB.rf : KB F G F G), (rfl : KT F F), (rfl : KO F F), (rfl : KK F F), trivial⟩
    · skip
      have l_12 : (8399 : Int32).toInt = 8399 := rfl
      have q_13 := hI.r 6 rfl
      have e_14 := mt i_le.mpr (show ¬ ((8399 : Int32) ≤ (F 6)) from c_8)
      unfold cb_X1_addPair_17
      refine WP.ix (show vp_in (F 6) 8400 from vp_in_iff.mpr ⟨by omega, by omega⟩) ?_
      have j_15 : CI F (gup G 5 (F 6).toNatClampNeg x1) := CI.g (by decide) hI
      unfold cb_X1_addPair_27
      first | have e_16 : ((F 6) + (1 : Int32)).toInt = (F 6).toInt + (1) := i_addn (F 6) rfl (by omega) (by omega) | have e_17 := i_rng ((F 6) + (1 : Int32))
      refine WP.ix (show vp_in ((F 6) + (1 : Int32)) 8400 from vp_in_iff.mpr ⟨by omega, by omega⟩) ?_
      have j_18 : CI F (gup (gup G 5 (F 6).toNatClampNeg x1) 5 ((F 6) + (1 : Int32)).toNatClampNeg x2) := CI.g (by decide) j_15
      unfold cb_X1_addPair_39
      first | have e_19 : ((F 6) + (2 : Int32)).toInt = (F 6).toInt + (2) := i_addn (F 6) rfl (by omega) (by omega) | have e_20 := i_rng ((F 6) + (2 : Int32))
      have j_21 : CI (fup F 6 ((F 6) + (2 : Int32))) (gup (gup G 5 (F 6).toNatClampNeg x1) 5 ((F 6) + (1 : Int32)).toNatClampNeg x2) := CI.rg (k := 6) (x := ((F 6) + (2 : Int32))) rfl (by decide) (by decide) j_18 ⟨by omega, by omega⟩
      unfold cb_X1_addPair_49
      refine WP.ret ?_
      exact ⟨j_21, (KB.f (by decide) (KB.g (by decide) (KB.g (by decide) (KB.rf : KB F G F G)))), (KT.f (by decide) (rfl : KT F F)), (KO.f (by decide) (rfl : KO F F)), (KK.f (by decide) (rfl : KK F F)), trivial⟩
theorem cs_X1_addJump {fu : Nat} (hfu : 8589934592 ≤ fu) (x1 : Int32) (x2 : Int32) (F : PF) (G : PG) (hI : CI F G) : WP (cf_X1_addJump fu x1 x2 F G) (fun r' F' G' => CI F' G' ∧ KB F G F' G' ∧ KT F F' ∧ KO F F' ∧ KK F F' ∧ (F' 21 = F 21)) := by
  unfold cf_X1_addJump
  unfold cb_X1_addJump_0
  refine WP.ite (fun c_1 => ?_) (fun c_1 => ?_)
  · skip
    have q_2 := hI.r 7 rfl
    have l_3 : (0 : Int32).toInt = 0 := rfl
    have e_4 := i_eq.mp (show (F 7) = (0 : Int32) from c_1)
    unfold cb_X1_addJump_17
    refine WP.ret ?_
    exact ⟨hI, (KB.rf : KB F G F G), (rfl : KT F F), (rfl : KO F F), (rfl : KK F F), (show (F 21) = F 21 from rfl)⟩
  · skip
    have q_5 := hI.r 7 rfl
    have l_6 : (0 : Int32).toInt = 0 := rfl
    have e_7 := mt i_eq.mpr (show ¬ ((F 7) = (0 : Int32)) from c_1)
    unfold cb_X1_addJump_7
    refine WP.ite (fun c_8 => ?_) (fun c_8 => ?_)
    · skip
      have q_9 := hI.r 6 rfl
      have l_10 : (8399 : Int32).toInt = 8399 := rfl
      have e_11 := i_lt.mp (show (F 6) < (8399 : Int32) from c_8)
      unfold cb_X1_addJump_19
      refine WP.ix (show vp_in (F 6) 8400 from vp_in_iff.mpr ⟨by omega, by omega⟩) ?_
      have j_12 : CI F (gup G 5 (F 6).toNatClampNeg x1) := CI.g (by decide) hI
      unfold cb_X1_addJump_29
      first | have e_13 : ((F 6) + (1 : Int32)).toInt = (F 6).toInt + (1) := i_addn (F 6) rfl (by omega) (by omega) | have e_14 := i_rng ((F 6) + (1 : Int32))
      refine WP.ix (show vp_in ((F 6) + (1 : Int32)) 8400 from vp_in_iff.mpr ⟨by omega, by omega⟩) ?_
      have j_15 : CI F (gup (gup G 5 (F 6).toNatClampNeg x1) 5 ((F 6) + (1 : Int32)).toNatClampNeg x2) := CI.g (by decide) j_12
      unfold cb_X1_addJump_41
      first | have e_16 : ((F 6) + (2 : Int32)).toInt = (F 6).toInt + (2) := i_addn (F 6) rfl (by omega) (by omega) | have e_17 := i_rng ((F 6) + (2 : Int32))
      have j_18 : CI (fup F 6 ((F 6) + (2 : Int32))) (gup (gup G 5 (F 6).toNatClampNeg x1) 5 ((F 6) + (1 : Int32)).toNatClampNeg x2) := CI.rg (k := 6) (x := ((F 6) + (2 : Int32))) rfl (by decide) (by decide) j_15 ⟨by omega, by omega⟩
      unfold cb_X1_addJump_51
      refine WP.ret ?_
      exact ⟨j_18, (KB.f (by decide) (KB.g (by decide) (KB.g (by decide) (KB.rf : KB F G F G)))), (KT.f (by decide) (rfl : KT F F)), (KO.f (by decide) (rfl : KO F F)), (KK.f (by decide) (rfl : KK F F)), (show (F 21) = F 21 from rfl)⟩
    · skip
      have q_19 := hI.r 6 rfl
      have l_20 : (8399 : Int32).toInt = 8399 := rfl
      have e_21 := mt i_lt.mpr (show ¬ ((F 6) < (8399 : Int32)) from c_8)
      unfold cb_X1_addJump_17
      refine WP.ret ?_
      exact ⟨hI, (KB.rf : KB F G F G), (rfl : KT F F), (rfl : KO F F), (rfl : KK F F), (show (F 21) = F 21 from rfl)⟩
theorem cz_X1_aim_5 {fu : Nat} (hfu : 8589934592 ≤ fu) {F0 : PF} {G0 : PG} : ∀ (n : Nat) (x2 : Int32) (x3 : Int32) (x4 : Int32) (F : PF) (G : PG) (hI : CI F G) (hB : KB F0 G0 F G) (hT : KT F0 F) (hO : KO F0 F) (hK : KK F0 F) (hn : (2147483647 - x4.toInt).toNat < n), WP (cl_X1_aim_5 fu n x2 x3 x4 F G) (fun r' F' G' => CI F' G' ∧ KB F0 G0 F' G' ∧ KT F0 F' ∧ KO F0 F' ∧ KK F0 F' ∧ True) := by
  intro n
  induction n with
  | zero =>
    intro x2 x3 x4 F G hI hB hT hO hK hn
    exact absurd hn (Nat.not_lt_zero _)
  | succ n ihn =>
    intro x2 x3 x4 F G hI hB hT hO hK hn
    show WP (cb_X1_aim_5 fu (cl_X1_aim_5 fu n)  x2 x3 x4 F G) _
    unfold cb_X1_aim_5
    refine WP.ite (fun c_1 => ?_) (fun c_1 => ?_)
    · skip
      have l_2 : (8400 : Int32).toInt = 8400 := rfl
      have q_3 := i_rng x4
      have e_4 := i_le.mp (show (8400 : Int32) ≤ x4 from c_1)
      unfold cb_X1_aim_49
      refine WP.ret ?_
      exact ⟨hI, hB, hT, hO, hK, trivial⟩
    · skip
      have l_5 : (8400 : Int32).toInt = 8400 := rfl
      have q_6 := i_rng x4
      have e_7 := mt i_le.mpr (show ¬ ((8400 : Int32) ≤ x4) from c_1)
      unfold cb_X1_aim_13
      refine WP.ite (fun c_8 => ?_) (fun c_8 => ?_)
      · skip
        have q_9 := i_rng x3
        have l_10 : (0 : Int32).toInt = 0 := rfl
        have e_11 := i_lt.mp (show x3 < (0 : Int32) from c_8)
        unfold cb_X1_aim_49
        refine WP.ret ?_
        exact ⟨hI, hB, hT, hO, hK, trivial⟩
      · skip
        have q_12 := i_rng x3
        have l_13 : (0 : Int32).toInt = 0 := rfl
        have e_14 := mt i_lt.mpr (show ¬ (x3 < (0 : Int32)) from c_8)
        unfold cb_X1_aim_17
        refine WP.ite (fun c_15 => ?_) (fun c_15 => ?_)
        · skip
          have q_16 := hI.r 6 rfl
          have e_17 := i_le.mp (show (F 6) ≤ x3 from c_15)
          unfold cb_X1_aim_49
          refine WP.ret ?_
          exact ⟨hI, hB, hT, hO, hK, trivial⟩
        · skip
          have q_18 := hI.r 6 rfl
          have e_19 := mt i_le.mpr (show ¬ ((F 6) ≤ x3) from c_15)
          unfold cb_X1_aim_25
          refine WP.ix (show vp_in x3 8400 from vp_in_iff.mpr ⟨by omega, by omega⟩) ?_
          refine WP.ix (show vp_in x3 8400 from vp_in_iff.mpr ⟨by omega, by omega⟩) ?_
          have j_20 : CI F (gup G 5 x3.toNatClampNeg x2) := CI.g (by decide) hI
          unfold cb_X1_aim_40
          have q_21 := i_rng x2
          have q_22 := i_rng (G 5 x3.toNatClampNeg)
          first | have e_23 : (x4 + (1 : Int32)).toInt = x4.toInt + (1) := i_addn x4 rfl (by omega) (by omega) | have e_24 := i_rng (x4 + (1 : Int32))
          exact ihn x2 (G 5 x3.toNatClampNeg) (x4 + (1 : Int32)) F (gup G 5 x3.toNatClampNeg x2) j_20 (KB.g (by decide) hB) hT hO hK (by omega)
theorem cs_X1_aim {fu : Nat} (hfu : 8589934592 ≤ fu) (x1 : Int32) (x2 : Int32) (F : PF) (G : PG) (hI : CI F G) : WP (cf_X1_aim fu x1 x2 F G) (fun r' F' G' => CI F' G' ∧ KB F G F' G' ∧ KT F F' ∧ KO F F' ∧ KK F F' ∧ True) := by
  unfold cf_X1_aim
  unfold cb_X1_aim_0
  have q_1 := i_rng x2
  have q_2 := i_rng x1
  have l_3 : (0 : Int32).toInt = 0 := rfl
  exact cz_X1_aim_5 (F0 := F) (G0 := G) hfu fu x2 x1 (0 : Int32) F G hI (KB.rf : KB F G F G) (rfl : KT F F) (rfl : KO F F) (rfl : KK F F) (by omega)
theorem cs_X1_cut {fu : Nat} (hfu : 8589934592 ≤ fu) (x1 : Int32) (F : PF) (G : PG) (hI : CI F G) : WP (cf_X1_cut fu x1 F G) (fun r' F' G' => CI F' G' ∧ KB F G F' G' ∧ KT F F' ∧ KO F F' ∧ KK F F' ∧ True) := by
  unfold cf_X1_cut
  unfold cb_X1_cut_0
  refine WP.ite (fun c_1 => ?_) (fun c_1 => ?_)
  · skip
    have q_2 := i_rng x1
    have l_3 : (0 : Int32).toInt = 0 := rfl
    have e_4 := i_lt.mp (show x1 < (0 : Int32) from c_1)
    unfold cb_X1_cut_17
    refine WP.ret ?_
    exact ⟨hI, (KB.rf : KB F G F G), (rfl : KT F F), (rfl : KO F F), (rfl : KK F F), trivial⟩
  · skip
    have q_5 := i_rng x1
    have l_6 : (0 : Int32).toInt = 0 := rfl
    have e_7 := mt i_lt.mpr (show ¬ (x1 < (0 : Int32)) from c_1)
    unfold cb_X1_cut_4
    refine WP.ite (fun c_8 => ?_) (fun c_8 => ?_)
    · skip
      have q_9 := hI.r 6 rfl
      have e_10 := i_le.mp (show (F 6) ≤ x1 from c_8)
      unfold cb_X1_cut_17
      refine WP.ret ?_
      exact ⟨hI, (KB.rf : KB F G F G), (rfl : KT F F), (rfl : KO F F), (rfl : KK F F), trivial⟩
    · skip
      have q_11 := hI.r 6 rfl
      have e_12 := mt i_le.mpr (show ¬ ((F 6) ≤ x1) from c_8)
      unfold cb_X1_cut_12
      have j_13 : CI (fup F 6 x1) G := CI.rg (k := 6) (x := x1) rfl (by decide) (by decide) hI ⟨by omega, by omega⟩
      unfold cb_X1_cut_17
      refine WP.ret ?_
      exact ⟨j_13, (KB.f (by decide) (KB.rf : KB F G F G)), (KT.f (by decide) (rfl : KT F F)), (KO.f (by decide) (rfl : KO F F)), (KK.f (by decide) (rfl : KK F F)), trivial⟩
theorem cs_X2_comeTo {fu : Nat} (hfu : 8589934592 ≤ fu) (x1 : Int32) (F : PF) (G : PG) (hI : CI F G) : WP (cf_X2_comeTo fu x1 F G) (fun r' F' G' => CI F' G' ∧ KB F G F' G' ∧ KT F F' ∧ KO F F' ∧ True) := by
  unfold cf_X2_comeTo
  unfold cb_X2_comeTo_0
  refine WP.ite (fun c_1 => ?_) (fun c_1 => ?_)
  · skip
    have q_2 := i_rng x1
    have l_3 : (0 : Int32).toInt = 0 := rfl
    have e_4 := i_lt.mp (show x1 < (0 : Int32) from c_1)
    unfold cb_X2_comeTo_15
    refine WP.ret ?_
    exact ⟨hI, (KB.rf : KB F G F G), (rfl : KT F F), (rfl : KO F F), trivial⟩
  · skip
    have q_5 := i_rng x1
    have l_6 : (0 : Int32).toInt = 0 := rfl
    have e_7 := mt i_lt.mpr (show ¬ (x1 < (0 : Int32)) from c_1)
    unfold cb_X2_comeTo_4
    refine WP.ite (fun c_8 => ?_) (fun c_8 => ?_)
    · skip
      have q_9 := hI.r 93 rfl
      have e_10 := i_lt.mp (show x1 < (F 93) from c_8)
      unfold cb_X2_comeTo_16
      have j_11 : CI (fup F 9 x1) G := CI.fr rfl hI
      unfold cb_X2_comeTo_21
      refine WP.ix (show vp_in x1 4001 from vp_in_iff.mpr ⟨by omega, by omega⟩) ?_
      have q_12 := i_rng (G 90 x1.toNatClampNeg)
      have j_13 : CI (fup (fup F 9 x1) 11 (G 90 x1.toNatClampNeg)) G := CI.fr rfl j_11
      unfold cb_X2_comeTo_34
      refine WP.ix (show vp_in x1 4001 from vp_in_iff.mpr ⟨by omega, by omega⟩) ?_
      have q_14 := i_rng (G 91 x1.toNatClampNeg)
      have j_15 : CI (fup (fup (fup F 9 x1) 11 (G 90 x1.toNatClampNeg)) 12 (G 91 x1.toNatClampNeg)) G := CI.fr rfl j_13
      unfold cb_X2_comeTo_47
      refine WP.ix (show vp_in x1 4001 from vp_in_iff.mpr ⟨by omega, by omega⟩) ?_
      have q_16 := i_rng (G 92 x1.toNatClampNeg)
      have j_17 : CI (fup (fup (fup (fup F 9 x1) 11 (G 90 x1.toNatClampNeg)) 12 (G 91 x1.toNatClampNeg)) 13 (G 92 x1.toNatClampNeg)) G := CI.fr rfl j_15
      unfold cb_X2_comeTo_60
      refine WP.ite (fun c_18 => ?_) (fun c_18 => ?_)
      · skip
        have l_19 : (1 : Int32).toInt = 1 := rfl
        have e_20 := i_eq.mp (show (G 90 x1.toNatClampNeg) = (1 : Int32) from c_18)
        unfold cb_X2_comeTo_68
        have l_21 : (16 : Int32).toInt = 16 := rfl
        have q_23 := i_rng ((G 92 x1.toNatClampNeg) * (16 : Int32))
        first | have e_24 : (((G 92 x1.toNatClampNeg) * (16 : Int32)) + (1 : Int32)).toInt = ((G 92 x1.toNatClampNeg) * (16 : Int32)).toInt + (1) := i_addn ((G 92 x1.toNatClampNeg) * (16 : Int32)) rfl (by omega) (by omega) | have e_25 := i_rng (((G 92 x1.toNatClampNeg) * (16 : Int32)) + (1 : Int32))
        have j_26 : CI (fup (fup (fup (fup (fup F 9 x1) 11 (G 90 x1.toNatClampNeg)) 12 (G 91 x1.toNatClampNeg)) 13 (G 92 x1.toNatClampNeg)) 14 (((G 92 x1.toNatClampNeg) * (16 : Int32)) + (1 : Int32))) G := CI.fr rfl j_17
        unfold cb_X2_comeTo_81
        have l_27 : (-2 : Int32).toInt = -2 := rfl
        have j_28 : CI (fup (fup (fup (fup (fup (fup F 9 x1) 11 (G 90 x1.toNatClampNeg)) 12 (G 91 x1.toNatClampNeg)) 13 (G 92 x1.toNatClampNeg)) 14 (((G 92 x1.toNatClampNeg) * (16 : Int32)) + (1 : Int32))) 11 (-2 : Int32)) G := CI.fr rfl j_26
        unfold cb_X2_comeTo_87
        refine WP.ret ?_
        exact ⟨j_28, (KB.f (by decide) (KB.f (by decide) (KB.f (by decide) (KB.f (by decide) (KB.f (by decide) (KB.f (by decide) (KB.rf : KB F G F G))))))), (KT.f (by decide) (KT.f (by decide) (KT.f (by decide) (KT.f (by decide) (KT.f (by decide) (KT.f (by decide) (rfl : KT F F))))))), (KO.f (by decide) (KO.f (by decide) (KO.f (by decide) (KO.f (by decide) (KO.f (by decide) (KO.f (by decide) (rfl : KO F F))))))), trivial⟩
      · skip
        have l_29 : (1 : Int32).toInt = 1 := rfl
        have e_30 := mt i_eq.mpr (show ¬ ((G 90 x1.toNatClampNeg) = (1 : Int32)) from c_18)
        unfold cb_X2_comeTo_87
        refine WP.ret ?_
        exact ⟨j_17, (KB.f (by decide) (KB.f (by decide) (KB.f (by decide) (KB.f (by decide) (KB.rf : KB F G F G))))), (KT.f (by decide) (KT.f (by decide) (KT.f (by decide) (KT.f (by decide) (rfl : KT F F))))), (KO.f (by decide) (KO.f (by decide) (KO.f (by decide) (KO.f (by decide) (rfl : KO F F))))), trivial⟩
    · skip
      have q_31 := hI.r 93 rfl
      have e_32 := mt i_lt.mpr (show ¬ (x1 < (F 93)) from c_8)
      unfold cb_X2_comeTo_15
      refine WP.ret ?_
      exact ⟨hI, (KB.rf : KB F G F G), (rfl : KT F F), (rfl : KO F F), trivial⟩
theorem cs_X2_start {fu : Nat} (hfu : 8589934592 ≤ fu) (F : PF) (G : PG) (hI : CI F G) : WP (cf_X2_start fu F G) (fun r' F' G' => CI F' G' ∧ KB F G F' G' ∧ KT F F' ∧ ((F' 10).toInt = 0)) := by
  unfold cf_X2_start
  unfold cb_X2_start_0
  have l_1 : (0 : Int32).toInt = 0 := rfl
  have j_2 : CI (fup F 10 (0 : Int32)) G := CI.rg (k := 10) (x := (0 : Int32)) rfl (by decide) (by decide) hI ⟨by omega, by omega⟩
  unfold cb_X2_start_5
  have j_3 : CI (fup (fup F 10 (0 : Int32)) 14 (0 : Int32)) G := CI.fr rfl j_2
  unfold cb_X2_start_10
  refine WP.bind (cs_X2_comeTo hfu (0 : Int32) (fup (fup F 10 (0 : Int32)) 14 (0 : Int32)) G j_3) ?_
  rintro r4 F4 G4 ⟨hI4, hB4, hT4, hO4, hp4⟩
  dsimp only
  have q_5 := hI4.r 10 rfl
  have e_6 : (F4 10).toInt = (0 : Int32).toInt := hO4
  unfold cb_X2_start_15
  refine WP.ret ?_
  have q_7 := hI.r 10 rfl
  exact ⟨hI4, (KB.tr (KB.f (by decide) (KB.f (by decide) (KB.rf : KB F G F G))) hB4), (KT.tr (KT.f (by decide) (KT.f (by decide) (rfl : KT F F))) hT4), (show (F4 10).toInt = 0 by omega)⟩
theorem cs_X10_kind {fu : Nat} (hfu : 8589934592 ≤ fu) (x1 : Int32) (F : PF) (G : PG) (hI : CI F G) : WP (cf_X10_kind fu x1 F G) (fun r' F' G' => F = F' ∧ G = G' ∧ True) := by
  unfold cf_X10_kind
  unfold cb_X10_kind_0
  refine WP.ite (fun c_1 => ?_) (fun c_1 => ?_)
  · skip
    have q_2 := i_rng x1
    have l_3 : (0 : Int32).toInt = 0 := rfl
    have e_4 := i_lt.mp (show x1 < (0 : Int32) from c_1)
    unfold cb_X10_kind_12
    unfold cb_X10_kind_22
    refine WP.ret ?_
    exact ⟨rfl, rfl, trivial⟩
  · skip
    have q_5 := i_rng x1
    have l_6 : (0 : Int32).toInt = 0 := rfl
    have e_7 := mt i_lt.mpr (show ¬ (x1 < (0 : Int32)) from c_1)
    unfold cb_X10_kind_4
    refine WP.ite (fun c_8 => ?_) (fun c_8 => ?_)
    · skip
      have q_9 := hI.r 93 rfl
      have e_10 := i_lt.mp (show x1 < (F 93) from c_8)
      unfold cb_X10_kind_16
      refine WP.ix (show vp_in x1 4001 from vp_in_iff.mpr ⟨by omega, by omega⟩) ?_
      unfold cb_X10_kind_22
      refine WP.ret ?_
      exact ⟨rfl, rfl, trivial⟩
    · skip
      have q_11 := hI.r 93 rfl
      have e_12 := mt i_lt.mpr (show ¬ (x1 < (F 93)) from c_8)
      unfold cb_X10_kind_12
      unfold cb_X10_kind_22
      refine WP.ret ?_
      exact ⟨rfl, rfl, trivial⟩
theorem cs_X2_isNameAlone {fu : Nat} (hfu : 8589934592 ≤ fu) (F : PF) (G : PG) (hI : CI F G) : WP (cf_X2_isNameAlone fu F G) (fun r' F' G' => F = F' ∧ G = G' ∧ (r' = 0 ∨ r' = 1)) := by
  unfold cf_X2_isNameAlone
  unfold cb_X2_isNameAlone_0
  have q_1 := i_rng (F 9)
  first | have e_2 : ((F 9) + (1 : Int32)).toInt = (F 9).toInt + (1) := i_addn (F 9) rfl (by omega) (by omega) | have e_3 := i_rng ((F 9) + (1 : Int32))
  refine WP.bind (cs_X10_kind hfu ((F 9) + (1 : Int32)) F G hI) ?_
  rintro r4 _ _ ⟨rfl, rfl, hp4⟩
  dsimp only
  unfold cb_X2_isNameAlone_13
  refine WP.ite (fun c_5 => ?_) (fun c_5 => ?_)
  · skip
    have q_6 := i_rng (F 11)
    have l_7 : (2 : Int32).toInt = 2 := rfl
    have e_8 := i_eq.mp (show (F 11) = (2 : Int32) from c_5)
    unfold cb_X2_isNameAlone_22
    refine WP.ite (fun c_9 => ?_) (fun c_9 => ?_)
    · skip
      have q_10 := i_rng r4
      have l_11 : (25 : Int32).toInt = 25 := rfl
      have e_12 := i_eq.mp (show r4 = (25 : Int32) from c_9)
      unfold cb_X2_isNameAlone_34
      unfold cb_X2_isNameAlone_39
      have l_13 : (1 : Int32).toInt = 1 := rfl
      refine WP.bz (show (1 : Int32) = 0 ∨ (1 : Int32) = 1 from (by decide)) ?_
      refine WP.ret ?_
      exact ⟨rfl, rfl, (by decide)⟩
    · skip
      have q_14 := i_rng r4
      have l_15 : (25 : Int32).toInt = 25 := rfl
      have e_16 := mt i_eq.mpr (show ¬ (r4 = (25 : Int32)) from c_9)
      unfold cb_X2_isNameAlone_28
      refine WP.ite (fun c_17 => ?_) (fun c_17 => ?_)
      · skip
        have l_18 : (20 : Int32).toInt = 20 := rfl
        have e_19 := i_eq.mp (show r4 = (20 : Int32) from c_17)
        unfold cb_X2_isNameAlone_34
        unfold cb_X2_isNameAlone_39
        have l_20 : (1 : Int32).toInt = 1 := rfl
        refine WP.bz (show (1 : Int32) = 0 ∨ (1 : Int32) = 1 from (by decide)) ?_
        refine WP.ret ?_
        exact ⟨rfl, rfl, (by decide)⟩
      · skip
        have l_21 : (20 : Int32).toInt = 20 := rfl
        have e_22 := mt i_eq.mpr (show ¬ (r4 = (20 : Int32)) from c_17)
        unfold cb_X2_isNameAlone_38
        unfold cb_X2_isNameAlone_39
        have l_23 : (0 : Int32).toInt = 0 := rfl
        refine WP.bz (show (0 : Int32) = 0 ∨ (0 : Int32) = 1 from (by decide)) ?_
        refine WP.ret ?_
        exact ⟨rfl, rfl, (by decide)⟩
  · skip
    have q_24 := i_rng (F 11)
    have l_25 : (2 : Int32).toInt = 2 := rfl
    have e_26 := mt i_eq.mpr (show ¬ ((F 11) = (2 : Int32)) from c_5)
    unfold cb_X2_isNameAlone_38
    unfold cb_X2_isNameAlone_39
    have l_27 : (0 : Int32).toInt = 0 := rfl
    refine WP.bz (show (0 : Int32) = 0 ∨ (0 : Int32) = 1 from (by decide)) ?_
    refine WP.ret ?_
    exact ⟨rfl, rfl, (by decide)⟩
