theorem cs_X0_store {fu : Nat} (hfu : 8589934592 ≤ fu) (x1 : Int32) (F : PF) (G : PG) (hI : CI F G) : WP (cf_X0_store fu x1 F G) (fun r' F' G' => CI F' G' ∧ KT F F' ∧ KO F F' ∧ True) := by
  unfold cf_X0_store
  unfold cb_X0_store_0
  refine WP.ite (fun c_1 => ?_) (fun c_1 => ?_)
  · skip
    have q_2 := i_rng x1
    have l_3 : (12 : Int32).toInt = 12 := rfl
    have q_5 := i_rng ((x1.toUInt32 >>> ((12 : Int32).toUInt32 &&& Int32.toUInt32 31)).toInt32)
    have l_6 : (7 : Int32).toInt = 7 := rfl
    have e_8 := i_and ((x1.toUInt32 >>> ((12 : Int32).toUInt32 &&& Int32.toUInt32 31)).toInt32) (m := 7) 3 (by decide) (by decide)
    have l_9 : (2 : Int32).toInt = 2 := rfl
    have e_10 := i_le.mp (show (((x1.toUInt32 >>> ((12 : Int32).toUInt32 &&& Int32.toUInt32 31)).toInt32) &&& (7 : Int32)) ≤ (2 : Int32) from c_1)
    unfold cb_X0_store_15
    have l_11 : (15 : Int32).toInt = 15 := rfl
    have q_13 := i_rng ((x1.toUInt32 >>> ((15 : Int32).toUInt32 &&& Int32.toUInt32 31)).toInt32)
    have l_14 : (31 : Int32).toInt = 31 := rfl
    have e_16 := i_and ((x1.toUInt32 >>> ((15 : Int32).toUInt32 &&& Int32.toUInt32 31)).toInt32) (m := 31) 5 (by decide) (by decide)
    refine WP.ix (show vp_in (((x1.toUInt32 >>> ((15 : Int32).toUInt32 &&& Int32.toUInt32 31)).toInt32) &&& (31 : Int32)) 32 from vp_in_iff.mpr ⟨by omega, by omega⟩) ?_
    have q_17 := i_rng (G 1 (((x1.toUInt32 >>> ((15 : Int32).toUInt32 &&& Int32.toUInt32 31)).toInt32) &&& (31 : Int32)).toNatClampNeg)
    have l_18 : (25 : Int32).toInt = 25 := rfl
    have e_20 : ((x1 >>> ((25 : Int32) &&& 31))).toInt = x1.toInt / 33554432 := i_shr 25 (by decide)
    have l_21 : (5 : Int32).toInt = 5 := rfl
    have q_23 := i_rng ((x1 >>> ((25 : Int32) &&& 31)) <<< ((5 : Int32) &&& 31))
    have q_25 := i_rng ((x1.toUInt32 >>> ((7 : Int32).toUInt32 &&& Int32.toUInt32 31)).toInt32)
    have e_27 := i_and ((x1.toUInt32 >>> ((7 : Int32).toUInt32 &&& Int32.toUInt32 31)).toInt32) (m := 31) 5 (by decide) (by decide)
    have q_29 := i_rng (((x1 >>> ((25 : Int32) &&& 31)) <<< ((5 : Int32) &&& 31)) ||| (((x1.toUInt32 >>> ((7 : Int32).toUInt32 &&& Int32.toUInt32 31)).toInt32) &&& (31 : Int32)))
    obtain ⟨k_30, e_31, e_32⟩ := i_add (G 1 (((x1.toUInt32 >>> ((15 : Int32).toUInt32 &&& Int32.toUInt32 31)).toInt32) &&& (31 : Int32)).toNatClampNeg) (((x1 >>> ((25 : Int32) &&& 31)) <<< ((5 : Int32) &&& 31)) ||| (((x1.toUInt32 >>> ((7 : Int32).toUInt32 &&& Int32.toUInt32 31)).toInt32) &&& (31 : Int32)))
    have l_33 : (1 : Int32).toInt = 1 := rfl
    have e_35 := i_shl1 (s := (((x1.toUInt32 >>> ((12 : Int32).toUInt32 &&& Int32.toUInt32 31)).toInt32) &&& (7 : Int32))) ⟨by omega, by omega⟩
    refine WP.bind (cs_X0_reach hfu ((G 1 (((x1.toUInt32 >>> ((15 : Int32).toUInt32 &&& Int32.toUInt32 31)).toInt32) &&& (31 : Int32)).toNatClampNeg) + (((x1 >>> ((25 : Int32) &&& 31)) <<< ((5 : Int32) &&& 31)) ||| (((x1.toUInt32 >>> ((7 : Int32).toUInt32 &&& Int32.toUInt32 31)).toInt32) &&& (31 : Int32)))) ((1 : Int32) <<< ((((x1.toUInt32 >>> ((12 : Int32).toUInt32 &&& Int32.toUInt32 31)).toInt32) &&& (7 : Int32)) &&& 31)) F G hI (show 1 ≤ ((1 : Int32) <<< ((((x1.toUInt32 >>> ((12 : Int32).toUInt32 &&& Int32.toUInt32 31)).toInt32) &&& (7 : Int32)) &&& 31)).toInt by omega) (show ((1 : Int32) <<< ((((x1.toUInt32 >>> ((12 : Int32).toUInt32 &&& Int32.toUInt32 31)).toInt32) &&& (7 : Int32)) &&& 31)).toInt ≤ 8 by omega)) ?_
    rintro r36 _ _ ⟨rfl, rfl, hp36⟩
    dsimp only
    have q_37 := i_rng r36
    unfold cb_X0_store_54
    refine WP.ite (fun c_38 => ?_) (fun c_38 => ?_)
    · skip
      have l_39 : (0 : Int32).toInt = 0 := rfl
      have e_40 := i_eq.mp (show r36 = (0 : Int32) from c_38)
      unfold cb_X0_store_64
      have e_42 : ((((G 1 (((x1.toUInt32 >>> ((15 : Int32).toUInt32 &&& Int32.toUInt32 31)).toInt32) &&& (31 : Int32)).toNatClampNeg) + (((x1 >>> ((25 : Int32) &&& 31)) <<< ((5 : Int32) &&& 31)) ||| (((x1.toUInt32 >>> ((7 : Int32).toUInt32 &&& Int32.toUInt32 31)).toInt32) &&& (31 : Int32)))) >>> ((2 : Int32) &&& 31))).toInt = ((G 1 (((x1.toUInt32 >>> ((15 : Int32).toUInt32 &&& Int32.toUInt32 31)).toInt32) &&& (31 : Int32)).toNatClampNeg) + (((x1 >>> ((25 : Int32) &&& 31)) <<< ((5 : Int32) &&& 31)) ||| (((x1.toUInt32 >>> ((7 : Int32).toUInt32 &&& Int32.toUInt32 31)).toInt32) &&& (31 : Int32)))).toInt / 4 := i_shr 2 (by decide)
      refine WP.ix (show vp_in (((G 1 (((x1.toUInt32 >>> ((15 : Int32).toUInt32 &&& Int32.toUInt32 31)).toInt32) &&& (31 : Int32)).toNatClampNeg) + (((x1 >>> ((25 : Int32) &&& 31)) <<< ((5 : Int32) &&& 31)) ||| (((x1.toUInt32 >>> ((7 : Int32).toUInt32 &&& Int32.toUInt32 31)).toInt32) &&& (31 : Int32)))) >>> ((2 : Int32) &&& 31)) 4096 from vp_in_iff.mpr ⟨by omega, by omega⟩) ?_
      have l_43 : (20 : Int32).toInt = 20 := rfl
      have q_45 := i_rng ((x1.toUInt32 >>> ((20 : Int32).toUInt32 &&& Int32.toUInt32 31)).toInt32)
      have e_47 := i_and ((x1.toUInt32 >>> ((20 : Int32).toUInt32 &&& Int32.toUInt32 31)).toInt32) (m := 31) 5 (by decide) (by decide)
      refine WP.ix (show vp_in (((x1.toUInt32 >>> ((20 : Int32).toUInt32 &&& Int32.toUInt32 31)).toInt32) &&& (31 : Int32)) 32 from vp_in_iff.mpr ⟨by omega, by omega⟩) ?_
      refine WP.ix (show vp_in (((G 1 (((x1.toUInt32 >>> ((15 : Int32).toUInt32 &&& Int32.toUInt32 31)).toInt32) &&& (31 : Int32)).toNatClampNeg) + (((x1 >>> ((25 : Int32) &&& 31)) <<< ((5 : Int32) &&& 31)) ||| (((x1.toUInt32 >>> ((7 : Int32).toUInt32 &&& Int32.toUInt32 31)).toInt32) &&& (31 : Int32)))) >>> ((2 : Int32) &&& 31)) 4096 from vp_in_iff.mpr ⟨by omega, by omega⟩) ?_
      have j_48 : CI F (gup G 0 (((G 1 (((x1.toUInt32 >>> ((15 : Int32).toUInt32 &&& Int32.toUInt32 31)).toInt32) &&& (31 : Int32)).toNatClampNeg) + (((x1 >>> ((25 : Int32) &&& 31)) <<< ((5 : Int32) &&& 31)) ||| (((x1.toUInt32 >>> ((7 : Int32).toUInt32 &&& Int32.toUInt32 31)).toInt32) &&& (31 : Int32)))) >>> ((2 : Int32) &&& 31)).toNatClampNeg (((G 0 (((G 1 (((x1.toUInt32 >>> ((15 : Int32).toUInt32 &&& Int32.toUInt32 31)).toInt32) &&& (31 : Int32)).toNatClampNeg) + (((x1 >>> ((25 : Int32) &&& 31)) <<< ((5 : Int32) &&& 31)) ||| (((x1.toUInt32 >>> ((7 : Int32).toUInt32 &&& Int32.toUInt32 31)).toInt32) &&& (31 : Int32)))) >>> ((2 : Int32) &&& 31)).toNatClampNeg) &&& (((((-1 : Int32).toUInt32 >>> (((32 : Int32) - (((1 : Int32) <<< ((((x1.toUInt32 >>> ((12 : Int32).toUInt32 &&& Int32.toUInt32 31)).toInt32) &&& (7 : Int32)) &&& 31)) * (8 : Int32))).toUInt32 &&& Int32.toUInt32 31)).toInt32) <<< (((((G 1 (((x1.toUInt32 >>> ((15 : Int32).toUInt32 &&& Int32.toUInt32 31)).toInt32) &&& (31 : Int32)).toNatClampNeg) + (((x1 >>> ((25 : Int32) &&& 31)) <<< ((5 : Int32) &&& 31)) ||| (((x1.toUInt32 >>> ((7 : Int32).toUInt32 &&& Int32.toUInt32 31)).toInt32) &&& (31 : Int32)))) &&& (3 : Int32)) * (8 : Int32)) &&& 31)) ^^^ (-1 : Int32))) ||| (((G 1 (((x1.toUInt32 >>> ((20 : Int32).toUInt32 &&& Int32.toUInt32 31)).toInt32) &&& (31 : Int32)).toNatClampNeg) <<< (((((G 1 (((x1.toUInt32 >>> ((15 : Int32).toUInt32 &&& Int32.toUInt32 31)).toInt32) &&& (31 : Int32)).toNatClampNeg) + (((x1 >>> ((25 : Int32) &&& 31)) <<< ((5 : Int32) &&& 31)) ||| (((x1.toUInt32 >>> ((7 : Int32).toUInt32 &&& Int32.toUInt32 31)).toInt32) &&& (31 : Int32)))) &&& (3 : Int32)) * (8 : Int32)) &&& 31)) &&& ((((-1 : Int32).toUInt32 >>> (((32 : Int32) - (((1 : Int32) <<< ((((x1.toUInt32 >>> ((12 : Int32).toUInt32 &&& Int32.toUInt32 31)).toInt32) &&& (7 : Int32)) &&& 31)) * (8 : Int32))).toUInt32 &&& Int32.toUInt32 31)).toInt32) <<< (((((G 1 (((x1.toUInt32 >>> ((15 : Int32).toUInt32 &&& Int32.toUInt32 31)).toInt32) &&& (31 : Int32)).toNatClampNeg) + (((x1 >>> ((25 : Int32) &&& 31)) <<< ((5 : Int32) &&& 31)) ||| (((x1.toUInt32 >>> ((7 : Int32).toUInt32 &&& Int32.toUInt32 31)).toInt32) &&& (31 : Int32)))) &&& (3 : Int32)) * (8 : Int32)) &&& 31))))) := CI.g (by decide) hI
      unfold cb_X0_store_131
      refine WP.ret ?_
      exact ⟨j_48, (rfl : KT F F), (rfl : KO F F), trivial⟩
    · skip
      have l_49 : (0 : Int32).toInt = 0 := rfl
      have e_50 := mt i_eq.mpr (show ¬ (r36 = (0 : Int32)) from c_38)
      unfold cb_X0_store_61
      refine WP.ret ?_
      exact ⟨hI, (rfl : KT F F), (rfl : KO F F), trivial⟩
  · skip
    have q_51 := i_rng x1
    have l_52 : (12 : Int32).toInt = 12 := rfl
    have q_54 := i_rng ((x1.toUInt32 >>> ((12 : Int32).toUInt32 &&& Int32.toUInt32 31)).toInt32)
    have l_55 : (7 : Int32).toInt = 7 := rfl
    have e_57 := i_and ((x1.toUInt32 >>> ((12 : Int32).toUInt32 &&& Int32.toUInt32 31)).toInt32) (m := 7) 3 (by decide) (by decide)
    have l_58 : (2 : Int32).toInt = 2 := rfl
    have e_59 := mt i_le.mpr (show ¬ ((((x1.toUInt32 >>> ((12 : Int32).toUInt32 &&& Int32.toUInt32 31)).toInt32) &&& (7 : Int32)) ≤ (2 : Int32)) from c_1)
    unfold cb_X0_store_13
    refine WP.ret ?_
    exact ⟨hI, (rfl : KT F F), (rfl : KO F F), trivial⟩
theorem cs_X0_link {fu : Nat} (hfu : 8589934592 ≤ fu) (x1 : Int32) (x2 : Int32) (F : PF) (G : PG) (hI : CI F G) : WP (cf_X0_link fu x1 x2 F G) (fun r' F' G' => CI F' G' ∧ KT F F' ∧ KO F F' ∧ True) := by
  unfold cf_X0_link
  unfold cb_X0_link_0
  refine WP.ite (fun c_1 => ?_) (fun c_1 => ?_)
  · skip
    have q_2 := i_rng x2
    have l_3 : (3 : Int32).toInt = 3 := rfl
    have e_5 := i_and x2 (m := 3) 2 (by decide) (by decide)
    have l_6 : (0 : Int32).toInt = 0 := rfl
    have e_7 := i_eq.mp (show (x2 &&& (3 : Int32)) = (0 : Int32) from c_1)
    unfold cb_X0_link_8
    have j_8 : CI (fup F 4 x2) G := CI.fr rfl hI
    unfold cb_X0_link_13
    have q_9 := i_rng x1
    have q_10 := i_rng (F 2)
    have l_11 : (4 : Int32).toInt = 4 := rfl
    obtain ⟨k_12, e_13, e_14⟩ := i_add (F 2) (4 : Int32)
    refine WP.bind (cs_X0_keep hfu x1 ((F 2) + (4 : Int32)) (fup F 4 x2) G j_8) ?_
    rintro r15 F15 G15 ⟨hI15, hT15, hO15, hp15⟩
    dsimp only
    have q_16 := hI.r 10 rfl
    have q_17 := hI15.r 10 rfl
    have e_18 : (F15 10).toInt = (F 10).toInt := hO15
    unfold cb_X0_link_24
    refine WP.ret ?_
    exact ⟨hI15, (KT.tr (KT.f (by decide) (rfl : KT F F)) hT15), (KO.tr (KO.f (by decide) (rfl : KO F F)) hO15), trivial⟩
  · skip
    have q_19 := i_rng x2
    have l_20 : (3 : Int32).toInt = 3 := rfl
    have e_22 := i_and x2 (m := 3) 2 (by decide) (by decide)
    have l_23 : (0 : Int32).toInt = 0 := rfl
    have e_24 := mt i_eq.mpr (show ¬ ((x2 &&& (3 : Int32)) = (0 : Int32)) from c_1)
    unfold cb_X0_link_6
    refine WP.ret ?_
    exact ⟨hI, (rfl : KT F F), (rfl : KO F F), trivial⟩
theorem cs_X0_offsetJ {fu : Nat} (hfu : 8589934592 ≤ fu) (x0 : Int32) (F : PF) (G : PG) (hI : CI F G) : WP (cf_X0_offsetJ fu x0 F G) (fun r' F' G' => F = F' ∧ G = G' ∧ True) := by
  unfold cf_X0_offsetJ
  unfold cb_X0_offsetJ_0
  refine WP.ret ?_
  exact ⟨rfl, rfl, trivial⟩
theorem cs_X0_offsetB {fu : Nat} (hfu : 8589934592 ≤ fu) (x0 : Int32) (F : PF) (G : PG) (hI : CI F G) : WP (cf_X0_offsetB fu x0 F G) (fun r' F' G' => F = F' ∧ G = G' ∧ True) := by
  unfold cf_X0_offsetB
  unfold cb_X0_offsetB_0
  refine WP.ret ?_
  exact ⟨rfl, rfl, trivial⟩
theorem cs_X0_branch {fu : Nat} (hfu : 8589934592 ≤ fu) (x1 : Int32) (F : PF) (G : PG) (hI : CI F G) : WP (cf_X0_branch fu x1 F G) (fun r' F' G' => CI F' G' ∧ KT F F' ∧ KO F F' ∧ True) := by
  unfold cf_X0_branch
  unfold cb_X0_branch_0
  have q_1 := i_rng x1
  have l_2 : (15 : Int32).toInt = 15 := rfl
  have q_4 := i_rng ((x1.toUInt32 >>> ((15 : Int32).toUInt32 &&& Int32.toUInt32 31)).toInt32)
  have l_5 : (31 : Int32).toInt = 31 := rfl
  have e_7 := i_and ((x1.toUInt32 >>> ((15 : Int32).toUInt32 &&& Int32.toUInt32 31)).toInt32) (m := 31) 5 (by decide) (by decide)
  refine WP.ix (show vp_in (((x1.toUInt32 >>> ((15 : Int32).toUInt32 &&& Int32.toUInt32 31)).toInt32) &&& (31 : Int32)) 32 from vp_in_iff.mpr ⟨by omega, by omega⟩) ?_
  have l_8 : (20 : Int32).toInt = 20 := rfl
  have q_10 := i_rng ((x1.toUInt32 >>> ((20 : Int32).toUInt32 &&& Int32.toUInt32 31)).toInt32)
  have e_12 := i_and ((x1.toUInt32 >>> ((20 : Int32).toUInt32 &&& Int32.toUInt32 31)).toInt32) (m := 31) 5 (by decide) (by decide)
  refine WP.ix (show vp_in (((x1.toUInt32 >>> ((20 : Int32).toUInt32 &&& Int32.toUInt32 31)).toInt32) &&& (31 : Int32)) 32 from vp_in_iff.mpr ⟨by omega, by omega⟩) ?_
  refine WP.ite (fun c_13 => ?_) (fun c_13 => ?_)
  · skip
    have l_14 : (12 : Int32).toInt = 12 := rfl
    have q_16 := i_rng ((x1.toUInt32 >>> ((12 : Int32).toUInt32 &&& Int32.toUInt32 31)).toInt32)
    have l_17 : (7 : Int32).toInt = 7 := rfl
    have e_19 := i_and ((x1.toUInt32 >>> ((12 : Int32).toUInt32 &&& Int32.toUInt32 31)).toInt32) (m := 7) 3 (by decide) (by decide)
    have l_20 : (2 : Int32).toInt = 2 := rfl
    have e_21 := i_eq.mp (show (((x1.toUInt32 >>> ((12 : Int32).toUInt32 &&& Int32.toUInt32 31)).toInt32) &&& (7 : Int32)) = (2 : Int32) from c_13)
    unfold cb_X0_branch_45
    refine WP.ret ?_
    exact ⟨hI, (rfl : KT F F), (rfl : KO F F), trivial⟩
  · skip
    have l_22 : (12 : Int32).toInt = 12 := rfl
    have q_24 := i_rng ((x1.toUInt32 >>> ((12 : Int32).toUInt32 &&& Int32.toUInt32 31)).toInt32)
    have l_25 : (7 : Int32).toInt = 7 := rfl
    have e_27 := i_and ((x1.toUInt32 >>> ((12 : Int32).toUInt32 &&& Int32.toUInt32 31)).toInt32) (m := 7) 3 (by decide) (by decide)
    have l_28 : (2 : Int32).toInt = 2 := rfl
    have e_29 := mt i_eq.mpr (show ¬ ((((x1.toUInt32 >>> ((12 : Int32).toUInt32 &&& Int32.toUInt32 31)).toInt32) &&& (7 : Int32)) = (2 : Int32)) from c_13)
    unfold cb_X0_branch_40
    refine WP.ite (fun c_30 => ?_) (fun c_30 => ?_)
    · skip
      have l_31 : (3 : Int32).toInt = 3 := rfl
      have e_32 := i_eq.mp (show (((x1.toUInt32 >>> ((12 : Int32).toUInt32 &&& Int32.toUInt32 31)).toInt32) &&& (7 : Int32)) = (3 : Int32) from c_30)
      unfold cb_X0_branch_45
      refine WP.ret ?_
      exact ⟨hI, (rfl : KT F F), (rfl : KO F F), trivial⟩
    · skip
      have l_33 : (3 : Int32).toInt = 3 := rfl
      have e_34 := mt i_eq.mpr (show ¬ ((((x1.toUInt32 >>> ((12 : Int32).toUInt32 &&& Int32.toUInt32 31)).toInt32) &&& (7 : Int32)) = (3 : Int32)) from c_30)
      unfold cb_X0_branch_47
      refine WP.ite (fun c_35 => ?_) (fun c_35 => ?_)
      · skip
        have e_36 := i_le.mp (show (2 : Int32) ≤ (((x1.toUInt32 >>> ((12 : Int32).toUInt32 &&& Int32.toUInt32 31)).toInt32) &&& (7 : Int32)) from c_35)
        unfold cb_X0_branch_68
        refine WP.ite (fun c_37 => ?_) (fun c_37 => ?_)
        · skip
          have l_38 : (6 : Int32).toInt = 6 := rfl
          have e_39 := i_le.mp (show (6 : Int32) ≤ (((x1.toUInt32 >>> ((12 : Int32).toUInt32 &&& Int32.toUInt32 31)).toInt32) &&& (7 : Int32)) from c_37)
          unfold cb_X0_branch_90
          have q_40 := i_rng (G 1 (((x1.toUInt32 >>> ((15 : Int32).toUInt32 &&& Int32.toUInt32 31)).toInt32) &&& (31 : Int32)).toNatClampNeg)
          have q_41 := i_rng (G 1 (((x1.toUInt32 >>> ((20 : Int32).toUInt32 &&& Int32.toUInt32 31)).toInt32) &&& (31 : Int32)).toNatClampNeg)
          refine WP.bind (cs_X0_isBelow hfu (G 1 (((x1.toUInt32 >>> ((15 : Int32).toUInt32 &&& Int32.toUInt32 31)).toInt32) &&& (31 : Int32)).toNatClampNeg) (G 1 (((x1.toUInt32 >>> ((20 : Int32).toUInt32 &&& Int32.toUInt32 31)).toInt32) &&& (31 : Int32)).toNatClampNeg) F G hI) ?_
          rintro r42 _ _ ⟨rfl, rfl, hp42⟩
          dsimp only
          have q_43 := b_rng hp42
          unfold cb_X0_branch_96
          unfold cb_X0_branch_98
          refine WP.ite (fun c_44 => ?_) (fun c_44 => ?_)
          · skip
            have l_45 : (1 : Int32).toInt = 1 := rfl
            have e_47 := i_and (((x1.toUInt32 >>> ((12 : Int32).toUInt32 &&& Int32.toUInt32 31)).toInt32) &&& (7 : Int32)) (m := 1) 1 (by decide) (by decide)
            have e_48 := i_eq.mp (show ((((x1.toUInt32 >>> ((12 : Int32).toUInt32 &&& Int32.toUInt32 31)).toInt32) &&& (7 : Int32)) &&& (1 : Int32)) = (1 : Int32) from c_44)
            unfold cb_X0_branch_107
            unfold cb_X0_branch_112
            refine WP.ite (fun c_49 => ?_) (fun c_49 => ?_)
            · skip
              have e_50 := i_eq.mp (show r42 = (1 : Int32) from c_49)
              unfold cb_X0_branch_115
              refine WP.ret ?_
              exact ⟨hI, (rfl : KT F F), (rfl : KO F F), trivial⟩
            · skip
              have e_51 := mt i_eq.mpr (show ¬ (r42 = (1 : Int32)) from c_49)
              unfold cb_X0_branch_117
              refine WP.bind (cs_X0_offsetB hfu x1 F G hI) ?_
              rintro r52 _ _ ⟨rfl, rfl, hp52⟩
              dsimp only
              unfold cb_X0_branch_125
              refine WP.ite (fun c_53 => ?_) (fun c_53 => ?_)
              · skip
                have q_54 := i_rng (F 2)
                have q_55 := i_rng r52
                obtain ⟨k_56, e_57, e_58⟩ := i_add (F 2) r52
                have e_60 := i_and ((F 2) + r52) (m := 3) 2 (by decide) (by decide)
                have l_61 : (0 : Int32).toInt = 0 := rfl
                have e_62 := i_eq.mp (show (((F 2) + r52) &&& (3 : Int32)) = (0 : Int32) from c_53)
                unfold cb_X0_branch_137
                have j_63 : CI (fup F 4 ((F 2) + r52)) G := CI.fr rfl hI
                unfold cb_X0_branch_143
                refine WP.ret ?_
                exact ⟨j_63, (KT.f (by decide) (rfl : KT F F)), (KO.f (by decide) (rfl : KO F F)), trivial⟩
              · skip
                have q_64 := i_rng (F 2)
                have q_65 := i_rng r52
                obtain ⟨k_66, e_67, e_68⟩ := i_add (F 2) r52
                have e_70 := i_and ((F 2) + r52) (m := 3) 2 (by decide) (by decide)
                have l_71 : (0 : Int32).toInt = 0 := rfl
                have e_72 := mt i_eq.mpr (show ¬ ((((F 2) + r52) &&& (3 : Int32)) = (0 : Int32)) from c_53)
                unfold cb_X0_branch_135
                refine WP.ret ?_
                exact ⟨hI, (rfl : KT F F), (rfl : KO F F), trivial⟩
          · skip
            have l_73 : (1 : Int32).toInt = 1 := rfl
            have e_75 := i_and (((x1.toUInt32 >>> ((12 : Int32).toUInt32 &&& Int32.toUInt32 31)).toInt32) &&& (7 : Int32)) (m := 1) 1 (by decide) (by decide)
            have e_76 := mt i_eq.mpr (show ¬ (((((x1.toUInt32 >>> ((12 : Int32).toUInt32 &&& Int32.toUInt32 31)).toInt32) &&& (7 : Int32)) &&& (1 : Int32)) = (1 : Int32)) from c_44)
            unfold cb_X0_branch_111
            unfold cb_X0_branch_112
            refine WP.ite (fun c_77 => ?_) (fun c_77 => ?_)
            · skip
              have l_78 : (0 : Int32).toInt = 0 := rfl
              have e_79 := i_eq.mp (show r42 = (0 : Int32) from c_77)
              unfold cb_X0_branch_115
              refine WP.ret ?_
              exact ⟨hI, (rfl : KT F F), (rfl : KO F F), trivial⟩
            · skip
              have l_80 : (0 : Int32).toInt = 0 := rfl
              have e_81 := mt i_eq.mpr (show ¬ (r42 = (0 : Int32)) from c_77)
              unfold cb_X0_branch_117
              refine WP.bind (cs_X0_offsetB hfu x1 F G hI) ?_
              rintro r82 _ _ ⟨rfl, rfl, hp82⟩
              dsimp only
              unfold cb_X0_branch_125
              refine WP.ite (fun c_83 => ?_) (fun c_83 => ?_)
              · skip
                have q_84 := i_rng (F 2)
                have q_85 := i_rng r82
                obtain ⟨k_86, e_87, e_88⟩ := i_add (F 2) r82
                have e_90 := i_and ((F 2) + r82) (m := 3) 2 (by decide) (by decide)
                have e_91 := i_eq.mp (show (((F 2) + r82) &&& (3 : Int32)) = (0 : Int32) from c_83)
                unfold cb_X0_branch_137
                have j_92 : CI (fup F 4 ((F 2) + r82)) G := CI.fr rfl hI
                unfold cb_X0_branch_143
                refine WP.ret ?_
                exact ⟨j_92, (KT.f (by decide) (rfl : KT F F)), (KO.f (by decide) (rfl : KO F F)), trivial⟩
              · skip
                have q_93 := i_rng (F 2)
                have q_94 := i_rng r82
                obtain ⟨k_95, e_96, e_97⟩ := i_add (F 2) r82
                have e_99 := i_and ((F 2) + r82) (m := 3) 2 (by decide) (by decide)
                have e_100 := mt i_eq.mpr (show ¬ ((((F 2) + r82) &&& (3 : Int32)) = (0 : Int32)) from c_83)
                unfold cb_X0_branch_135
                refine WP.ret ?_
                exact ⟨hI, (rfl : KT F F), (rfl : KO F F), trivial⟩
        · skip
          have l_101 : (6 : Int32).toInt = 6 := rfl
          have e_102 := mt i_le.mpr (show ¬ ((6 : Int32) ≤ (((x1.toUInt32 >>> ((12 : Int32).toUInt32 &&& Int32.toUInt32 31)).toInt32) &&& (7 : Int32))) from c_37)
          unfold cb_X0_branch_74
          refine WP.ite (fun c_103 => ?_) (fun c_103 => ?_)
          · skip
            have q_104 := i_rng (G 1 (((x1.toUInt32 >>> ((20 : Int32).toUInt32 &&& Int32.toUInt32 31)).toInt32) &&& (31 : Int32)).toNatClampNeg)
            have q_105 := i_rng (G 1 (((x1.toUInt32 >>> ((15 : Int32).toUInt32 &&& Int32.toUInt32 31)).toInt32) &&& (31 : Int32)).toNatClampNeg)
            have e_106 := i_le.mp (show (G 1 (((x1.toUInt32 >>> ((20 : Int32).toUInt32 &&& Int32.toUInt32 31)).toInt32) &&& (31 : Int32)).toNatClampNeg) ≤ (G 1 (((x1.toUInt32 >>> ((15 : Int32).toUInt32 &&& Int32.toUInt32 31)).toInt32) &&& (31 : Int32)).toNatClampNeg) from c_103)
            unfold cb_X0_branch_84
            unfold cb_X0_branch_85
            unfold cb_X0_branch_98
            refine WP.ite (fun c_107 => ?_) (fun c_107 => ?_)
            · skip
              have l_108 : (1 : Int32).toInt = 1 := rfl
              have e_110 := i_and (((x1.toUInt32 >>> ((12 : Int32).toUInt32 &&& Int32.toUInt32 31)).toInt32) &&& (7 : Int32)) (m := 1) 1 (by decide) (by decide)
              have e_111 := i_eq.mp (show ((((x1.toUInt32 >>> ((12 : Int32).toUInt32 &&& Int32.toUInt32 31)).toInt32) &&& (7 : Int32)) &&& (1 : Int32)) = (1 : Int32) from c_107)
              unfold cb_X0_branch_107
              unfold cb_X0_branch_112
              refine WP.ite (fun c_112 => absurd c_112 (by decide)) (fun _ => ?_)
              unfold cb_X0_branch_117
              refine WP.bind (cs_X0_offsetB hfu x1 F G hI) ?_
              rintro r113 _ _ ⟨rfl, rfl, hp113⟩
              dsimp only
              unfold cb_X0_branch_125
              refine WP.ite (fun c_114 => ?_) (fun c_114 => ?_)
              · skip
                have q_115 := i_rng (F 2)
                have q_116 := i_rng r113
                obtain ⟨k_117, e_118, e_119⟩ := i_add (F 2) r113
                have e_121 := i_and ((F 2) + r113) (m := 3) 2 (by decide) (by decide)
                have l_122 : (0 : Int32).toInt = 0 := rfl
                have e_123 := i_eq.mp (show (((F 2) + r113) &&& (3 : Int32)) = (0 : Int32) from c_114)
                unfold cb_X0_branch_137
                have j_124 : CI (fup F 4 ((F 2) + r113)) G := CI.fr rfl hI
                unfold cb_X0_branch_143
                refine WP.ret ?_
                exact ⟨j_124, (KT.f (by decide) (rfl : KT F F)), (KO.f (by decide) (rfl : KO F F)), trivial⟩
              · skip
                have q_125 := i_rng (F 2)
                have q_126 := i_rng r113
                obtain ⟨k_127, e_128, e_129⟩ := i_add (F 2) r113
                have e_131 := i_and ((F 2) + r113) (m := 3) 2 (by decide) (by decide)
                have l_132 : (0 : Int32).toInt = 0 := rfl
                have e_133 := mt i_eq.mpr (show ¬ ((((F 2) + r113) &&& (3 : Int32)) = (0 : Int32)) from c_114)
                unfold cb_X0_branch_135
                refine WP.ret ?_
                exact ⟨hI, (rfl : KT F F), (rfl : KO F F), trivial⟩
            · skip
              have l_134 : (1 : Int32).toInt = 1 := rfl
              have e_136 := i_and (((x1.toUInt32 >>> ((12 : Int32).toUInt32 &&& Int32.toUInt32 31)).toInt32) &&& (7 : Int32)) (m := 1) 1 (by decide) (by decide)
              have e_137 := mt i_eq.mpr (show ¬ (((((x1.toUInt32 >>> ((12 : Int32).toUInt32 &&& Int32.toUInt32 31)).toInt32) &&& (7 : Int32)) &&& (1 : Int32)) = (1 : Int32)) from c_107)
              unfold cb_X0_branch_111
              unfold cb_X0_branch_112
              refine WP.ite (fun _ => ?_) (fun c_138 => absurd (by decide) c_138)
              unfold cb_X0_branch_115
              refine WP.ret ?_
              exact ⟨hI, (rfl : KT F F), (rfl : KO F F), trivial⟩
          · skip
            have q_139 := i_rng (G 1 (((x1.toUInt32 >>> ((20 : Int32).toUInt32 &&& Int32.toUInt32 31)).toInt32) &&& (31 : Int32)).toNatClampNeg)
            have q_140 := i_rng (G 1 (((x1.toUInt32 >>> ((15 : Int32).toUInt32 &&& Int32.toUInt32 31)).toInt32) &&& (31 : Int32)).toNatClampNeg)
            have e_141 := mt i_le.mpr (show ¬ ((G 1 (((x1.toUInt32 >>> ((20 : Int32).toUInt32 &&& Int32.toUInt32 31)).toInt32) &&& (31 : Int32)).toNatClampNeg) ≤ (G 1 (((x1.toUInt32 >>> ((15 : Int32).toUInt32 &&& Int32.toUInt32 31)).toInt32) &&& (31 : Int32)).toNatClampNeg)) from c_103)
            unfold cb_X0_branch_80
            unfold cb_X0_branch_85
            unfold cb_X0_branch_98
            refine WP.ite (fun c_142 => ?_) (fun c_142 => ?_)
            · skip
              have l_143 : (1 : Int32).toInt = 1 := rfl
              have e_145 := i_and (((x1.toUInt32 >>> ((12 : Int32).toUInt32 &&& Int32.toUInt32 31)).toInt32) &&& (7 : Int32)) (m := 1) 1 (by decide) (by decide)
              have e_146 := i_eq.mp (show ((((x1.toUInt32 >>> ((12 : Int32).toUInt32 &&& Int32.toUInt32 31)).toInt32) &&& (7 : Int32)) &&& (1 : Int32)) = (1 : Int32) from c_142)
              unfold cb_X0_branch_107
              unfold cb_X0_branch_112
              refine WP.ite (fun _ => ?_) (fun c_147 => absurd (by decide) c_147)
              unfold cb_X0_branch_115
              refine WP.ret ?_
              exact ⟨hI, (rfl : KT F F), (rfl : KO F F), trivial⟩
            · skip
              have l_148 : (1 : Int32).toInt = 1 := rfl
              have e_150 := i_and (((x1.toUInt32 >>> ((12 : Int32).toUInt32 &&& Int32.toUInt32 31)).toInt32) &&& (7 : Int32)) (m := 1) 1 (by decide) (by decide)
              have e_151 := mt i_eq.mpr (show ¬ (((((x1.toUInt32 >>> ((12 : Int32).toUInt32 &&& Int32.toUInt32 31)).toInt32) &&& (7 : Int32)) &&& (1 : Int32)) = (1 : Int32)) from c_142)
              unfold cb_X0_branch_111
              unfold cb_X0_branch_112
              refine WP.ite (fun c_152 => absurd c_152 (by decide)) (fun _ => ?_)
              unfold cb_X0_branch_117
              refine WP.bind (cs_X0_offsetB hfu x1 F G hI) ?_
              rintro r153 _ _ ⟨rfl, rfl, hp153⟩
              dsimp only
              unfold cb_X0_branch_125
              refine WP.ite (fun c_154 => ?_) (fun c_154 => ?_)
              · skip
                have q_155 := i_rng (F 2)
                have q_156 := i_rng r153
                obtain ⟨k_157, e_158, e_159⟩ := i_add (F 2) r153
                have e_161 := i_and ((F 2) + r153) (m := 3) 2 (by decide) (by decide)
                have l_162 : (0 : Int32).toInt = 0 := rfl
                have e_163 := i_eq.mp (show (((F 2) + r153) &&& (3 : Int32)) = (0 : Int32) from c_154)
                unfold cb_X0_branch_137
                have j_164 : CI (fup F 4 ((F 2) + r153)) G := CI.fr rfl hI
                unfold cb_X0_branch_143
                refine WP.ret ?_
                exact ⟨j_164, (KT.f (by decide) (rfl : KT F F)), (KO.f (by decide) (rfl : KO F F)), trivial⟩
              · skip
                have q_165 := i_rng (F 2)
                have q_166 := i_rng r153
                obtain ⟨k_167, e_168, e_169⟩ := i_add (F 2) r153
                have e_171 := i_and ((F 2) + r153) (m := 3) 2 (by decide) (by decide)
                have l_172 : (0 : Int32).toInt = 0 := rfl
                have e_173 := mt i_eq.mpr (show ¬ ((((F 2) + r153) &&& (3 : Int32)) = (0 : Int32)) from c_154)
                unfold cb_X0_branch_135
                refine WP.ret ?_
                exact ⟨hI, (rfl : KT F F), (rfl : KO F F), trivial⟩
      · skip
        have e_174 := mt i_le.mpr (show ¬ ((2 : Int32) ≤ (((x1.toUInt32 >>> ((12 : Int32).toUInt32 &&& Int32.toUInt32 31)).toInt32) &&& (7 : Int32))) from c_35)
        unfold cb_X0_branch_52
        refine WP.ite (fun c_175 => ?_) (fun c_175 => ?_)
        · skip
          have q_176 := i_rng (G 1 (((x1.toUInt32 >>> ((15 : Int32).toUInt32 &&& Int32.toUInt32 31)).toInt32) &&& (31 : Int32)).toNatClampNeg)
          have q_177 := i_rng (G 1 (((x1.toUInt32 >>> ((20 : Int32).toUInt32 &&& Int32.toUInt32 31)).toInt32) &&& (31 : Int32)).toNatClampNeg)
          have e_178 := i_eq.mp (show (G 1 (((x1.toUInt32 >>> ((15 : Int32).toUInt32 &&& Int32.toUInt32 31)).toInt32) &&& (31 : Int32)).toNatClampNeg) = (G 1 (((x1.toUInt32 >>> ((20 : Int32).toUInt32 &&& Int32.toUInt32 31)).toInt32) &&& (31 : Int32)).toNatClampNeg) from c_175)
          unfold cb_X0_branch_58
          unfold cb_X0_branch_63
          unfold cb_X0_branch_98
          refine WP.ite (fun c_179 => ?_) (fun c_179 => ?_)
          · skip
            have l_180 : (1 : Int32).toInt = 1 := rfl
            have e_182 := i_and (((x1.toUInt32 >>> ((12 : Int32).toUInt32 &&& Int32.toUInt32 31)).toInt32) &&& (7 : Int32)) (m := 1) 1 (by decide) (by decide)
            have e_183 := i_eq.mp (show ((((x1.toUInt32 >>> ((12 : Int32).toUInt32 &&& Int32.toUInt32 31)).toInt32) &&& (7 : Int32)) &&& (1 : Int32)) = (1 : Int32) from c_179)
            unfold cb_X0_branch_107
            unfold cb_X0_branch_112
            refine WP.ite (fun _ => ?_) (fun c_184 => absurd (by decide) c_184)
            unfold cb_X0_branch_115
            refine WP.ret ?_
            exact ⟨hI, (rfl : KT F F), (rfl : KO F F), trivial⟩
          · skip
            have l_185 : (1 : Int32).toInt = 1 := rfl
            have e_187 := i_and (((x1.toUInt32 >>> ((12 : Int32).toUInt32 &&& Int32.toUInt32 31)).toInt32) &&& (7 : Int32)) (m := 1) 1 (by decide) (by decide)
            have e_188 := mt i_eq.mpr (show ¬ (((((x1.toUInt32 >>> ((12 : Int32).toUInt32 &&& Int32.toUInt32 31)).toInt32) &&& (7 : Int32)) &&& (1 : Int32)) = (1 : Int32)) from c_179)
            unfold cb_X0_branch_111
            unfold cb_X0_branch_112
            refine WP.ite (fun c_189 => absurd c_189 (by decide)) (fun _ => ?_)
            unfold cb_X0_branch_117
            refine WP.bind (cs_X0_offsetB hfu x1 F G hI) ?_
            rintro r190 _ _ ⟨rfl, rfl, hp190⟩
            dsimp only
            unfold cb_X0_branch_125
            refine WP.ite (fun c_191 => ?_) (fun c_191 => ?_)
            · skip
              have q_192 := i_rng (F 2)
              have q_193 := i_rng r190
              obtain ⟨k_194, e_195, e_196⟩ := i_add (F 2) r190
              have e_198 := i_and ((F 2) + r190) (m := 3) 2 (by decide) (by decide)
              have l_199 : (0 : Int32).toInt = 0 := rfl
              have e_200 := i_eq.mp (show (((F 2) + r190) &&& (3 : Int32)) = (0 : Int32) from c_191)
              unfold cb_X0_branch_137
              have j_201 : CI (fup F 4 ((F 2) + r190)) G := CI.fr rfl hI
              unfold cb_X0_branch_143
              refine WP.ret ?_
              exact ⟨j_201, (KT.f (by decide) (rfl : KT F F)), (KO.f (by decide) (rfl : KO F F)), trivial⟩
            · skip
              have q_202 := i_rng (F 2)
              have q_203 := i_rng r190
              obtain ⟨k_204, e_205, e_206⟩ := i_add (F 2) r190
              have e_208 := i_and ((F 2) + r190) (m := 3) 2 (by decide) (by decide)
              have l_209 : (0 : Int32).toInt = 0 := rfl
              have e_210 := mt i_eq.mpr (show ¬ ((((F 2) + r190) &&& (3 : Int32)) = (0 : Int32)) from c_191)
              unfold cb_X0_branch_135
              refine WP.ret ?_
              exact ⟨hI, (rfl : KT F F), (rfl : KO F F), trivial⟩
        · skip
          have q_211 := i_rng (G 1 (((x1.toUInt32 >>> ((15 : Int32).toUInt32 &&& Int32.toUInt32 31)).toInt32) &&& (31 : Int32)).toNatClampNeg)
          have q_212 := i_rng (G 1 (((x1.toUInt32 >>> ((20 : Int32).toUInt32 &&& Int32.toUInt32 31)).toInt32) &&& (31 : Int32)).toNatClampNeg)
          have e_213 := mt i_eq.mpr (show ¬ ((G 1 (((x1.toUInt32 >>> ((15 : Int32).toUInt32 &&& Int32.toUInt32 31)).toInt32) &&& (31 : Int32)).toNatClampNeg) = (G 1 (((x1.toUInt32 >>> ((20 : Int32).toUInt32 &&& Int32.toUInt32 31)).toInt32) &&& (31 : Int32)).toNatClampNeg)) from c_175)
          unfold cb_X0_branch_62
          unfold cb_X0_branch_63
          unfold cb_X0_branch_98
          refine WP.ite (fun c_214 => ?_) (fun c_214 => ?_)
          · skip
            have l_215 : (1 : Int32).toInt = 1 := rfl
            have e_217 := i_and (((x1.toUInt32 >>> ((12 : Int32).toUInt32 &&& Int32.toUInt32 31)).toInt32) &&& (7 : Int32)) (m := 1) 1 (by decide) (by decide)
            have e_218 := i_eq.mp (show ((((x1.toUInt32 >>> ((12 : Int32).toUInt32 &&& Int32.toUInt32 31)).toInt32) &&& (7 : Int32)) &&& (1 : Int32)) = (1 : Int32) from c_214)
            unfold cb_X0_branch_107
            unfold cb_X0_branch_112
            refine WP.ite (fun c_219 => absurd c_219 (by decide)) (fun _ => ?_)
            unfold cb_X0_branch_117
            refine WP.bind (cs_X0_offsetB hfu x1 F G hI) ?_
            rintro r220 _ _ ⟨rfl, rfl, hp220⟩
            dsimp only
            unfold cb_X0_branch_125
            refine WP.ite (fun c_221 => ?_) (fun c_221 => ?_)
            · skip
              have q_222 := i_rng (F 2)
              have q_223 := i_rng r220
              obtain ⟨k_224, e_225, e_226⟩ := i_add (F 2) r220
              have e_228 := i_and ((F 2) + r220) (m := 3) 2 (by decide) (by decide)
              have l_229 : (0 : Int32).toInt = 0 := rfl
              have e_230 := i_eq.mp (show (((F 2) + r220) &&& (3 : Int32)) = (0 : Int32) from c_221)
              unfold cb_X0_branch_137
              have j_231 : CI (fup F 4 ((F 2) + r220)) G := CI.fr rfl hI
              unfold cb_X0_branch_143
              refine WP.ret ?_
              exact ⟨j_231, (KT.f (by decide) (rfl : KT F F)), (KO.f (by decide) (rfl : KO F F)), trivial⟩
            · skip
              have q_232 := i_rng (F 2)
              have q_233 := i_rng r220
              obtain ⟨k_234, e_235, e_236⟩ := i_add (F 2) r220
              have e_238 := i_and ((F 2) + r220) (m := 3) 2 (by decide) (by decide)
              have l_239 : (0 : Int32).toInt = 0 := rfl
              have e_240 := mt i_eq.mpr (show ¬ ((((F 2) + r220) &&& (3 : Int32)) = (0 : Int32)) from c_221)
              unfold cb_X0_branch_135
              refine WP.ret ?_
              exact ⟨hI, (rfl : KT F F), (rfl : KO F F), trivial⟩
          · skip
            have l_241 : (1 : Int32).toInt = 1 := rfl
            have e_243 := i_and (((x1.toUInt32 >>> ((12 : Int32).toUInt32 &&& Int32.toUInt32 31)).toInt32) &&& (7 : Int32)) (m := 1) 1 (by decide) (by decide)
            have e_244 := mt i_eq.mpr (show ¬ (((((x1.toUInt32 >>> ((12 : Int32).toUInt32 &&& Int32.toUInt32 31)).toInt32) &&& (7 : Int32)) &&& (1 : Int32)) = (1 : Int32)) from c_214)
            unfold cb_X0_branch_111
            unfold cb_X0_branch_112
            refine WP.ite (fun _ => ?_) (fun c_245 => absurd (by decide) c_245)
            unfold cb_X0_branch_115
            refine WP.ret ?_
            exact ⟨hI, (rfl : KT F F), (rfl : KO F F), trivial⟩
theorem cs_X0_does {fu : Nat} (hfu : 8589934592 ≤ fu) (x1 : Int32) (F : PF) (G : PG) (hI : CI F G) : WP (cf_X0_does fu x1 F G) (fun r' F' G' => CI F' G' ∧ KT F F' ∧ KO F F' ∧ True) := by
  unfold cf_X0_does
  unfold cb_X0_does_0
  refine WP.ite (fun c_1 => ?_) (fun c_1 => ?_)
  · skip
    have q_2 := i_rng x1
    have l_3 : (127 : Int32).toInt = 127 := rfl
    have e_5 := i_and x1 (m := 127) 7 (by decide) (by decide)
    have l_6 : (3 : Int32).toInt = 3 := rfl
    have e_7 := i_eq.mp (show (x1 &&& (127 : Int32)) = (3 : Int32) from c_1)
    unfold cb_X0_does_210
    refine WP.bind (cs_X0_load hfu x1 F G hI) ?_
    rintro r8 F8 G8 ⟨hI8, hT8, hO8, hp8⟩
    dsimp only
    have q_9 := hI.r 10 rfl
    have q_10 := hI8.r 10 rfl
    have e_11 : (F8 10).toInt = (F 10).toInt := hO8
    unfold cb_X0_does_215
    refine WP.ret ?_
    exact ⟨hI8, (KT.tr (rfl : KT F F) hT8), (KO.tr (rfl : KO F F) hO8), trivial⟩
  have q_12 := i_rng x1
  have l_13 : (127 : Int32).toInt = 127 := rfl
  have e_15 := i_and x1 (m := 127) 7 (by decide) (by decide)
  have l_16 : (3 : Int32).toInt = 3 := rfl
  have e_17 := mt i_eq.mpr (show ¬ ((x1 &&& (127 : Int32)) = (3 : Int32)) from c_1)
  refine WP.ite (fun c_18 => ?_) (fun c_18 => ?_)
  · skip
    have l_19 : (15 : Int32).toInt = 15 := rfl
    have e_20 := i_eq.mp (show (x1 &&& (127 : Int32)) = (15 : Int32) from c_18)
    unfold cb_X0_does_234
    refine WP.ite (fun c_21 => ?_) (fun c_21 => ?_)
    · skip
      have l_22 : (12 : Int32).toInt = 12 := rfl
      have q_24 := i_rng ((x1.toUInt32 >>> ((12 : Int32).toUInt32 &&& Int32.toUInt32 31)).toInt32)
      have l_25 : (7 : Int32).toInt = 7 := rfl
      have e_27 := i_and ((x1.toUInt32 >>> ((12 : Int32).toUInt32 &&& Int32.toUInt32 31)).toInt32) (m := 7) 3 (by decide) (by decide)
      have l_28 : (0 : Int32).toInt = 0 := rfl
      have e_29 := i_eq.mp (show (((x1.toUInt32 >>> ((12 : Int32).toUInt32 &&& Int32.toUInt32 31)).toInt32) &&& (7 : Int32)) = (0 : Int32) from c_21)
      unfold cb_X0_does_244
      unfold cb_X0_does_249
      refine WP.ret ?_
      exact ⟨hI, (rfl : KT F F), (rfl : KO F F), trivial⟩
    · skip
      have l_30 : (12 : Int32).toInt = 12 := rfl
      have q_32 := i_rng ((x1.toUInt32 >>> ((12 : Int32).toUInt32 &&& Int32.toUInt32 31)).toInt32)
      have l_33 : (7 : Int32).toInt = 7 := rfl
      have e_35 := i_and ((x1.toUInt32 >>> ((12 : Int32).toUInt32 &&& Int32.toUInt32 31)).toInt32) (m := 7) 3 (by decide) (by decide)
      have l_36 : (0 : Int32).toInt = 0 := rfl
      have e_37 := mt i_eq.mpr (show ¬ ((((x1.toUInt32 >>> ((12 : Int32).toUInt32 &&& Int32.toUInt32 31)).toInt32) &&& (7 : Int32)) = (0 : Int32)) from c_21)
      unfold cb_X0_does_248
      unfold cb_X0_does_249
      refine WP.ret ?_
      exact ⟨hI, (rfl : KT F F), (rfl : KO F F), trivial⟩
  have l_38 : (15 : Int32).toInt = 15 := rfl
  have e_39 := mt i_eq.mpr (show ¬ ((x1 &&& (127 : Int32)) = (15 : Int32)) from c_18)
  refine WP.ite (fun c_40 => ?_) (fun c_40 => ?_)
  · skip
    have l_41 : (19 : Int32).toInt = 19 := rfl
    have e_42 := i_eq.mp (show (x1 &&& (127 : Int32)) = (19 : Int32) from c_40)
    unfold cb_X0_does_222
    refine WP.bind (cs_X0_withNumber hfu x1 F G hI) ?_
    rintro r43 F43 G43 ⟨hI43, hT43, hO43, hp43⟩
    dsimp only
    have q_44 := hI.r 10 rfl
    have q_45 := hI43.r 10 rfl
    have e_46 : (F43 10).toInt = (F 10).toInt := hO43
    unfold cb_X0_does_227
    refine WP.ret ?_
    exact ⟨hI43, (KT.tr (rfl : KT F F) hT43), (KO.tr (rfl : KO F F) hO43), trivial⟩
  have l_47 : (19 : Int32).toInt = 19 := rfl
  have e_48 := mt i_eq.mpr (show ¬ ((x1 &&& (127 : Int32)) = (19 : Int32)) from c_40)
  refine WP.ite (fun c_49 => ?_) (fun c_49 => ?_)
  · skip
    have l_50 : (23 : Int32).toInt = 23 := rfl
    have e_51 := i_eq.mp (show (x1 &&& (127 : Int32)) = (23 : Int32) from c_49)
    unfold cb_X0_does_113
    have l_52 : (7 : Int32).toInt = 7 := rfl
    have q_54 := i_rng ((x1.toUInt32 >>> ((7 : Int32).toUInt32 &&& Int32.toUInt32 31)).toInt32)
    have l_55 : (31 : Int32).toInt = 31 := rfl
    have e_57 := i_and ((x1.toUInt32 >>> ((7 : Int32).toUInt32 &&& Int32.toUInt32 31)).toInt32) (m := 31) 5 (by decide) (by decide)
    have q_58 := i_rng (F 2)
    have l_59 : (-4096 : Int32).toInt = -4096 := rfl
    have q_61 := i_rng (x1 &&& (-4096 : Int32))
    obtain ⟨k_62, e_63, e_64⟩ := i_add (F 2) (x1 &&& (-4096 : Int32))
    refine WP.bind (cs_X0_keep hfu (((x1.toUInt32 >>> ((7 : Int32).toUInt32 &&& Int32.toUInt32 31)).toInt32) &&& (31 : Int32)) ((F 2) + (x1 &&& (-4096 : Int32))) F G hI) ?_
    rintro r65 F65 G65 ⟨hI65, hT65, hO65, hp65⟩
    dsimp only
    have q_66 := hI.r 10 rfl
    have q_67 := hI65.r 10 rfl
    have e_68 : (F65 10).toInt = (F 10).toInt := hO65
    unfold cb_X0_does_134
    refine WP.ret ?_
    exact ⟨hI65, (KT.tr (rfl : KT F F) hT65), (KO.tr (rfl : KO F F) hO65), trivial⟩
  have l_69 : (23 : Int32).toInt = 23 := rfl
  have e_70 := mt i_eq.mpr (show ¬ ((x1 &&& (127 : Int32)) = (23 : Int32)) from c_49)
  refine WP.ite (fun c_71 => ?_) (fun c_71 => ?_)
  · skip
    have l_72 : (35 : Int32).toInt = 35 := rfl
    have e_73 := i_eq.mp (show (x1 &&& (127 : Int32)) = (35 : Int32) from c_71)
    unfold cb_X0_does_216
    refine WP.bind (cs_X0_store hfu x1 F G hI) ?_
    rintro r74 F74 G74 ⟨hI74, hT74, hO74, hp74⟩
    dsimp only
    have q_75 := hI.r 10 rfl
    have q_76 := hI74.r 10 rfl
    have e_77 : (F74 10).toInt = (F 10).toInt := hO74
    unfold cb_X0_does_221
    refine WP.ret ?_
    exact ⟨hI74, (KT.tr (rfl : KT F F) hT74), (KO.tr (rfl : KO F F) hO74), trivial⟩
  have l_78 : (35 : Int32).toInt = 35 := rfl
  have e_79 := mt i_eq.mpr (show ¬ ((x1 &&& (127 : Int32)) = (35 : Int32)) from c_71)
  refine WP.ite (fun c_80 => ?_) (fun c_80 => ?_)
  · skip
    have l_81 : (51 : Int32).toInt = 51 := rfl
    have e_82 := i_eq.mp (show (x1 &&& (127 : Int32)) = (51 : Int32) from c_80)
    unfold cb_X0_does_228
    refine WP.bind (cs_X0_withRegister hfu x1 F G hI) ?_
    rintro r83 F83 G83 ⟨hI83, hT83, hO83, hp83⟩
    dsimp only
    have q_84 := hI.r 10 rfl
    have q_85 := hI83.r 10 rfl
    have e_86 : (F83 10).toInt = (F 10).toInt := hO83
    unfold cb_X0_does_233
    refine WP.ret ?_
    exact ⟨hI83, (KT.tr (rfl : KT F F) hT83), (KO.tr (rfl : KO F F) hO83), trivial⟩
  have l_87 : (51 : Int32).toInt = 51 := rfl
  have e_88 := mt i_eq.mpr (show ¬ ((x1 &&& (127 : Int32)) = (51 : Int32)) from c_80)
  refine WP.ite (fun c_89 => ?_) (fun c_89 => ?_)
  · skip
    have l_90 : (55 : Int32).toInt = 55 := rfl
    have e_91 := i_eq.mp (show (x1 &&& (127 : Int32)) = (55 : Int32) from c_89)
    unfold cb_X0_does_96
    have l_92 : (7 : Int32).toInt = 7 := rfl
    have q_94 := i_rng ((x1.toUInt32 >>> ((7 : Int32).toUInt32 &&& Int32.toUInt32 31)).toInt32)
    have l_95 : (31 : Int32).toInt = 31 := rfl
    have e_97 := i_and ((x1.toUInt32 >>> ((7 : Int32).toUInt32 &&& Int32.toUInt32 31)).toInt32) (m := 31) 5 (by decide) (by decide)
    have l_98 : (-4096 : Int32).toInt = -4096 := rfl
    have q_100 := i_rng (x1 &&& (-4096 : Int32))
    refine WP.bind (cs_X0_keep hfu (((x1.toUInt32 >>> ((7 : Int32).toUInt32 &&& Int32.toUInt32 31)).toInt32) &&& (31 : Int32)) (x1 &&& (-4096 : Int32)) F G hI) ?_
    rintro r101 F101 G101 ⟨hI101, hT101, hO101, hp101⟩
    dsimp only
    have q_102 := hI.r 10 rfl
    have q_103 := hI101.r 10 rfl
    have e_104 : (F101 10).toInt = (F 10).toInt := hO101
    unfold cb_X0_does_112
    refine WP.ret ?_
    exact ⟨hI101, (KT.tr (rfl : KT F F) hT101), (KO.tr (rfl : KO F F) hO101), trivial⟩
  have l_105 : (55 : Int32).toInt = 55 := rfl
  have e_106 := mt i_eq.mpr (show ¬ ((x1 &&& (127 : Int32)) = (55 : Int32)) from c_89)
  refine WP.ite (fun c_107 => ?_) (fun c_107 => ?_)
  · skip
    have l_108 : (99 : Int32).toInt = 99 := rfl
    have e_109 := i_eq.mp (show (x1 &&& (127 : Int32)) = (99 : Int32) from c_107)
    unfold cb_X0_does_204
    refine WP.bind (cs_X0_branch hfu x1 F G hI) ?_
    rintro r110 F110 G110 ⟨hI110, hT110, hO110, hp110⟩
    dsimp only
    have q_111 := hI.r 10 rfl
    have q_112 := hI110.r 10 rfl
    have e_113 : (F110 10).toInt = (F 10).toInt := hO110
    unfold cb_X0_does_209
    refine WP.ret ?_
    exact ⟨hI110, (KT.tr (rfl : KT F F) hT110), (KO.tr (rfl : KO F F) hO110), trivial⟩
  have l_114 : (99 : Int32).toInt = 99 := rfl
  have e_115 := mt i_eq.mpr (show ¬ ((x1 &&& (127 : Int32)) = (99 : Int32)) from c_107)
  refine WP.ite (fun c_116 => ?_) (fun c_116 => ?_)
  · skip
    have l_117 : (103 : Int32).toInt = 103 := rfl
    have e_118 := i_eq.mp (show (x1 &&& (127 : Int32)) = (103 : Int32) from c_116)
    unfold cb_X0_does_156
    have q_120 := i_rng ((x1.toUInt32 >>> ((15 : Int32).toUInt32 &&& Int32.toUInt32 31)).toInt32)
    have l_121 : (31 : Int32).toInt = 31 := rfl
    have e_123 := i_and ((x1.toUInt32 >>> ((15 : Int32).toUInt32 &&& Int32.toUInt32 31)).toInt32) (m := 31) 5 (by decide) (by decide)
    refine WP.ix (show vp_in (((x1.toUInt32 >>> ((15 : Int32).toUInt32 &&& Int32.toUInt32 31)).toInt32) &&& (31 : Int32)) 32 from vp_in_iff.mpr ⟨by omega, by omega⟩) ?_
    refine WP.ite (fun c_124 => ?_) (fun c_124 => ?_)
    · skip
      have l_125 : (12 : Int32).toInt = 12 := rfl
      have q_127 := i_rng ((x1.toUInt32 >>> ((12 : Int32).toUInt32 &&& Int32.toUInt32 31)).toInt32)
      have l_128 : (7 : Int32).toInt = 7 := rfl
      have e_130 := i_and ((x1.toUInt32 >>> ((12 : Int32).toUInt32 &&& Int32.toUInt32 31)).toInt32) (m := 7) 3 (by decide) (by decide)
      have l_131 : (0 : Int32).toInt = 0 := rfl
      have e_132 := i_eq.mp (show (((x1.toUInt32 >>> ((12 : Int32).toUInt32 &&& Int32.toUInt32 31)).toInt32) &&& (7 : Int32)) = (0 : Int32) from c_124)
      unfold cb_X0_does_187
      have q_134 := i_rng ((x1.toUInt32 >>> ((7 : Int32).toUInt32 &&& Int32.toUInt32 31)).toInt32)
      have e_136 := i_and ((x1.toUInt32 >>> ((7 : Int32).toUInt32 &&& Int32.toUInt32 31)).toInt32) (m := 31) 5 (by decide) (by decide)
      have q_137 := i_rng (G 1 (((x1.toUInt32 >>> ((15 : Int32).toUInt32 &&& Int32.toUInt32 31)).toInt32) &&& (31 : Int32)).toNatClampNeg)
      have l_138 : (20 : Int32).toInt = 20 := rfl
      have e_140 : ((x1 >>> ((20 : Int32) &&& 31))).toInt = x1.toInt / 1048576 := i_shr 20 (by decide)
      obtain ⟨k_141, e_142, e_143⟩ := i_add (G 1 (((x1.toUInt32 >>> ((15 : Int32).toUInt32 &&& Int32.toUInt32 31)).toInt32) &&& (31 : Int32)).toNatClampNeg) (x1 >>> ((20 : Int32) &&& 31))
      have l_144 : (-2 : Int32).toInt = -2 := rfl
      have q_146 := i_rng (((G 1 (((x1.toUInt32 >>> ((15 : Int32).toUInt32 &&& Int32.toUInt32 31)).toInt32) &&& (31 : Int32)).toNatClampNeg) + (x1 >>> ((20 : Int32) &&& 31))) &&& (-2 : Int32))
      refine WP.bind (cs_X0_link hfu (((x1.toUInt32 >>> ((7 : Int32).toUInt32 &&& Int32.toUInt32 31)).toInt32) &&& (31 : Int32)) (((G 1 (((x1.toUInt32 >>> ((15 : Int32).toUInt32 &&& Int32.toUInt32 31)).toInt32) &&& (31 : Int32)).toNatClampNeg) + (x1 >>> ((20 : Int32) &&& 31))) &&& (-2 : Int32)) F G hI) ?_
      rintro r147 F147 G147 ⟨hI147, hT147, hO147, hp147⟩
      dsimp only
      have q_148 := hI.r 10 rfl
      have q_149 := hI147.r 10 rfl
      have e_150 : (F147 10).toInt = (F 10).toInt := hO147
      unfold cb_X0_does_199
      unfold cb_X0_does_203
      refine WP.ret ?_
      exact ⟨hI147, (KT.tr (rfl : KT F F) hT147), (KO.tr (rfl : KO F F) hO147), trivial⟩
    · skip
      have l_151 : (12 : Int32).toInt = 12 := rfl
      have q_153 := i_rng ((x1.toUInt32 >>> ((12 : Int32).toUInt32 &&& Int32.toUInt32 31)).toInt32)
      have l_154 : (7 : Int32).toInt = 7 := rfl
      have e_156 := i_and ((x1.toUInt32 >>> ((12 : Int32).toUInt32 &&& Int32.toUInt32 31)).toInt32) (m := 7) 3 (by decide) (by decide)
      have l_157 : (0 : Int32).toInt = 0 := rfl
      have e_158 := mt i_eq.mpr (show ¬ ((((x1.toUInt32 >>> ((12 : Int32).toUInt32 &&& Int32.toUInt32 31)).toInt32) &&& (7 : Int32)) = (0 : Int32)) from c_124)
      unfold cb_X0_does_202
      unfold cb_X0_does_203
      refine WP.ret ?_
      exact ⟨hI, (rfl : KT F F), (rfl : KO F F), trivial⟩
  have l_159 : (103 : Int32).toInt = 103 := rfl
  have e_160 := mt i_eq.mpr (show ¬ ((x1 &&& (127 : Int32)) = (103 : Int32)) from c_116)
  refine WP.ite (fun c_161 => ?_) (fun c_161 => ?_)
  · skip
    have l_162 : (111 : Int32).toInt = 111 := rfl
    have e_163 := i_eq.mp (show (x1 &&& (127 : Int32)) = (111 : Int32) from c_161)
    unfold cb_X0_does_135
    refine WP.bind (cs_X0_offsetJ hfu x1 F G hI) ?_
    rintro r164 _ _ ⟨rfl, rfl, hp164⟩
    dsimp only
    unfold cb_X0_does_151
    have l_165 : (7 : Int32).toInt = 7 := rfl
    have q_167 := i_rng ((x1.toUInt32 >>> ((7 : Int32).toUInt32 &&& Int32.toUInt32 31)).toInt32)
    have l_168 : (31 : Int32).toInt = 31 := rfl
    have e_170 := i_and ((x1.toUInt32 >>> ((7 : Int32).toUInt32 &&& Int32.toUInt32 31)).toInt32) (m := 31) 5 (by decide) (by decide)
    have q_171 := i_rng (F 2)
    have q_172 := i_rng r164
    obtain ⟨k_173, e_174, e_175⟩ := i_add (F 2) r164
    refine WP.bind (cs_X0_link hfu (((x1.toUInt32 >>> ((7 : Int32).toUInt32 &&& Int32.toUInt32 31)).toInt32) &&& (31 : Int32)) ((F 2) + r164) F G hI) ?_
    rintro r176 F176 G176 ⟨hI176, hT176, hO176, hp176⟩
    dsimp only
    have q_177 := hI.r 10 rfl
    have q_178 := hI176.r 10 rfl
    have e_179 : (F176 10).toInt = (F 10).toInt := hO176
    unfold cb_X0_does_155
    refine WP.ret ?_
    exact ⟨hI176, (KT.tr (rfl : KT F F) hT176), (KO.tr (rfl : KO F F) hO176), trivial⟩
  have l_180 : (111 : Int32).toInt = 111 := rfl
  have e_181 := mt i_eq.mpr (show ¬ ((x1 &&& (127 : Int32)) = (111 : Int32)) from c_161)
  unfold cb_X0_does_250
  refine WP.ite (fun c_182 => ?_) (fun c_182 => ?_)
  · skip
    have l_183 : (115 : Int32).toInt = 115 := rfl
    have e_184 := i_eq.mp (show x1 = (115 : Int32) from c_182)
    unfold cb_X0_does_256
    unfold cb_X0_does_273
    refine WP.ret ?_
    exact ⟨hI, (rfl : KT F F), (rfl : KO F F), trivial⟩
  · skip
    have l_185 : (115 : Int32).toInt = 115 := rfl
    have e_186 := mt i_eq.mpr (show ¬ (x1 = (115 : Int32)) from c_182)
    unfold cb_X0_does_261
    refine WP.ite (fun c_187 => ?_) (fun c_187 => ?_)
    · skip
      have l_188 : (1048691 : Int32).toInt = 1048691 := rfl
      have e_189 := i_eq.mp (show x1 = (1048691 : Int32) from c_187)
      unfold cb_X0_does_267
      unfold cb_X0_does_273
      refine WP.ret ?_
      exact ⟨hI, (rfl : KT F F), (rfl : KO F F), trivial⟩
    · skip
      have l_190 : (1048691 : Int32).toInt = 1048691 := rfl
      have e_191 := mt i_eq.mpr (show ¬ (x1 = (1048691 : Int32)) from c_187)
      unfold cb_X0_does_272
      unfold cb_X0_does_273
      refine WP.ret ?_
      exact ⟨hI, (rfl : KT F F), (rfl : KO F F), trivial⟩
theorem cs_X0_doWord {fu : Nat} (hfu : 8589934592 ≤ fu) (F : PF) (G : PG) (hI : CI F G) : WP (cf_X0_doWord fu F G) (fun r' F' G' => CI F' G' ∧ KT F F' ∧ KO F F' ∧ True) := by
  unfold cf_X0_doWord
  unfold cb_X0_doWord_0
  refine WP.ite (fun c_1 => ?_) (fun c_1 => ?_)
  · skip
    have q_2 := i_rng (F 2)
    have l_3 : (3 : Int32).toInt = 3 := rfl
    have e_5 := i_and (F 2) (m := 3) 2 (by decide) (by decide)
    have l_6 : (0 : Int32).toInt = 0 := rfl
    have e_7 := i_eq.mp (show ((F 2) &&& (3 : Int32)) = (0 : Int32) from c_1)
    unfold cb_X0_doWord_9
    refine WP.ite (fun c_8 => ?_) (fun c_8 => ?_)
    · skip
      have e_9 := i_lt.mp (show (F 2) < (0 : Int32) from c_8)
      unfold cb_X0_doWord_26
      refine WP.ret ?_
      exact ⟨hI, (rfl : KT F F), (rfl : KO F F), trivial⟩
    · skip
      have e_10 := mt i_lt.mpr (show ¬ ((F 2) < (0 : Int32)) from c_8)
      unfold cb_X0_doWord_16
      refine WP.ite (fun c_11 => ?_) (fun c_11 => ?_)
      · skip
        have l_12 : (16384 : Int32).toInt = 16384 := rfl
        have e_13 := i_lt.mp (show (F 2) < (16384 : Int32) from c_11)
        unfold cb_X0_doWord_28
        have l_14 : (2 : Int32).toInt = 2 := rfl
        have e_16 : (((F 2) >>> ((2 : Int32) &&& 31))).toInt = (F 2).toInt / 4 := i_shr 2 (by decide)
        refine WP.ix (show vp_in ((F 2) >>> ((2 : Int32) &&& 31)) 4096 from vp_in_iff.mpr ⟨by omega, by omega⟩) ?_
        have l_17 : (4 : Int32).toInt = 4 := rfl
        obtain ⟨k_18, e_19, e_20⟩ := i_add (F 2) (4 : Int32)
        have j_21 : CI (fup F 4 ((F 2) + (4 : Int32))) G := CI.fr rfl hI
        unfold cb_X0_doWord_50
        have q_22 := i_rng (G 0 ((F 2) >>> ((2 : Int32) &&& 31)).toNatClampNeg)
        refine WP.bind (cs_X0_does hfu (G 0 ((F 2) >>> ((2 : Int32) &&& 31)).toNatClampNeg) (fup F 4 ((F 2) + (4 : Int32))) G j_21) ?_
        rintro r23 F23 G23 ⟨hI23, hT23, hO23, hp23⟩
        dsimp only
        have q_24 := hI.r 10 rfl
        have q_25 := hI23.r 10 rfl
        have e_26 : (F23 10).toInt = (F 10).toInt := hO23
        unfold cb_X0_doWord_55
        refine WP.ite (fun c_27 => ?_) (fun c_27 => ?_)
        · skip
          have q_28 := i_rng r23
          have e_29 := i_eq.mp (show r23 = (0 : Int32) from c_27)
          unfold cb_X0_doWord_72
          have q_30 := i_rng (F23 4)
          have j_31 : CI (fup F23 2 (F23 4)) G23 := CI.fr rfl hI23
          unfold cb_X0_doWord_80
          have q_32 := i_rng (F23 3)
          have l_33 : (1 : Int32).toInt = 1 := rfl
          obtain ⟨k_34, e_35, e_36⟩ := i_add (F23 3) (1 : Int32)
          have j_37 : CI (fup (fup F23 2 (F23 4)) 3 ((F23 3) + (1 : Int32))) G23 := CI.fr rfl j_31
          unfold cb_X0_doWord_90
          refine WP.ret ?_
          exact ⟨j_37, (KT.f (by decide) (KT.f (by decide) (KT.tr (KT.f (by decide) (rfl : KT F F)) hT23))), (KO.f (by decide) (KO.f (by decide) (KO.tr (KO.f (by decide) (rfl : KO F F)) hO23))), trivial⟩
        · skip
          have q_38 := i_rng r23
          have e_39 := mt i_eq.mpr (show ¬ (r23 = (0 : Int32)) from c_27)
          unfold cb_X0_doWord_60
          refine WP.ite (fun c_40 => ?_) (fun c_40 => ?_)
          · skip
            have l_41 : (6 : Int32).toInt = 6 := rfl
            have e_42 := i_eq.mp (show r23 = (6 : Int32) from c_40)
            unfold cb_X0_doWord_72
            have q_43 := i_rng (F23 4)
            have j_44 : CI (fup F23 2 (F23 4)) G23 := CI.fr rfl hI23
            unfold cb_X0_doWord_80
            have q_45 := i_rng (F23 3)
            have l_46 : (1 : Int32).toInt = 1 := rfl
            obtain ⟨k_47, e_48, e_49⟩ := i_add (F23 3) (1 : Int32)
            have j_50 : CI (fup (fup F23 2 (F23 4)) 3 ((F23 3) + (1 : Int32))) G23 := CI.fr rfl j_44
            unfold cb_X0_doWord_90
            refine WP.ret ?_
            exact ⟨j_50, (KT.f (by decide) (KT.f (by decide) (KT.tr (KT.f (by decide) (rfl : KT F F)) hT23))), (KO.f (by decide) (KO.f (by decide) (KO.tr (KO.f (by decide) (rfl : KO F F)) hO23))), trivial⟩
          · skip
            have l_51 : (6 : Int32).toInt = 6 := rfl
            have e_52 := mt i_eq.mpr (show ¬ (r23 = (6 : Int32)) from c_40)
            unfold cb_X0_doWord_66
            refine WP.ite (fun c_53 => ?_) (fun c_53 => ?_)
            · skip
              have l_54 : (7 : Int32).toInt = 7 := rfl
              have e_55 := i_eq.mp (show r23 = (7 : Int32) from c_53)
              unfold cb_X0_doWord_72
              have q_56 := i_rng (F23 4)
              have j_57 : CI (fup F23 2 (F23 4)) G23 := CI.fr rfl hI23
              unfold cb_X0_doWord_80
              have q_58 := i_rng (F23 3)
              have l_59 : (1 : Int32).toInt = 1 := rfl
              obtain ⟨k_60, e_61, e_62⟩ := i_add (F23 3) (1 : Int32)
              have j_63 : CI (fup (fup F23 2 (F23 4)) 3 ((F23 3) + (1 : Int32))) G23 := CI.fr rfl j_57
              unfold cb_X0_doWord_90
              refine WP.ret ?_
              exact ⟨j_63, (KT.f (by decide) (KT.f (by decide) (KT.tr (KT.f (by decide) (rfl : KT F F)) hT23))), (KO.f (by decide) (KO.f (by decide) (KO.tr (KO.f (by decide) (rfl : KO F F)) hO23))), trivial⟩
            · skip
              have l_64 : (7 : Int32).toInt = 7 := rfl
              have e_65 := mt i_eq.mpr (show ¬ (r23 = (7 : Int32)) from c_53)
              unfold cb_X0_doWord_90
              refine WP.ret ?_
              exact ⟨hI23, (KT.tr (KT.f (by decide) (rfl : KT F F)) hT23), (KO.tr (KO.f (by decide) (rfl : KO F F)) hO23), trivial⟩
      · skip
        have l_66 : (16384 : Int32).toInt = 16384 := rfl
        have e_67 := mt i_lt.mpr (show ¬ ((F 2) < (16384 : Int32)) from c_11)
        unfold cb_X0_doWord_26
        refine WP.ret ?_
        exact ⟨hI, (rfl : KT F F), (rfl : KO F F), trivial⟩
  · skip
    have q_68 := i_rng (F 2)
    have l_69 : (3 : Int32).toInt = 3 := rfl
    have e_71 := i_and (F 2) (m := 3) 2 (by decide) (by decide)
    have l_72 : (0 : Int32).toInt = 0 := rfl
    have e_73 := mt i_eq.mpr (show ¬ (((F 2) &&& (3 : Int32)) = (0 : Int32)) from c_1)
    unfold cb_X0_doWord_26
    refine WP.ret ?_
    exact ⟨hI, (rfl : KT F F), (rfl : KO F F), trivial⟩
theorem cz_X0_doWords_4 {fu : Nat} (hfu : 8589934592 ≤ fu) {F0 : PF} {G0 : PG} : ∀ (n : Nat) (x1 : Int32) (x2 : Int32) (x3 : Int32) (F : PF) (G : PG) (hI : CI F G) (hT : KT F0 F) (hO : KO F0 F) (hn : (2147483647 - x3.toInt).toNat < n), WP (cl_X0_doWords_4 fu n x1 x2 x3 F G) (fun r' F' G' => CI F' G' ∧ KT F0 F' ∧ KO F0 F' ∧ True) := by
  intro n
  induction n with
  | zero =>
    intro x1 x2 x3 F G hI hT hO hn
    exact absurd hn (Nat.not_lt_zero _)
  | succ n ihn =>
    intro x1 x2 x3 F G hI hT hO hn
    show WP (cb_X0_doWords_4 fu (cl_X0_doWords_4 fu n)  x1 x2 x3 F G) _
    have q_O : (F 10).toInt = (F0 10).toInt := hO
    have q_O1 := hI.r 10 rfl
    unfold cb_X0_doWords_4
    refine WP.ite (fun c_1 => ?_) (fun c_1 => ?_)
    · skip
      have q_2 := i_rng x1
      have q_3 := i_rng x3
      have e_4 := i_le.mp (show x1 ≤ x3 from c_1)
      unfold cb_X0_doWords_24
      refine WP.ret ?_
      exact ⟨hI, hT, hO, trivial⟩
    · skip
      have q_5 := i_rng x1
      have q_6 := i_rng x3
      have e_7 := mt i_le.mpr (show ¬ (x1 ≤ x3) from c_1)
      unfold cb_X0_doWords_9
      refine WP.ite (fun c_8 => ?_) (fun c_8 => ?_)
      · skip
        have q_9 := i_rng x2
        have l_10 : (0 : Int32).toInt = 0 := rfl
        have e_11 := i_eq.mp (show x2 = (0 : Int32) from c_8)
        unfold cb_X0_doWords_13
        refine WP.bind (cs_X0_doWord hfu F G hI) ?_
        rintro r12 F12 G12 ⟨hI12, hT12, hO12, hp12⟩
        dsimp only
        have q_13 := hI.r 10 rfl
        have q_14 := hI12.r 10 rfl
        have e_15 : (F12 10).toInt = (F 10).toInt := hO12
        unfold cb_X0_doWords_17
        have q_16 := i_rng r12
        have l_17 : (1 : Int32).toInt = 1 := rfl
        obtain ⟨k_18, e_19, e_20⟩ := i_add x3 (1 : Int32)
        exact ihn x1 r12 (x3 + (1 : Int32)) F12 G12 hI12 (KT.tr hT hT12) (KO.tr hO hO12) (by omega)
      · skip
        have q_21 := i_rng x2
        have l_22 : (0 : Int32).toInt = 0 := rfl
        have e_23 := mt i_eq.mpr (show ¬ (x2 = (0 : Int32)) from c_8)
        unfold cb_X0_doWords_24
        refine WP.ret ?_
        exact ⟨hI, hT, hO, trivial⟩
theorem cs_X0_doWords {fu : Nat} (hfu : 8589934592 ≤ fu) (x1 : Int32) (F : PF) (G : PG) (hI : CI F G) : WP (cf_X0_doWords fu x1 F G) (fun r' F' G' => CI F' G' ∧ KT F F' ∧ KO F F' ∧ True) := by
  unfold cf_X0_doWords
  unfold cb_X0_doWords_0
  have q_1 := i_rng x1
  have l_2 : (0 : Int32).toInt = 0 := rfl
  exact cz_X0_doWords_4 (F0 := F) (G0 := G) hfu fu x1 (0 : Int32) (0 : Int32) F G hI (rfl : KT F F) (rfl : KO F F) (by omega)
theorem cs_X1_add {fu : Nat} (hfu : 8589934592 ≤ fu) (x1 : Int32) (F : PF) (G : PG) (hI : CI F G) : WP (cf_X1_add fu x1 F G) (fun r' F' G' => CI F' G' ∧ KB F G F' G' ∧ KT F F' ∧ KO F F' ∧ (F' 21 = F 21)) := by
  unfold cf_X1_add
  unfold cb_X1_add_0
  refine WP.ite (fun c_1 => ?_) (fun c_1 => ?_)
  · skip
    have q_2 := hI.r 7 rfl
    have l_3 : (0 : Int32).toInt = 0 := rfl
    have e_4 := i_eq.mp (show (F 7) = (0 : Int32) from c_1)
    unfold cb_X1_add_37
    refine WP.ret ?_
    exact ⟨hI, (KB.rf : KB F G F G), (rfl : KT F F), (rfl : KO F F), (show (F 21) = F 21 from rfl)⟩
  · skip
    have q_5 := hI.r 7 rfl
    have l_6 : (0 : Int32).toInt = 0 := rfl
    have e_7 := mt i_eq.mpr (show ¬ ((F 7) = (0 : Int32)) from c_1)
    unfold cb_X1_add_7
    refine WP.ite (fun c_8 => ?_) (fun c_8 => ?_)
    · skip
      have l_9 : (8400 : Int32).toInt = 8400 := rfl
      have q_10 := hI.r 6 rfl
      have e_11 := i_le.mp (show (8400 : Int32) ≤ (F 6) from c_8)
      unfold cb_X1_add_37
      refine WP.ret ?_
      exact ⟨hI, (KB.rf : KB F G F G), (rfl : KT F F), (rfl : KO F F), (show (F 21) = F 21 from rfl)⟩
    · skip
      have l_12 : (8400 : Int32).toInt = 8400 := rfl
      have q_13 := hI.r 6 rfl
      have e_14 := mt i_le.mpr (show ¬ ((8400 : Int32) ≤ (F 6)) from c_8)
      unfold cb_X1_add_17
      refine WP.ix (show vp_in (F 6) 8400 from vp_in_iff.mpr ⟨by omega, by omega⟩) ?_
      have j_15 : CI F (gup G 5 (F 6).toNatClampNeg x1) := CI.g (by decide) hI
      unfold cb_X1_add_27
      have l_16 : (1 : Int32).toInt = 1 := rfl
      obtain ⟨k_17, e_18, e_19⟩ := i_add (F 6) (1 : Int32)
      have j_20 : CI (fup F 6 ((F 6) + (1 : Int32))) (gup G 5 (F 6).toNatClampNeg x1) := CI.rg (k := 6) (x := ((F 6) + (1 : Int32))) rfl (by decide) (by decide) j_15 ⟨by omega, by omega⟩
      unfold cb_X1_add_37
      refine WP.ret ?_
      exact ⟨j_20, (KB.f (by decide) (KB.g (by decide) (KB.rf : KB F G F G))), (KT.f (by decide) (rfl : KT F F)), (KO.f (by decide) (rfl : KO F F)), (show (F 21) = F 21 from rfl)⟩
theorem cs_X1_addPair {fu : Nat} (hfu : 8589934592 ≤ fu) (x1 : Int32) (x2 : Int32) (F : PF) (G : PG) (hI : CI F G) : WP (cf_X1_addPair fu x1 x2 F G) (fun r' F' G' => CI F' G' ∧ KB F G F' G' ∧ KT F F' ∧ KO F F' ∧ True) := by
  unfold cf_X1_addPair
  unfold cb_X1_addPair_0
  refine WP.ite (fun c_1 => ?_) (fun c_1 => ?_)
  · skip
    have q_2 := hI.r 7 rfl
    have l_3 : (0 : Int32).toInt = 0 := rfl
    have e_4 := i_eq.mp (show (F 7) = (0 : Int32) from c_1)
    unfold cb_X1_addPair_49
    refine WP.ret ?_
    exact ⟨hI, (KB.rf : KB F G F G), (rfl : KT F F), (rfl : KO F F), trivial⟩
  · skip
    have q_5 := hI.r 7 rfl
    have l_6 : (0 : Int32).toInt = 0 := rfl
    have e_7 := mt i_eq.mpr (show ¬ ((F 7) = (0 : Int32)) from c_1)
    unfold cb_X1_addPair_7
    refine WP.ite (fun c_8 => ?_) (fun c_8 => ?_)
    · skip
      have l_9 : (8399 : Int32).toInt = 8399 := rfl
      have q_10 := hI.r 6 rfl
      have e_11 := i_le.mp (show (8399 : Int32) ≤ (F 6) from c_8)
      unfold cb_X1_addPair_49
      refine WP.ret ?_
      exact ⟨hI, (KB.rf : KB F G F G), (rfl : KT F F), (rfl : KO F F), trivial⟩
    · skip
      have l_12 : (8399 : Int32).toInt = 8399 := rfl
      have q_13 := hI.r 6 rfl
      have e_14 := mt i_le.mpr (show ¬ ((8399 : Int32) ≤ (F 6)) from c_8)
      unfold cb_X1_addPair_17
      refine WP.ix (show vp_in (F 6) 8400 from vp_in_iff.mpr ⟨by omega, by omega⟩) ?_
      have j_15 : CI F (gup G 5 (F 6).toNatClampNeg x1) := CI.g (by decide) hI
      unfold cb_X1_addPair_27
      have l_16 : (1 : Int32).toInt = 1 := rfl
      obtain ⟨k_17, e_18, e_19⟩ := i_add (F 6) (1 : Int32)
      refine WP.ix (show vp_in ((F 6) + (1 : Int32)) 8400 from vp_in_iff.mpr ⟨by omega, by omega⟩) ?_
      have j_20 : CI F (gup (gup G 5 (F 6).toNatClampNeg x1) 5 ((F 6) + (1 : Int32)).toNatClampNeg x2) := CI.g (by decide) j_15
      unfold cb_X1_addPair_39
      have l_21 : (2 : Int32).toInt = 2 := rfl
      obtain ⟨k_22, e_23, e_24⟩ := i_add (F 6) (2 : Int32)
      have j_25 : CI (fup F 6 ((F 6) + (2 : Int32))) (gup (gup G 5 (F 6).toNatClampNeg x1) 5 ((F 6) + (1 : Int32)).toNatClampNeg x2) := CI.rg (k := 6) (x := ((F 6) + (2 : Int32))) rfl (by decide) (by decide) j_20 ⟨by omega, by omega⟩
      unfold cb_X1_addPair_49
      refine WP.ret ?_
      exact ⟨j_25, (KB.f (by decide) (KB.g (by decide) (KB.g (by decide) (KB.rf : KB F G F G)))), (KT.f (by decide) (rfl : KT F F)), (KO.f (by decide) (rfl : KO F F)), trivial⟩
theorem cs_X1_addJump {fu : Nat} (hfu : 8589934592 ≤ fu) (x1 : Int32) (x2 : Int32) (F : PF) (G : PG) (hI : CI F G) : WP (cf_X1_addJump fu x1 x2 F G) (fun r' F' G' => CI F' G' ∧ KB F G F' G' ∧ KT F F' ∧ KO F F' ∧ (F' 21 = F 21)) := by
  unfold cf_X1_addJump
  unfold cb_X1_addJump_0
  refine WP.ite (fun c_1 => ?_) (fun c_1 => ?_)
  · skip
    have q_2 := hI.r 7 rfl
    have l_3 : (0 : Int32).toInt = 0 := rfl
    have e_4 := i_eq.mp (show (F 7) = (0 : Int32) from c_1)
    unfold cb_X1_addJump_17
    refine WP.ret ?_
    exact ⟨hI, (KB.rf : KB F G F G), (rfl : KT F F), (rfl : KO F F), (show (F 21) = F 21 from rfl)⟩
  · skip
    have q_5 := hI.r 7 rfl
    have l_6 : (0 : Int32).toInt = 0 := rfl
    have e_7 := mt i_eq.mpr (show ¬ ((F 7) = (0 : Int32)) from c_1)
    unfold cb_X1_addJump_7
    refine WP.ite (fun c_8 => ?_) (fun c_8 => ?_)
    · skip
      have q_9 := hI.r 6 rfl
      have l_10 : (8399 : Int32).toInt = 8399 := rfl
      have e_11 := i_lt.mp (show (F 6) < (8399 : Int32) from c_8)
      unfold cb_X1_addJump_19
      refine WP.ix (show vp_in (F 6) 8400 from vp_in_iff.mpr ⟨by omega, by omega⟩) ?_
      have j_12 : CI F (gup G 5 (F 6).toNatClampNeg x1) := CI.g (by decide) hI
      unfold cb_X1_addJump_29
      have l_13 : (1 : Int32).toInt = 1 := rfl
      obtain ⟨k_14, e_15, e_16⟩ := i_add (F 6) (1 : Int32)
      refine WP.ix (show vp_in ((F 6) + (1 : Int32)) 8400 from vp_in_iff.mpr ⟨by omega, by omega⟩) ?_
      have j_17 : CI F (gup (gup G 5 (F 6).toNatClampNeg x1) 5 ((F 6) + (1 : Int32)).toNatClampNeg x2) := CI.g (by decide) j_12
      unfold cb_X1_addJump_41
      have l_18 : (2 : Int32).toInt = 2 := rfl
      obtain ⟨k_19, e_20, e_21⟩ := i_add (F 6) (2 : Int32)
      have j_22 : CI (fup F 6 ((F 6) + (2 : Int32))) (gup (gup G 5 (F 6).toNatClampNeg x1) 5 ((F 6) + (1 : Int32)).toNatClampNeg x2) := CI.rg (k := 6) (x := ((F 6) + (2 : Int32))) rfl (by decide) (by decide) j_17 ⟨by omega, by omega⟩
      unfold cb_X1_addJump_51
      refine WP.ret ?_
      exact ⟨j_22, (KB.f (by decide) (KB.g (by decide) (KB.g (by decide) (KB.rf : KB F G F G)))), (KT.f (by decide) (rfl : KT F F)), (KO.f (by decide) (rfl : KO F F)), (show (F 21) = F 21 from rfl)⟩
    · skip
      have q_23 := hI.r 6 rfl
      have l_24 : (8399 : Int32).toInt = 8399 := rfl
      have e_25 := mt i_lt.mpr (show ¬ ((F 6) < (8399 : Int32)) from c_8)
      unfold cb_X1_addJump_17
      refine WP.ret ?_
      exact ⟨hI, (KB.rf : KB F G F G), (rfl : KT F F), (rfl : KO F F), (show (F 21) = F 21 from rfl)⟩
theorem cz_X1_aim_5 {fu : Nat} (hfu : 8589934592 ≤ fu) {F0 : PF} {G0 : PG} : ∀ (n : Nat) (x2 : Int32) (x3 : Int32) (x4 : Int32) (F : PF) (G : PG) (hI : CI F G) (hB : KB F0 G0 F G) (hT : KT F0 F) (hO : KO F0 F) (hn : (2147483647 - x4.toInt).toNat < n), WP (cl_X1_aim_5 fu n x2 x3 x4 F G) (fun r' F' G' => CI F' G' ∧ KB F0 G0 F' G' ∧ KT F0 F' ∧ KO F0 F' ∧ True) := by
  intro n
  induction n with
  | zero =>
    intro x2 x3 x4 F G hI hB hT hO hn
    exact absurd hn (Nat.not_lt_zero _)
  | succ n ihn =>
    intro x2 x3 x4 F G hI hB hT hO hn
    show WP (cb_X1_aim_5 fu (cl_X1_aim_5 fu n)  x2 x3 x4 F G) _
    have q_O : (F 10).toInt = (F0 10).toInt := hO
    have q_O1 := hI.r 10 rfl
    unfold cb_X1_aim_5
    refine WP.ite (fun c_1 => ?_) (fun c_1 => ?_)
    · skip
      have l_2 : (8400 : Int32).toInt = 8400 := rfl
      have q_3 := i_rng x4
      have e_4 := i_le.mp (show (8400 : Int32) ≤ x4 from c_1)
      unfold cb_X1_aim_49
      refine WP.ret ?_
      exact ⟨hI, hB, hT, hO, trivial⟩
    · skip
      have l_5 : (8400 : Int32).toInt = 8400 := rfl
      have q_6 := i_rng x4
      have e_7 := mt i_le.mpr (show ¬ ((8400 : Int32) ≤ x4) from c_1)
      unfold cb_X1_aim_13
      refine WP.ite (fun c_8 => ?_) (fun c_8 => ?_)
      · skip
        have q_9 := i_rng x3
        have l_10 : (0 : Int32).toInt = 0 := rfl
        have e_11 := i_lt.mp (show x3 < (0 : Int32) from c_8)
        unfold cb_X1_aim_49
        refine WP.ret ?_
        exact ⟨hI, hB, hT, hO, trivial⟩
      · skip
        have q_12 := i_rng x3
        have l_13 : (0 : Int32).toInt = 0 := rfl
        have e_14 := mt i_lt.mpr (show ¬ (x3 < (0 : Int32)) from c_8)
        unfold cb_X1_aim_17
        refine WP.ite (fun c_15 => ?_) (fun c_15 => ?_)
        · skip
          have q_16 := hI.r 6 rfl
          have e_17 := i_le.mp (show (F 6) ≤ x3 from c_15)
          unfold cb_X1_aim_49
          refine WP.ret ?_
          exact ⟨hI, hB, hT, hO, trivial⟩
        · skip
          have q_18 := hI.r 6 rfl
          have e_19 := mt i_le.mpr (show ¬ ((F 6) ≤ x3) from c_15)
          unfold cb_X1_aim_25
          refine WP.ix (show vp_in x3 8400 from vp_in_iff.mpr ⟨by omega, by omega⟩) ?_
          refine WP.ix (show vp_in x3 8400 from vp_in_iff.mpr ⟨by omega, by omega⟩) ?_
          have j_20 : CI F (gup G 5 x3.toNatClampNeg x2) := CI.g (by decide) hI
          unfold cb_X1_aim_40
          have q_21 := i_rng x2
          have q_22 := i_rng (G 5 x3.toNatClampNeg)
          have l_23 : (1 : Int32).toInt = 1 := rfl
          obtain ⟨k_24, e_25, e_26⟩ := i_add x4 (1 : Int32)
          exact ihn x2 (G 5 x3.toNatClampNeg) (x4 + (1 : Int32)) F (gup G 5 x3.toNatClampNeg x2) j_20 (KB.g (by decide) hB) hT hO (by omega)
theorem cs_X1_aim {fu : Nat} (hfu : 8589934592 ≤ fu) (x1 : Int32) (x2 : Int32) (F : PF) (G : PG) (hI : CI F G) : WP (cf_X1_aim fu x1 x2 F G) (fun r' F' G' => CI F' G' ∧ KB F G F' G' ∧ KT F F' ∧ KO F F' ∧ True) := by
  unfold cf_X1_aim
  unfold cb_X1_aim_0
  have q_1 := i_rng x2
  have q_2 := i_rng x1
  have l_3 : (0 : Int32).toInt = 0 := rfl
  exact cz_X1_aim_5 (F0 := F) (G0 := G) hfu fu x2 x1 (0 : Int32) F G hI (KB.rf : KB F G F G) (rfl : KT F F) (rfl : KO F F) (by omega)
theorem cs_X1_cut {fu : Nat} (hfu : 8589934592 ≤ fu) (x1 : Int32) (F : PF) (G : PG) (hI : CI F G) : WP (cf_X1_cut fu x1 F G) (fun r' F' G' => CI F' G' ∧ KB F G F' G' ∧ KT F F' ∧ KO F F' ∧ True) := by
  unfold cf_X1_cut
  unfold cb_X1_cut_0
  refine WP.ite (fun c_1 => ?_) (fun c_1 => ?_)
  · skip
    have q_2 := i_rng x1
    have l_3 : (0 : Int32).toInt = 0 := rfl
    have e_4 := i_lt.mp (show x1 < (0 : Int32) from c_1)
    unfold cb_X1_cut_17
    refine WP.ret ?_
    exact ⟨hI, (KB.rf : KB F G F G), (rfl : KT F F), (rfl : KO F F), trivial⟩
  · skip
    have q_5 := i_rng x1
    have l_6 : (0 : Int32).toInt = 0 := rfl
    have e_7 := mt i_lt.mpr (show ¬ (x1 < (0 : Int32)) from c_1)
    unfold cb_X1_cut_4
    refine WP.ite (fun c_8 => ?_) (fun c_8 => ?_)
    · skip
      have q_9 := hI.r 6 rfl
      have e_10 := i_le.mp (show (F 6) ≤ x1 from c_8)
      unfold cb_X1_cut_17
      refine WP.ret ?_
      exact ⟨hI, (KB.rf : KB F G F G), (rfl : KT F F), (rfl : KO F F), trivial⟩
    · skip
      have q_11 := hI.r 6 rfl
      have e_12 := mt i_le.mpr (show ¬ ((F 6) ≤ x1) from c_8)
      unfold cb_X1_cut_12
      have j_13 : CI (fup F 6 x1) G := CI.rg (k := 6) (x := x1) rfl (by decide) (by decide) hI ⟨by omega, by omega⟩
      unfold cb_X1_cut_17
      refine WP.ret ?_
      exact ⟨j_13, (KB.f (by decide) (KB.rf : KB F G F G)), (KT.f (by decide) (rfl : KT F F)), (KO.f (by decide) (rfl : KO F F)), trivial⟩
theorem cs_X2_comeTo {fu : Nat} (hfu : 8589934592 ≤ fu) (x1 : Int32) (F : PF) (G : PG) (hI : CI F G) : WP (cf_X2_comeTo fu x1 F G) (fun r' F' G' => CI F' G' ∧ KB F G F' G' ∧ KT F F' ∧ KO F F' ∧ True) := by
  unfold cf_X2_comeTo
  unfold cb_X2_comeTo_0
  refine WP.ite (fun c_1 => ?_) (fun c_1 => ?_)
  · skip
    have q_2 := i_rng x1
    have l_3 : (0 : Int32).toInt = 0 := rfl
    have e_4 := i_lt.mp (show x1 < (0 : Int32) from c_1)
    unfold cb_X2_comeTo_15
    refine WP.ret ?_
    exact ⟨hI, (KB.rf : KB F G F G), (rfl : KT F F), (rfl : KO F F), trivial⟩
  · skip
    have q_5 := i_rng x1
    have l_6 : (0 : Int32).toInt = 0 := rfl
    have e_7 := mt i_lt.mpr (show ¬ (x1 < (0 : Int32)) from c_1)
    unfold cb_X2_comeTo_4
    refine WP.ite (fun c_8 => ?_) (fun c_8 => ?_)
    · skip
      have q_9 := hI.r 93 rfl
      have e_10 := i_lt.mp (show x1 < (F 93) from c_8)
      unfold cb_X2_comeTo_16
      have j_11 : CI (fup F 9 x1) G := CI.fr rfl hI
      unfold cb_X2_comeTo_21
      refine WP.ix (show vp_in x1 4001 from vp_in_iff.mpr ⟨by omega, by omega⟩) ?_
      have q_12 := i_rng (G 90 x1.toNatClampNeg)
      have j_13 : CI (fup (fup F 9 x1) 11 (G 90 x1.toNatClampNeg)) G := CI.fr rfl j_11
      unfold cb_X2_comeTo_34
      refine WP.ix (show vp_in x1 4001 from vp_in_iff.mpr ⟨by omega, by omega⟩) ?_
      have q_14 := i_rng (G 91 x1.toNatClampNeg)
      have j_15 : CI (fup (fup (fup F 9 x1) 11 (G 90 x1.toNatClampNeg)) 12 (G 91 x1.toNatClampNeg)) G := CI.fr rfl j_13
      unfold cb_X2_comeTo_47
      refine WP.ix (show vp_in x1 4001 from vp_in_iff.mpr ⟨by omega, by omega⟩) ?_
      have q_16 := i_rng (G 92 x1.toNatClampNeg)
      have j_17 : CI (fup (fup (fup (fup F 9 x1) 11 (G 90 x1.toNatClampNeg)) 12 (G 91 x1.toNatClampNeg)) 13 (G 92 x1.toNatClampNeg)) G := CI.fr rfl j_15
      unfold cb_X2_comeTo_60
      refine WP.ite (fun c_18 => ?_) (fun c_18 => ?_)
      · skip
        have l_19 : (1 : Int32).toInt = 1 := rfl
        have e_20 := i_eq.mp (show (G 90 x1.toNatClampNeg) = (1 : Int32) from c_18)
        unfold cb_X2_comeTo_68
        have l_21 : (16 : Int32).toInt = 16 := rfl
        have q_23 := i_rng ((G 92 x1.toNatClampNeg) * (16 : Int32))
        obtain ⟨k_24, e_25, e_26⟩ := i_add ((G 92 x1.toNatClampNeg) * (16 : Int32)) (1 : Int32)
        have j_27 : CI (fup (fup (fup (fup (fup F 9 x1) 11 (G 90 x1.toNatClampNeg)) 12 (G 91 x1.toNatClampNeg)) 13 (G 92 x1.toNatClampNeg)) 14 (((G 92 x1.toNatClampNeg) * (16 : Int32)) + (1 : Int32))) G := CI.fr rfl j_17
        unfold cb_X2_comeTo_81
        have l_28 : (-2 : Int32).toInt = -2 := rfl
        have j_29 : CI (fup (fup (fup (fup (fup (fup F 9 x1) 11 (G 90 x1.toNatClampNeg)) 12 (G 91 x1.toNatClampNeg)) 13 (G 92 x1.toNatClampNeg)) 14 (((G 92 x1.toNatClampNeg) * (16 : Int32)) + (1 : Int32))) 11 (-2 : Int32)) G := CI.fr rfl j_27
        unfold cb_X2_comeTo_87
        refine WP.ret ?_
        exact ⟨j_29, (KB.f (by decide) (KB.f (by decide) (KB.f (by decide) (KB.f (by decide) (KB.f (by decide) (KB.f (by decide) (KB.rf : KB F G F G))))))), (KT.f (by decide) (KT.f (by decide) (KT.f (by decide) (KT.f (by decide) (KT.f (by decide) (KT.f (by decide) (rfl : KT F F))))))), (KO.f (by decide) (KO.f (by decide) (KO.f (by decide) (KO.f (by decide) (KO.f (by decide) (KO.f (by decide) (rfl : KO F F))))))), trivial⟩
      · skip
        have l_30 : (1 : Int32).toInt = 1 := rfl
        have e_31 := mt i_eq.mpr (show ¬ ((G 90 x1.toNatClampNeg) = (1 : Int32)) from c_18)
        unfold cb_X2_comeTo_87
        refine WP.ret ?_
        exact ⟨j_17, (KB.f (by decide) (KB.f (by decide) (KB.f (by decide) (KB.f (by decide) (KB.rf : KB F G F G))))), (KT.f (by decide) (KT.f (by decide) (KT.f (by decide) (KT.f (by decide) (rfl : KT F F))))), (KO.f (by decide) (KO.f (by decide) (KO.f (by decide) (KO.f (by decide) (rfl : KO F F))))), trivial⟩
    · skip
      have q_32 := hI.r 93 rfl
      have e_33 := mt i_lt.mpr (show ¬ (x1 < (F 93)) from c_8)
      unfold cb_X2_comeTo_15
      refine WP.ret ?_
      exact ⟨hI, (KB.rf : KB F G F G), (rfl : KT F F), (rfl : KO F F), trivial⟩
theorem cs_X2_start {fu : Nat} (hfu : 8589934592 ≤ fu) (F : PF) (G : PG) (hI : CI F G) : WP (cf_X2_start fu F G) (fun r' F' G' => CI F' G' ∧ KB F G F' G' ∧ KT F F' ∧ ((F' 10).toInt = 0)) := by
  unfold cf_X2_start
  unfold cb_X2_start_0
  have l_1 : (0 : Int32).toInt = 0 := rfl
  have j_2 : CI (fup F 10 (0 : Int32)) G := CI.rg (k := 10) (x := (0 : Int32)) rfl (by decide) (by decide) hI ⟨by omega, by omega⟩
  unfold cb_X2_start_5
  have j_3 : CI (fup (fup F 10 (0 : Int32)) 14 (0 : Int32)) G := CI.fr rfl j_2
  unfold cb_X2_start_10
  refine WP.bind (cs_X2_comeTo hfu (0 : Int32) (fup (fup F 10 (0 : Int32)) 14 (0 : Int32)) G j_3) ?_
  rintro r4 F4 G4 ⟨hI4, hB4, hT4, hO4, hp4⟩
  dsimp only
  have q_5 := hI4.r 10 rfl
  have e_6 : (F4 10).toInt = (0 : Int32).toInt := hO4
  unfold cb_X2_start_15
  refine WP.ret ?_
  have q_7 := hI.r 10 rfl
  exact ⟨hI4, (KB.tr (KB.f (by decide) (KB.f (by decide) (KB.rf : KB F G F G))) hB4), (KT.tr (KT.f (by decide) (KT.f (by decide) (rfl : KT F F))) hT4), (show (F4 10).toInt = 0 by omega)⟩
theorem cs_X10_kind {fu : Nat} (hfu : 8589934592 ≤ fu) (x1 : Int32) (F : PF) (G : PG) (hI : CI F G) : WP (cf_X10_kind fu x1 F G) (fun r' F' G' => F = F' ∧ G = G' ∧ True) := by
  unfold cf_X10_kind
  unfold cb_X10_kind_0
  refine WP.ite (fun c_1 => ?_) (fun c_1 => ?_)
  · skip
    have q_2 := i_rng x1
    have l_3 : (0 : Int32).toInt = 0 := rfl
    have e_4 := i_lt.mp (show x1 < (0 : Int32) from c_1)
    unfold cb_X10_kind_12
    unfold cb_X10_kind_22
    refine WP.ret ?_
    exact ⟨rfl, rfl, trivial⟩
  · skip
    have q_5 := i_rng x1
    have l_6 : (0 : Int32).toInt = 0 := rfl
    have e_7 := mt i_lt.mpr (show ¬ (x1 < (0 : Int32)) from c_1)
    unfold cb_X10_kind_4
    refine WP.ite (fun c_8 => ?_) (fun c_8 => ?_)
    · skip
      have q_9 := hI.r 93 rfl
      have e_10 := i_lt.mp (show x1 < (F 93) from c_8)
      unfold cb_X10_kind_16
      refine WP.ix (show vp_in x1 4001 from vp_in_iff.mpr ⟨by omega, by omega⟩) ?_
      unfold cb_X10_kind_22
      refine WP.ret ?_
      exact ⟨rfl, rfl, trivial⟩
    · skip
      have q_11 := hI.r 93 rfl
      have e_12 := mt i_lt.mpr (show ¬ (x1 < (F 93)) from c_8)
      unfold cb_X10_kind_12
      unfold cb_X10_kind_22
      refine WP.ret ?_
      exact ⟨rfl, rfl, trivial⟩
theorem cs_X2_isNameAlone {fu : Nat} (hfu : 8589934592 ≤ fu) (F : PF) (G : PG) (hI : CI F G) : WP (cf_X2_isNameAlone fu F G) (fun r' F' G' => F = F' ∧ G = G' ∧ (r' = 0 ∨ r' = 1)) := by
  unfold cf_X2_isNameAlone
  unfold cb_X2_isNameAlone_0
  have q_1 := i_rng (F 9)
  have l_2 : (1 : Int32).toInt = 1 := rfl
  obtain ⟨k_3, e_4, e_5⟩ := i_add (F 9) (1 : Int32)
  refine WP.bind (cs_X10_kind hfu ((F 9) + (1 : Int32)) F G hI) ?_
  rintro r6 _ _ ⟨rfl, rfl, hp6⟩
  dsimp only
  unfold cb_X2_isNameAlone_13
  refine WP.ite (fun c_7 => ?_) (fun c_7 => ?_)
  · skip
    have q_8 := i_rng (F 11)
    have l_9 : (2 : Int32).toInt = 2 := rfl
    have e_10 := i_eq.mp (show (F 11) = (2 : Int32) from c_7)
    unfold cb_X2_isNameAlone_22
    refine WP.ite (fun c_11 => ?_) (fun c_11 => ?_)
    · skip
      have q_12 := i_rng r6
      have l_13 : (25 : Int32).toInt = 25 := rfl
      have e_14 := i_eq.mp (show r6 = (25 : Int32) from c_11)
      unfold cb_X2_isNameAlone_34
      unfold cb_X2_isNameAlone_39
      refine WP.bz (show (1 : Int32) = 0 ∨ (1 : Int32) = 1 from (by decide)) ?_
      refine WP.ret ?_
      exact ⟨rfl, rfl, (by decide)⟩
    · skip
      have q_15 := i_rng r6
      have l_16 : (25 : Int32).toInt = 25 := rfl
      have e_17 := mt i_eq.mpr (show ¬ (r6 = (25 : Int32)) from c_11)
      unfold cb_X2_isNameAlone_28
      refine WP.ite (fun c_18 => ?_) (fun c_18 => ?_)
      · skip
        have l_19 : (20 : Int32).toInt = 20 := rfl
        have e_20 := i_eq.mp (show r6 = (20 : Int32) from c_18)
        unfold cb_X2_isNameAlone_34
        unfold cb_X2_isNameAlone_39
        refine WP.bz (show (1 : Int32) = 0 ∨ (1 : Int32) = 1 from (by decide)) ?_
        refine WP.ret ?_
        exact ⟨rfl, rfl, (by decide)⟩
      · skip
        have l_21 : (20 : Int32).toInt = 20 := rfl
        have e_22 := mt i_eq.mpr (show ¬ (r6 = (20 : Int32)) from c_18)
        unfold cb_X2_isNameAlone_38
        unfold cb_X2_isNameAlone_39
        have l_23 : (0 : Int32).toInt = 0 := rfl
        refine WP.bz (show (0 : Int32) = 0 ∨ (0 : Int32) = 1 from (by decide)) ?_
        refine WP.ret ?_
        exact ⟨rfl, rfl, (by decide)⟩
  · skip
    have q_24 := i_rng (F 11)
    have l_25 : (2 : Int32).toInt = 2 := rfl
    have e_26 := mt i_eq.mpr (show ¬ ((F 11) = (2 : Int32)) from c_7)
    unfold cb_X2_isNameAlone_38
    unfold cb_X2_isNameAlone_39
    have l_27 : (0 : Int32).toInt = 0 := rfl
    refine WP.bz (show (0 : Int32) = 0 ∨ (0 : Int32) = 1 from (by decide)) ?_
    refine WP.ret ?_
    exact ⟨rfl, rfl, (by decide)⟩
theorem cs_X2_next {fu : Nat} (hfu : 8589934592 ≤ fu) (F : PF) (G : PG) (hI : CI F G) : WP (cf_X2_next fu F G) (fun r' F' G' => CI F' G' ∧ KB F G F' G' ∧ KT F F' ∧ KO F F' ∧ True) := by
  unfold cf_X2_next
  unfold cb_X2_next_0
  refine WP.ite (fun c_1 => ?_) (fun c_1 => ?_)
  · skip
    have q_2 := i_rng (F 14)
    have l_3 : (0 : Int32).toInt = 0 := rfl
    have e_4 := i_eq.mp (show (F 14) = (0 : Int32) from c_1)
    unfold cb_X2_next_7
    have q_5 := i_rng (F 9)
    have l_6 : (1 : Int32).toInt = 1 := rfl
    obtain ⟨k_7, e_8, e_9⟩ := i_add (F 9) (1 : Int32)
    refine WP.bind (cs_X2_comeTo hfu ((F 9) + (1 : Int32)) F G hI) ?_
    rintro r10 F10 G10 ⟨hI10, hB10, hT10, hO10, hp10⟩
    dsimp only
    have q_11 := hI.r 10 rfl
    have q_12 := hI10.r 10 rfl
    have e_13 : (F10 10).toInt = (F 10).toInt := hO10
    unfold cb_X2_next_17
    refine WP.ret ?_
    exact ⟨hI10, (KB.tr (KB.rf : KB F G F G) hB10), (KT.tr (rfl : KT F F) hT10), (KO.tr (rfl : KO F F) hO10), trivial⟩
  · skip
    have q_14 := i_rng (F 14)
    have l_15 : (0 : Int32).toInt = 0 := rfl
    have e_16 := mt i_eq.mpr (show ¬ ((F 14) = (0 : Int32)) from c_1)
    unfold cb_X2_next_17
    refine WP.ret ?_
    exact ⟨hI, (KB.rf : KB F G F G), (rfl : KT F F), (rfl : KO F F), trivial⟩
theorem cs_X2_fail {fu : Nat} (hfu : 8589934592 ≤ fu) (x1 : Int32) (F : PF) (G : PG) (hI : CI F G) : WP (cf_X2_fail fu x1 F G) (fun r' F' G' => CI F' G' ∧ KB F G F' G' ∧ KT F F' ∧ KO F F' ∧ True) := by
  unfold cf_X2_fail
  unfold cb_X2_fail_0
  refine WP.ite (fun c_1 => ?_) (fun c_1 => ?_)
  · skip
    have q_2 := i_rng (F 14)
    have l_3 : (0 : Int32).toInt = 0 := rfl
    have e_4 := i_eq.mp (show (F 14) = (0 : Int32) from c_1)
    unfold cb_X2_fail_7
    have q_5 := i_rng (F 13)
    have l_6 : (16 : Int32).toInt = 16 := rfl
    have q_8 := i_rng ((F 13) * (16 : Int32))
    have q_9 := i_rng x1
    obtain ⟨k_10, e_11, e_12⟩ := i_add ((F 13) * (16 : Int32)) x1
    have j_13 : CI (fup F 14 (((F 13) * (16 : Int32)) + x1)) G := CI.fr rfl hI
    unfold cb_X2_fail_20
    have l_14 : (-2 : Int32).toInt = -2 := rfl
    have j_15 : CI (fup (fup F 14 (((F 13) * (16 : Int32)) + x1)) 11 (-2 : Int32)) G := CI.fr rfl j_13
    unfold cb_X2_fail_26
    refine WP.ret ?_
    exact ⟨j_15, (KB.f (by decide) (KB.f (by decide) (KB.rf : KB F G F G))), (KT.f (by decide) (KT.f (by decide) (rfl : KT F F))), (KO.f (by decide) (KO.f (by decide) (rfl : KO F F))), trivial⟩
  · skip
    have q_16 := i_rng (F 14)
    have l_17 : (0 : Int32).toInt = 0 := rfl
    have e_18 := mt i_eq.mpr (show ¬ ((F 14) = (0 : Int32)) from c_1)
    unfold cb_X2_fail_20
    have l_19 : (-2 : Int32).toInt = -2 := rfl
    have j_20 : CI (fup F 11 (-2 : Int32)) G := CI.fr rfl hI
    unfold cb_X2_fail_26
    refine WP.ret ?_
    exact ⟨j_20, (KB.f (by decide) (KB.rf : KB F G F G)), (KT.f (by decide) (rfl : KT F F)), (KO.f (by decide) (rfl : KO F F)), trivial⟩
theorem cs_X2_expect {fu : Nat} (hfu : 8589934592 ≤ fu) (x1 : Int32) (F : PF) (G : PG) (hI : CI F G) : WP (cf_X2_expect fu x1 F G) (fun r' F' G' => CI F' G' ∧ KB F G F' G' ∧ KT F F' ∧ KO F F' ∧ True) := by
  unfold cf_X2_expect
  unfold cb_X2_expect_0
  refine WP.ite (fun c_1 => ?_) (fun c_1 => ?_)
  · skip
    have q_2 := i_rng (F 11)
    have q_3 := i_rng x1
    have e_4 := i_eq.mp (show (F 11) = x1 from c_1)
    unfold cb_X2_expect_8
    have q_5 := i_rng (F 9)
    have l_6 : (1 : Int32).toInt = 1 := rfl
    obtain ⟨k_7, e_8, e_9⟩ := i_add (F 9) (1 : Int32)
    refine WP.bind (cs_X2_comeTo hfu ((F 9) + (1 : Int32)) F G hI) ?_
    rintro r10 F10 G10 ⟨hI10, hB10, hT10, hO10, hp10⟩
    dsimp only
    have q_11 := hI.r 10 rfl
    have q_12 := hI10.r 10 rfl
    have e_13 : (F10 10).toInt = (F 10).toInt := hO10
    unfold cb_X2_expect_18
    unfold cb_X2_expect_26
    refine WP.ret ?_
    exact ⟨hI10, (KB.tr (KB.rf : KB F G F G) hB10), (KT.tr (rfl : KT F F) hT10), (KO.tr (rfl : KO F F) hO10), trivial⟩
  · skip
    have q_14 := i_rng (F 11)
    have q_15 := i_rng x1
    have e_16 := mt i_eq.mpr (show ¬ ((F 11) = x1) from c_1)
    unfold cb_X2_expect_21
    have l_17 : (2 : Int32).toInt = 2 := rfl
    refine WP.bind (cs_X2_fail hfu (2 : Int32) F G hI) ?_
    rintro r18 F18 G18 ⟨hI18, hB18, hT18, hO18, hp18⟩
    dsimp only
    have q_19 := hI.r 10 rfl
    have q_20 := hI18.r 10 rfl
    have e_21 : (F18 10).toInt = (F 10).toInt := hO18
    unfold cb_X2_expect_26
    refine WP.ret ?_
    exact ⟨hI18, (KB.tr (KB.rf : KB F G F G) hB18), (KT.tr (rfl : KT F F) hT18), (KO.tr (rfl : KO F F) hO18), trivial⟩
theorem cs_X2_opens {fu : Nat} (hfu : 8589934592 ≤ fu) (x1 : Int32) (F : PF) (G : PG) (hI : CI F G) : WP (cf_X2_opens fu x1 F G) (fun r' F' G' => CI F' G' ∧ KB F G F' G' ∧ KT F F' ∧ ((r' = 0 ∨ r' = 1) ∧ (r'.toInt = 1 → (F' 10).toInt = (F 10).toInt + 1 ∧ (F 10).toInt < 40) ∧ (r'.toInt = 0 → (F' 10).toInt = (F 10).toInt))) := by
  unfold cf_X2_opens
  unfold cb_X2_opens_0
  refine WP.ite (fun c_1 => ?_) (fun c_1 => ?_)
  · skip
    have q_2 := i_rng (F 11)
    have q_3 := i_rng x1
    have e_4 := i_eq.mp (show (F 11) = x1 from c_1)
    unfold cb_X2_opens_15
    refine WP.ite (fun c_5 => ?_) (fun c_5 => ?_)
    · skip
      have q_6 := hI.r 10 rfl
      have l_7 : (40 : Int32).toInt = 40 := rfl
      have e_8 := i_lt.mp (show (F 10) < (40 : Int32) from c_5)
      unfold cb_X2_opens_31
      have l_9 : (1 : Int32).toInt = 1 := rfl
      obtain ⟨k_10, e_11, e_12⟩ := i_add (F 10) (1 : Int32)
      have j_13 : CI (fup F 10 ((F 10) + (1 : Int32))) G := CI.rg (k := 10) (x := ((F 10) + (1 : Int32))) rfl (by decide) (by decide) hI ⟨by omega, by omega⟩
      unfold cb_X2_opens_41
      have q_14 := i_rng (F 9)
      obtain ⟨k_15, e_16, e_17⟩ := i_add (F 9) (1 : Int32)
      refine WP.bind (cs_X2_comeTo hfu ((F 9) + (1 : Int32)) (fup F 10 ((F 10) + (1 : Int32))) G j_13) ?_
      rintro r18 F18 G18 ⟨hI18, hB18, hT18, hO18, hp18⟩
      dsimp only
      have q_19 := hI18.r 10 rfl
      have e_20 : (F18 10).toInt = ((F 10) + (1 : Int32)).toInt := hO18
      unfold cb_X2_opens_51
      refine WP.ret ?_
      exact ⟨hI18, (KB.tr (KB.f (by decide) (KB.rf : KB F G F G)) hB18), (KT.tr (KT.f (by decide) (rfl : KT F F)) hT18), (by decide), (show (1 : Int32).toInt = 1 → (F18 10).toInt = (F 10).toInt + 1 ∧ (F 10).toInt < 40 by omega), (show (1 : Int32).toInt = 0 → (F18 10).toInt = (F 10).toInt by omega)⟩
    · skip
      have q_21 := hI.r 10 rfl
      have l_22 : (40 : Int32).toInt = 40 := rfl
      have e_23 := mt i_lt.mpr (show ¬ ((F 10) < (40 : Int32)) from c_5)
      unfold cb_X2_opens_24
      have l_24 : (3 : Int32).toInt = 3 := rfl
      refine WP.bind (cs_X2_fail hfu (3 : Int32) F G hI) ?_
      rintro r25 F25 G25 ⟨hI25, hB25, hT25, hO25, hp25⟩
      dsimp only
      have q_26 := hI25.r 10 rfl
      have e_27 : (F25 10).toInt = (F 10).toInt := hO25
      unfold cb_X2_opens_29
      refine WP.ret ?_
      have l_28 : (0 : Int32).toInt = 0 := rfl
      exact ⟨hI25, (KB.tr (KB.rf : KB F G F G) hB25), (KT.tr (rfl : KT F F) hT25), (by decide), (show (0 : Int32).toInt = 1 → (F25 10).toInt = (F 10).toInt + 1 ∧ (F 10).toInt < 40 by omega), (show (0 : Int32).toInt = 0 → (F25 10).toInt = (F 10).toInt by omega)⟩
  · skip
    have q_29 := i_rng (F 11)
    have q_30 := i_rng x1
    have e_31 := mt i_eq.mpr (show ¬ ((F 11) = x1) from c_1)
    unfold cb_X2_opens_8
    have l_32 : (2 : Int32).toInt = 2 := rfl
    refine WP.bind (cs_X2_fail hfu (2 : Int32) F G hI) ?_
    rintro r33 F33 G33 ⟨hI33, hB33, hT33, hO33, hp33⟩
    dsimp only
    have q_34 := hI.r 10 rfl
    have q_35 := hI33.r 10 rfl
    have e_36 : (F33 10).toInt = (F 10).toInt := hO33
    unfold cb_X2_opens_13
    refine WP.ret ?_
    have l_37 : (0 : Int32).toInt = 0 := rfl
    exact ⟨hI33, (KB.tr (KB.rf : KB F G F G) hB33), (KT.tr (rfl : KT F F) hT33), (by decide), (show (0 : Int32).toInt = 1 → (F33 10).toInt = (F 10).toInt + 1 ∧ (F 10).toInt < 40 by omega), (show (0 : Int32).toInt = 0 → (F33 10).toInt = (F 10).toInt by omega)⟩
theorem cs_X2_closes {fu : Nat} (hfu : 8589934592 ≤ fu) (F : PF) (G : PG) (hI : CI F G) (h10 : 1 ≤ (F 10).toInt) : WP (cf_X2_closes fu F G) (fun r' F' G' => CI F' G' ∧ KB F G F' G' ∧ KT F F' ∧ ((F' 10).toInt = (F 10).toInt - 1)) := by
  unfold cf_X2_closes
  unfold cb_X2_closes_0
  have q_1 := hI.r 10 rfl
  have l_2 : (1 : Int32).toInt = 1 := rfl
  obtain ⟨k_3, e_4, e_5⟩ := i_sub (F 10) (1 : Int32)
  have j_6 : CI (fup F 10 ((F 10) - (1 : Int32))) G := CI.rg (k := 10) (x := ((F 10) - (1 : Int32))) rfl (by decide) (by decide) hI ⟨by omega, by omega⟩
  unfold cb_X2_closes_10
  refine WP.ret ?_
  exact ⟨j_6, (KB.f (by decide) (KB.rf : KB F G F G)), (KT.f (by decide) (rfl : KT F F)), (show ((F 10) - (1 : Int32)).toInt = (F 10).toInt - 1 by omega)⟩
theorem cs_X2_closesWith {fu : Nat} (hfu : 8589934592 ≤ fu) (x1 : Int32) (F : PF) (G : PG) (hI : CI F G) (h10 : 1 ≤ (F 10).toInt) : WP (cf_X2_closesWith fu x1 F G) (fun r' F' G' => CI F' G' ∧ KB F G F' G' ∧ KT F F' ∧ ((F' 10).toInt = (F 10).toInt - 1)) := by
  unfold cf_X2_closesWith
  unfold cb_X2_closesWith_0
  have q_1 := hI.r 10 rfl
  have l_2 : (1 : Int32).toInt = 1 := rfl
  obtain ⟨k_3, e_4, e_5⟩ := i_sub (F 10) (1 : Int32)
  have j_6 : CI (fup F 10 ((F 10) - (1 : Int32))) G := CI.rg (k := 10) (x := ((F 10) - (1 : Int32))) rfl (by decide) (by decide) hI ⟨by omega, by omega⟩
  unfold cb_X2_closesWith_10
  refine WP.ite (fun c_7 => ?_) (fun c_7 => ?_)
  · skip
    have q_8 := i_rng (F 11)
    have q_9 := i_rng x1
    have e_10 := i_eq.mp (show (F 11) = x1 from c_7)
    unfold cb_X2_closesWith_18
    have q_11 := i_rng (F 9)
    obtain ⟨k_12, e_13, e_14⟩ := i_add (F 9) (1 : Int32)
    refine WP.bind (cs_X2_comeTo hfu ((F 9) + (1 : Int32)) (fup F 10 ((F 10) - (1 : Int32))) G j_6) ?_
    rintro r15 F15 G15 ⟨hI15, hB15, hT15, hO15, hp15⟩
    dsimp only
    have q_16 := hI15.r 10 rfl
    have e_17 : (F15 10).toInt = ((F 10) - (1 : Int32)).toInt := hO15
    unfold cb_X2_closesWith_28
    unfold cb_X2_closesWith_36
    refine WP.ret ?_
    exact ⟨hI15, (KB.tr (KB.f (by decide) (KB.rf : KB F G F G)) hB15), (KT.tr (KT.f (by decide) (rfl : KT F F)) hT15), (show (F15 10).toInt = (F 10).toInt - 1 by omega)⟩
  · skip
    have q_18 := i_rng (F 11)
    have q_19 := i_rng x1
    have e_20 := mt i_eq.mpr (show ¬ ((F 11) = x1) from c_7)
    unfold cb_X2_closesWith_31
    have l_21 : (2 : Int32).toInt = 2 := rfl
    refine WP.bind (cs_X2_fail hfu (2 : Int32) (fup F 10 ((F 10) - (1 : Int32))) G j_6) ?_
    rintro r22 F22 G22 ⟨hI22, hB22, hT22, hO22, hp22⟩
    dsimp only
    have q_23 := hI22.r 10 rfl
    have e_24 : (F22 10).toInt = ((F 10) - (1 : Int32)).toInt := hO22
    unfold cb_X2_closesWith_36
    refine WP.ret ?_
    exact ⟨hI22, (KB.tr (KB.f (by decide) (KB.rf : KB F G F G)) hB22), (KT.tr (KT.f (by decide) (rfl : KT F F)) hT22), (show (F22 10).toInt = (F 10).toInt - 1 by omega)⟩
theorem cs_X3_start {fu : Nat} (hfu : 8589934592 ≤ fu) (F : PF) (G : PG) (hI : CI F G) : WP (cf_X3_start fu F G) (fun r' F' G' => CI F' G' ∧ KB F G F' G' ∧ KT F F' ∧ KO F F' ∧ True) := by
  unfold cf_X3_start
  unfold cb_X3_start_0
  have l_1 : (0 : Int32).toInt = 0 := rfl
  have j_2 : CI (fup F 21 (0 : Int32)) G := CI.rg (k := 21) (x := (0 : Int32)) rfl (by decide) (by decide) hI ⟨by omega, by omega⟩
  unfold cb_X3_start_5
  refine WP.ret ?_
  exact ⟨j_2, (KB.f (by decide) (KB.rf : KB F G F G)), (KT.f (by decide) (rfl : KT F F)), (KO.f (by decide) (rfl : KO F F)), trivial⟩
theorem cs_X3_strength {fu : Nat} (hfu : 8589934592 ≤ fu) (x0 : Int32) (F : PF) (G : PG) (hI : CI F G) : WP (cf_X3_strength fu x0 F G) (fun r' F' G' => F = F' ∧ G = G' ∧ True) := by
  unfold cf_X3_strength
  unfold cb_X3_strength_0
  refine WP.ite (fun c_1 => ?_) (fun c_1 => ?_)
  · skip
    have q_2 := i_rng x0
    have l_3 : (43 : Int32).toInt = 43 := rfl
    obtain ⟨k_4, e_5, e_6⟩ := i_sub x0 (43 : Int32)
    have l_7 : (0 : Int32).toInt = 0 := rfl
    have e_8 := i_lt.mp (show (x0 - (43 : Int32)) < (0 : Int32) from c_1)
    unfold cb_X3_strength_17
    unfold cb_X3_strength_27
    refine WP.ret ?_
    exact ⟨rfl, rfl, trivial⟩
  · skip
    have q_9 := i_rng x0
    have l_10 : (43 : Int32).toInt = 43 := rfl
    obtain ⟨k_11, e_12, e_13⟩ := i_sub x0 (43 : Int32)
    have l_14 : (0 : Int32).toInt = 0 := rfl
    have e_15 := mt i_lt.mpr (show ¬ ((x0 - (43 : Int32)) < (0 : Int32)) from c_1)
    unfold cb_X3_strength_9
    refine WP.ite (fun c_16 => ?_) (fun c_16 => ?_)
    · skip
      have l_17 : (19 : Int32).toInt = 19 := rfl
      have e_18 := i_lt.mp (show (x0 - (43 : Int32)) < (19 : Int32) from c_16)
      unfold cb_X3_strength_22
      refine WP.ix (show vp_in (x0 - (43 : Int32)) 19 from vp_in_iff.mpr ⟨by omega, by omega⟩) ?_
      unfold cb_X3_strength_27
      refine WP.ret ?_
      exact ⟨rfl, rfl, trivial⟩
    · skip
      have l_19 : (19 : Int32).toInt = 19 := rfl
      have e_20 := mt i_lt.mpr (show ¬ ((x0 - (43 : Int32)) < (19 : Int32)) from c_16)
      unfold cb_X3_strength_17
      unfold cb_X3_strength_27
      refine WP.ret ?_
      exact ⟨rfl, rfl, trivial⟩
theorem cz_X3_settle_2 {fu : Nat} (hfu : 8589934592 ≤ fu) {F0 : PF} {G0 : PG} : ∀ (n : Nat) (x1 : Int32) (x2 : Int32) (x3 : Int32) (F : PF) (G : PG) (hI : CI F G) (hB : KB F0 G0 F G) (hT : KT F0 F) (hO : KO F0 F) (hn : (2147483647 - x3.toInt).toNat < n), WP (cl_X3_settle_2 fu n x1 x2 x3 F G) (fun r' F' G' => CI F' G' ∧ KB F0 G0 F' G' ∧ KT F0 F' ∧ KO F0 F' ∧ True) := by
  intro n
  induction n with
  | zero =>
    intro x1 x2 x3 F G hI hB hT hO hn
    exact absurd hn (Nat.not_lt_zero _)
  | succ n ihn =>
    intro x1 x2 x3 F G hI hB hT hO hn
    show WP (cb_X3_settle_2 fu (cl_X3_settle_2 fu n)  x1 x2 x3 F G) _
    have q_O : (F 10).toInt = (F0 10).toInt := hO
    have q_O1 := hI.r 10 rfl
    unfold cb_X3_settle_2
    refine WP.ite (fun c_1 => ?_) (fun c_1 => ?_)
    · skip
      have l_2 : (4001 : Int32).toInt = 4001 := rfl
      have q_3 := i_rng x3
      have e_4 := i_le.mp (show (4001 : Int32) ≤ x3 from c_1)
      unfold cb_X3_settle_138
      refine WP.ret ?_
      exact ⟨hI, hB, hT, hO, trivial⟩
    · skip
      have l_5 : (4001 : Int32).toInt = 4001 := rfl
      have q_6 := i_rng x3
      have e_7 := mt i_le.mpr (show ¬ ((4001 : Int32) ≤ x3) from c_1)
      unfold cb_X3_settle_9
      refine WP.ite (fun c_8 => ?_) (fun c_8 => ?_)
      · skip
        have q_9 := hI.r 21 rfl
        have q_10 := i_rng x1
        have e_11 := i_le.mp (show (F 21) ≤ x1 from c_8)
        unfold cb_X3_settle_138
        refine WP.ret ?_
        exact ⟨hI, hB, hT, hO, trivial⟩
      · skip
        have q_12 := hI.r 21 rfl
        have q_13 := i_rng x1
        have e_14 := mt i_le.mpr (show ¬ ((F 21) ≤ x1) from c_8)
        unfold cb_X3_settle_17
        refine WP.ite (fun c_15 => ?_) (fun c_15 => ?_)
        · skip
          have l_16 : (0 : Int32).toInt = 0 := rfl
          have e_17 := i_le.mp (show (F 21) ≤ (0 : Int32) from c_15)
          unfold cb_X3_settle_138
          refine WP.ret ?_
          exact ⟨hI, hB, hT, hO, trivial⟩
        · skip
          have l_18 : (0 : Int32).toInt = 0 := rfl
          have e_19 := mt i_le.mpr (show ¬ ((F 21) ≤ (0 : Int32)) from c_15)
          unfold cb_X3_settle_24
          have l_20 : (1 : Int32).toInt = 1 := rfl
          obtain ⟨k_21, e_22, e_23⟩ := i_sub (F 21) (1 : Int32)
          refine WP.ix (show vp_in ((F 21) - (1 : Int32)) 4001 from vp_in_iff.mpr ⟨by omega, by omega⟩) ?_
          have q_24 := i_rng (G 20 ((F 21) - (1 : Int32)).toNatClampNeg)
          refine WP.bind (cs_X3_strength hfu (G 20 ((F 21) - (1 : Int32)).toNatClampNeg) F G hI) ?_
          rintro r25 _ _ ⟨rfl, rfl, hp25⟩
          dsimp only
          unfold cb_X3_settle_42
          refine WP.ite (fun c_26 => ?_) (fun c_26 => ?_)
          · skip
            have q_27 := i_rng x2
            have q_28 := i_rng r25
            have e_29 := i_le.mp (show x2 ≤ r25 from c_26)
            unfold cb_X3_settle_47
            have j_30 : CI (fup F 21 ((F 21) - (1 : Int32))) G := CI.rg (k := 21) (x := ((F 21) - (1 : Int32))) rfl (by decide) (by decide) hI ⟨by omega, by omega⟩
            unfold cb_X3_settle_57
            refine WP.ite (fun c_31 => ?_) (fun c_31 => ?_)
            · skip
              have l_32 : (43 : Int32).toInt = 43 := rfl
              have e_33 := i_eq.mp (show (G 20 ((F 21) - (1 : Int32)).toNatClampNeg) = (43 : Int32) from c_31)
              unfold cb_X3_settle_71
              refine WP.ite (fun c_34 => ?_) (fun c_34 => ?_)
              · skip
                have e_35 := i_le.mp (show ((F 21) - (1 : Int32)) ≤ (0 : Int32) from c_34)
                unfold cb_X3_settle_123
                refine WP.bind (cs_X1_add hfu (G 20 ((F 21) - (1 : Int32)).toNatClampNeg) (fup F 21 ((F 21) - (1 : Int32))) G j_30) ?_
                rintro r36 F36 G36 ⟨hI36, hB36, hT36, hO36, hp36⟩
                dsimp only
                have q_37 := hI.r 10 rfl
                have q_38 := hI36.r 10 rfl
                have e_39 : (F36 10).toInt = (F 10).toInt := hO36
                have q_40 := hI36.r 21 rfl
                have e_41 : (F36 21).toInt = ((F 21) - (1 : Int32)).toInt := congrArg Int32.toInt hp36
                unfold cb_X3_settle_132
                obtain ⟨k_42, e_43, e_44⟩ := i_add x3 (1 : Int32)
                exact ihn x1 x2 (x3 + (1 : Int32)) F36 G36 hI36 (KB.tr (KB.f (by decide) hB) hB36) (KT.tr (KT.f (by decide) hT) hT36) (KO.tr (KO.f (by decide) hO) hO36) (by omega)
              · skip
                have e_45 := mt i_le.mpr (show ¬ (((F 21) - (1 : Int32)) ≤ (0 : Int32)) from c_34)
                unfold cb_X3_settle_78
                obtain ⟨k_46, e_47, e_48⟩ := i_sub ((F 21) - (1 : Int32)) (1 : Int32)
                have j_49 : CI (fup (fup F 21 ((F 21) - (1 : Int32))) 21 (((F 21) - (1 : Int32)) - (1 : Int32))) G := CI.rg (k := 21) (x := (((F 21) - (1 : Int32)) - (1 : Int32))) rfl (by decide) (by decide) j_30 ⟨by omega, by omega⟩
                unfold cb_X3_settle_88
                have l_50 : (65 : Int32).toInt = 65 := rfl
                refine WP.bind (cs_X1_add hfu (65 : Int32) (fup (fup F 21 ((F 21) - (1 : Int32))) 21 (((F 21) - (1 : Int32)) - (1 : Int32))) G j_49) ?_
                rintro r51 F51 G51 ⟨hI51, hB51, hT51, hO51, hp51⟩
                dsimp only
                have q_52 := hI.r 10 rfl
                have q_53 := hI51.r 10 rfl
                have e_54 : (F51 10).toInt = (F 10).toInt := hO51
                have q_55 := hI51.r 21 rfl
                have e_56 : (F51 21).toInt = (((F 21) - (1 : Int32)) - (1 : Int32)).toInt := congrArg Int32.toInt hp51
                unfold cb_X3_settle_97
                refine WP.ix (show vp_in (F51 21) 4001 from vp_in_iff.mpr ⟨by omega, by omega⟩) ?_
                have q_57 := i_rng (G51 20 (F51 21).toNatClampNeg)
                have q_58 := hI51.r 6 rfl
                refine WP.bind (cs_X1_aim hfu (G51 20 (F51 21).toNatClampNeg) (F51 6) F51 G51 hI51) ?_
                rintro r59 F59 G59 ⟨hI59, hB59, hT59, hO59, hp59⟩
                dsimp only
                have q_60 := hI59.r 10 rfl
                have e_61 : (F59 10).toInt = (F51 10).toInt := hO59
                unfold cb_X3_settle_120
                unfold cb_X3_settle_132
                obtain ⟨k_62, e_63, e_64⟩ := i_add x3 (1 : Int32)
                exact ihn x1 x2 (x3 + (1 : Int32)) F59 G59 hI59 (KB.tr (KB.tr (KB.f (by decide) (KB.f (by decide) hB)) hB51) hB59) (KT.tr (KT.tr (KT.f (by decide) (KT.f (by decide) hT)) hT51) hT59) (KO.tr (KO.tr (KO.f (by decide) (KO.f (by decide) hO)) hO51) hO59) (by omega)
            · skip
              have l_65 : (43 : Int32).toInt = 43 := rfl
              have e_66 := mt i_eq.mpr (show ¬ ((G 20 ((F 21) - (1 : Int32)).toNatClampNeg) = (43 : Int32)) from c_31)
              unfold cb_X3_settle_64
              refine WP.ite (fun c_67 => ?_) (fun c_67 => ?_)
              · skip
                have l_68 : (44 : Int32).toInt = 44 := rfl
                have e_69 := i_eq.mp (show (G 20 ((F 21) - (1 : Int32)).toNatClampNeg) = (44 : Int32) from c_67)
                unfold cb_X3_settle_71
                refine WP.ite (fun c_70 => ?_) (fun c_70 => ?_)
                · skip
                  have e_71 := i_le.mp (show ((F 21) - (1 : Int32)) ≤ (0 : Int32) from c_70)
                  unfold cb_X3_settle_123
                  refine WP.bind (cs_X1_add hfu (G 20 ((F 21) - (1 : Int32)).toNatClampNeg) (fup F 21 ((F 21) - (1 : Int32))) G j_30) ?_
                  rintro r72 F72 G72 ⟨hI72, hB72, hT72, hO72, hp72⟩
                  dsimp only
                  have q_73 := hI.r 10 rfl
                  have q_74 := hI72.r 10 rfl
                  have e_75 : (F72 10).toInt = (F 10).toInt := hO72
                  have q_76 := hI72.r 21 rfl
                  have e_77 : (F72 21).toInt = ((F 21) - (1 : Int32)).toInt := congrArg Int32.toInt hp72
                  unfold cb_X3_settle_132
                  obtain ⟨k_78, e_79, e_80⟩ := i_add x3 (1 : Int32)
                  exact ihn x1 x2 (x3 + (1 : Int32)) F72 G72 hI72 (KB.tr (KB.f (by decide) hB) hB72) (KT.tr (KT.f (by decide) hT) hT72) (KO.tr (KO.f (by decide) hO) hO72) (by omega)
                · skip
                  have e_81 := mt i_le.mpr (show ¬ (((F 21) - (1 : Int32)) ≤ (0 : Int32)) from c_70)
                  unfold cb_X3_settle_78
                  obtain ⟨k_82, e_83, e_84⟩ := i_sub ((F 21) - (1 : Int32)) (1 : Int32)
                  have j_85 : CI (fup (fup F 21 ((F 21) - (1 : Int32))) 21 (((F 21) - (1 : Int32)) - (1 : Int32))) G := CI.rg (k := 21) (x := (((F 21) - (1 : Int32)) - (1 : Int32))) rfl (by decide) (by decide) j_30 ⟨by omega, by omega⟩
                  unfold cb_X3_settle_88
                  have l_86 : (65 : Int32).toInt = 65 := rfl
                  refine WP.bind (cs_X1_add hfu (65 : Int32) (fup (fup F 21 ((F 21) - (1 : Int32))) 21 (((F 21) - (1 : Int32)) - (1 : Int32))) G j_85) ?_
                  rintro r87 F87 G87 ⟨hI87, hB87, hT87, hO87, hp87⟩
                  dsimp only
                  have q_88 := hI.r 10 rfl
                  have q_89 := hI87.r 10 rfl
                  have e_90 : (F87 10).toInt = (F 10).toInt := hO87
                  have q_91 := hI87.r 21 rfl
                  have e_92 : (F87 21).toInt = (((F 21) - (1 : Int32)) - (1 : Int32)).toInt := congrArg Int32.toInt hp87
                  unfold cb_X3_settle_97
                  refine WP.ix (show vp_in (F87 21) 4001 from vp_in_iff.mpr ⟨by omega, by omega⟩) ?_
                  have q_93 := i_rng (G87 20 (F87 21).toNatClampNeg)
                  have q_94 := hI87.r 6 rfl
                  refine WP.bind (cs_X1_aim hfu (G87 20 (F87 21).toNatClampNeg) (F87 6) F87 G87 hI87) ?_
                  rintro r95 F95 G95 ⟨hI95, hB95, hT95, hO95, hp95⟩
                  dsimp only
                  have q_96 := hI95.r 10 rfl
                  have e_97 : (F95 10).toInt = (F87 10).toInt := hO95
                  unfold cb_X3_settle_120
                  unfold cb_X3_settle_132
                  obtain ⟨k_98, e_99, e_100⟩ := i_add x3 (1 : Int32)
                  exact ihn x1 x2 (x3 + (1 : Int32)) F95 G95 hI95 (KB.tr (KB.tr (KB.f (by decide) (KB.f (by decide) hB)) hB87) hB95) (KT.tr (KT.tr (KT.f (by decide) (KT.f (by decide) hT)) hT87) hT95) (KO.tr (KO.tr (KO.f (by decide) (KO.f (by decide) hO)) hO87) hO95) (by omega)
              · skip
                have l_101 : (44 : Int32).toInt = 44 := rfl
                have e_102 := mt i_eq.mpr (show ¬ ((G 20 ((F 21) - (1 : Int32)).toNatClampNeg) = (44 : Int32)) from c_67)
                unfold cb_X3_settle_123
                refine WP.bind (cs_X1_add hfu (G 20 ((F 21) - (1 : Int32)).toNatClampNeg) (fup F 21 ((F 21) - (1 : Int32))) G j_30) ?_
                rintro r103 F103 G103 ⟨hI103, hB103, hT103, hO103, hp103⟩
                dsimp only
                have q_104 := hI.r 10 rfl
                have q_105 := hI103.r 10 rfl
                have e_106 : (F103 10).toInt = (F 10).toInt := hO103
                have q_107 := hI103.r 21 rfl
                have e_108 : (F103 21).toInt = ((F 21) - (1 : Int32)).toInt := congrArg Int32.toInt hp103
                unfold cb_X3_settle_132
                obtain ⟨k_109, e_110, e_111⟩ := i_add x3 (1 : Int32)
                exact ihn x1 x2 (x3 + (1 : Int32)) F103 G103 hI103 (KB.tr (KB.f (by decide) hB) hB103) (KT.tr (KT.f (by decide) hT) hT103) (KO.tr (KO.f (by decide) hO) hO103) (by omega)
          · skip
            have q_112 := i_rng x2
            have q_113 := i_rng r25
            have e_114 := mt i_le.mpr (show ¬ (x2 ≤ r25) from c_26)
            unfold cb_X3_settle_46
            refine WP.ret ?_
            exact ⟨hI, hB, hT, hO, trivial⟩
theorem cs_X3_settle {fu : Nat} (hfu : 8589934592 ≤ fu) (x1 : Int32) (x2 : Int32) (F : PF) (G : PG) (hI : CI F G) : WP (cf_X3_settle fu x1 x2 F G) (fun r' F' G' => CI F' G' ∧ KB F G F' G' ∧ KT F F' ∧ KO F F' ∧ True) := by
  unfold cf_X3_settle
  unfold cb_X3_settle_0
  have q_1 := i_rng x1
  have q_2 := i_rng x2
  have l_3 : (0 : Int32).toInt = 0 := rfl
  exact cz_X3_settle_2 (F0 := F) (G0 := G) hfu fu x1 x2 (0 : Int32) F G hI (KB.rf : KB F G F G) (rfl : KT F F) (rfl : KO F F) (by omega)
