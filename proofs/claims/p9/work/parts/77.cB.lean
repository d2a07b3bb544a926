theorem cz_X10_nameAt_58 {fu : Nat} (hfu : 8589934592 ≤ fu) {F0 : PF} {G0 : PG} : ∀ (n : Nat) (x1 : Int32) (x2 : Int32) (x4 : Int32) (x5 : Int32) (x6 : Int32) (F : PF) (G : PG) (hI : CI F G) (hB : KB F0 G0 F G) (hT : KT F0 F) (hO : KO F0 F) (hK : KK F0 F) (i_0 : 0 ≤ x4.toInt) (i_1 : x4.toInt < 1024) (hn : (2147483647 - x6.toInt).toNat < n), WP (cl_X10_nameAt_58 fu n x1 x2 x4 x5 x6 F G) (fun r' F' G' => CI F' G' ∧ KB F0 G0 F' G' ∧ KT F0 F' ∧ KO F0 F' ∧ KK F0 F' ∧ True) := by
  intro n
  induction n with
  | zero =>
    intro x1 x2 x4 x5 x6 F G hI hB hT hO hK i_0 i_1 hn
    exact absurd hn (Nat.not_lt_zero _)
  | succ n ihn =>
    intro x1 x2 x4 x5 x6 F G hI hB hT hO hK i_0 i_1 hn
    show WP (cb_X10_nameAt_58 fu (cl_X10_nameAt_58 fu n)  x1 x2 x4 x5 x6 F G) _
    unfold cb_X10_nameAt_58
    refine WP.ite (fun c_1 => ?_) (fun c_1 => ?_)
    · skip
      have q_2 := hI.r 98 rfl
      have q_3 := i_rng x6
      have e_4 := i_le.mp (show (F 98) ≤ x6 from c_1)
      unfold cb_X10_nameAt_109
      refine WP.ite (fun c_5 => ?_) (fun c_5 => ?_)
      · skip
        have l_6 : (1408 : Int32).toInt = 1408 := rfl
        have e_7 := i_lt.mp (show (F 98) < (1408 : Int32) from c_5)
        unfold cb_X10_nameAt_121
        refine WP.ix (show vp_in (F 98) 1408 from vp_in_iff.mpr ⟨by omega, by omega⟩) ?_
        have j_8 : CI F (gup G 96 (F 98).toNatClampNeg x1) := CI.g (by decide) hI
        unfold cb_X10_nameAt_131
        refine WP.ix (show vp_in (F 98) 1408 from vp_in_iff.mpr ⟨by omega, by omega⟩) ?_
        have j_9 : CI F (gup (gup G 96 (F 98).toNatClampNeg x1) 97 (F 98).toNatClampNeg x2) := CI.g (by decide) j_8
        unfold cb_X10_nameAt_141
        have q_10 := i_rng x4
        refine WP.ix (show vp_in x4 1024 from vp_in_iff.mpr ⟨by omega, by omega⟩) ?_
        refine WP.ix (show vp_in (F 98) 1408 from vp_in_iff.mpr ⟨by omega, by omega⟩) ?_
        have j_11 : CI F (gup (gup (gup G 96 (F 98).toNatClampNeg x1) 97 (F 98).toNatClampNeg x2) 95 (F 98).toNatClampNeg ((gup (gup G 96 (F 98).toNatClampNeg x1) 97 (F 98).toNatClampNeg x2) 94 x4.toNatClampNeg)) := CI.g (by decide) j_9
        unfold cb_X10_nameAt_157
        refine WP.ix (show vp_in x4 1024 from vp_in_iff.mpr ⟨by omega, by omega⟩) ?_
        have j_12 : CI F (gup (gup (gup (gup G 96 (F 98).toNatClampNeg x1) 97 (F 98).toNatClampNeg x2) 95 (F 98).toNatClampNeg ((gup (gup G 96 (F 98).toNatClampNeg x1) 97 (F 98).toNatClampNeg x2) 94 x4.toNatClampNeg)) 94 x4.toNatClampNeg (F 98)) := CI.g (by decide) j_11
        unfold cb_X10_nameAt_168
        first | have e_13 : ((F 98) + (1 : Int32)).toInt = (F 98).toInt + (1) := i_addn (F 98) rfl (by omega) (by omega) | have e_14 := i_rng ((F 98) + (1 : Int32))
        have j_15 : CI (fup F 98 ((F 98) + (1 : Int32))) (gup (gup (gup (gup G 96 (F 98).toNatClampNeg x1) 97 (F 98).toNatClampNeg x2) 95 (F 98).toNatClampNeg ((gup (gup G 96 (F 98).toNatClampNeg x1) 97 (F 98).toNatClampNeg x2) 94 x4.toNatClampNeg)) 94 x4.toNatClampNeg (F 98)) := CI.rg (k := 98) (x := ((F 98) + (1 : Int32))) rfl (by decide) (by decide) j_12 ⟨by omega, by omega⟩
        unfold cb_X10_nameAt_178
        refine WP.ret ?_
        exact ⟨j_15, (KB.f (by decide) (KB.g (by decide) (KB.g (by decide) (KB.g (by decide) (KB.g (by decide) hB))))), (KT.f (by decide) hT), (KO.f (by decide) hO), (KK.f (by decide) hK), trivial⟩
      · skip
        have l_16 : (1408 : Int32).toInt = 1408 := rfl
        have e_17 := mt i_lt.mpr (show ¬ ((F 98) < (1408 : Int32)) from c_5)
        unfold cb_X10_nameAt_119
        refine WP.ret ?_
        exact ⟨hI, hB, hT, hO, hK, trivial⟩
    · skip
      have q_18 := hI.r 98 rfl
      have q_19 := i_rng x6
      have e_20 := mt i_le.mpr (show ¬ ((F 98) ≤ x6) from c_1)
      unfold cb_X10_nameAt_67
      refine WP.ite (fun c_21 => ?_) (fun c_21 => ?_)
      · skip
        have q_22 := i_rng x5
        have l_23 : (0 : Int32).toInt = 0 := rfl
        have e_24 := i_lt.mp (show x5 < (0 : Int32) from c_21)
        unfold cb_X10_nameAt_109
        refine WP.ite (fun c_25 => ?_) (fun c_25 => ?_)
        · skip
          have l_26 : (1408 : Int32).toInt = 1408 := rfl
          have e_27 := i_lt.mp (show (F 98) < (1408 : Int32) from c_25)
          unfold cb_X10_nameAt_121
          refine WP.ix (show vp_in (F 98) 1408 from vp_in_iff.mpr ⟨by omega, by omega⟩) ?_
          have j_28 : CI F (gup G 96 (F 98).toNatClampNeg x1) := CI.g (by decide) hI
          unfold cb_X10_nameAt_131
          refine WP.ix (show vp_in (F 98) 1408 from vp_in_iff.mpr ⟨by omega, by omega⟩) ?_
          have j_29 : CI F (gup (gup G 96 (F 98).toNatClampNeg x1) 97 (F 98).toNatClampNeg x2) := CI.g (by decide) j_28
          unfold cb_X10_nameAt_141
          have q_30 := i_rng x4
          refine WP.ix (show vp_in x4 1024 from vp_in_iff.mpr ⟨by omega, by omega⟩) ?_
          refine WP.ix (show vp_in (F 98) 1408 from vp_in_iff.mpr ⟨by omega, by omega⟩) ?_
          have j_31 : CI F (gup (gup (gup G 96 (F 98).toNatClampNeg x1) 97 (F 98).toNatClampNeg x2) 95 (F 98).toNatClampNeg ((gup (gup G 96 (F 98).toNatClampNeg x1) 97 (F 98).toNatClampNeg x2) 94 x4.toNatClampNeg)) := CI.g (by decide) j_29
          unfold cb_X10_nameAt_157
          refine WP.ix (show vp_in x4 1024 from vp_in_iff.mpr ⟨by omega, by omega⟩) ?_
          have j_32 : CI F (gup (gup (gup (gup G 96 (F 98).toNatClampNeg x1) 97 (F 98).toNatClampNeg x2) 95 (F 98).toNatClampNeg ((gup (gup G 96 (F 98).toNatClampNeg x1) 97 (F 98).toNatClampNeg x2) 94 x4.toNatClampNeg)) 94 x4.toNatClampNeg (F 98)) := CI.g (by decide) j_31
          unfold cb_X10_nameAt_168
          first | have e_33 : ((F 98) + (1 : Int32)).toInt = (F 98).toInt + (1) := i_addn (F 98) rfl (by omega) (by omega) | have e_34 := i_rng ((F 98) + (1 : Int32))
          have j_35 : CI (fup F 98 ((F 98) + (1 : Int32))) (gup (gup (gup (gup G 96 (F 98).toNatClampNeg x1) 97 (F 98).toNatClampNeg x2) 95 (F 98).toNatClampNeg ((gup (gup G 96 (F 98).toNatClampNeg x1) 97 (F 98).toNatClampNeg x2) 94 x4.toNatClampNeg)) 94 x4.toNatClampNeg (F 98)) := CI.rg (k := 98) (x := ((F 98) + (1 : Int32))) rfl (by decide) (by decide) j_32 ⟨by omega, by omega⟩
          unfold cb_X10_nameAt_178
          refine WP.ret ?_
          exact ⟨j_35, (KB.f (by decide) (KB.g (by decide) (KB.g (by decide) (KB.g (by decide) (KB.g (by decide) hB))))), (KT.f (by decide) hT), (KO.f (by decide) hO), (KK.f (by decide) hK), trivial⟩
        · skip
          have l_36 : (1408 : Int32).toInt = 1408 := rfl
          have e_37 := mt i_lt.mpr (show ¬ ((F 98) < (1408 : Int32)) from c_25)
          unfold cb_X10_nameAt_119
          refine WP.ret ?_
          exact ⟨hI, hB, hT, hO, hK, trivial⟩
      · skip
        have q_38 := i_rng x5
        have l_39 : (0 : Int32).toInt = 0 := rfl
        have e_40 := mt i_lt.mpr (show ¬ (x5 < (0 : Int32)) from c_21)
        unfold cb_X10_nameAt_72
        refine WP.ite (fun c_41 => ?_) (fun c_41 => ?_)
        · skip
          have l_42 : (1408 : Int32).toInt = 1408 := rfl
          have e_43 := i_le.mp (show (1408 : Int32) ≤ x5 from c_41)
          unfold cb_X10_nameAt_109
          refine WP.ite (fun c_44 => ?_) (fun c_44 => ?_)
          · skip
            have e_45 := i_lt.mp (show (F 98) < (1408 : Int32) from c_44)
            unfold cb_X10_nameAt_121
            refine WP.ix (show vp_in (F 98) 1408 from vp_in_iff.mpr ⟨by omega, by omega⟩) ?_
            have j_46 : CI F (gup G 96 (F 98).toNatClampNeg x1) := CI.g (by decide) hI
            unfold cb_X10_nameAt_131
            refine WP.ix (show vp_in (F 98) 1408 from vp_in_iff.mpr ⟨by omega, by omega⟩) ?_
            have j_47 : CI F (gup (gup G 96 (F 98).toNatClampNeg x1) 97 (F 98).toNatClampNeg x2) := CI.g (by decide) j_46
            unfold cb_X10_nameAt_141
            have q_48 := i_rng x4
            refine WP.ix (show vp_in x4 1024 from vp_in_iff.mpr ⟨by omega, by omega⟩) ?_
            refine WP.ix (show vp_in (F 98) 1408 from vp_in_iff.mpr ⟨by omega, by omega⟩) ?_
            have j_49 : CI F (gup (gup (gup G 96 (F 98).toNatClampNeg x1) 97 (F 98).toNatClampNeg x2) 95 (F 98).toNatClampNeg ((gup (gup G 96 (F 98).toNatClampNeg x1) 97 (F 98).toNatClampNeg x2) 94 x4.toNatClampNeg)) := CI.g (by decide) j_47
            unfold cb_X10_nameAt_157
            refine WP.ix (show vp_in x4 1024 from vp_in_iff.mpr ⟨by omega, by omega⟩) ?_
            have j_50 : CI F (gup (gup (gup (gup G 96 (F 98).toNatClampNeg x1) 97 (F 98).toNatClampNeg x2) 95 (F 98).toNatClampNeg ((gup (gup G 96 (F 98).toNatClampNeg x1) 97 (F 98).toNatClampNeg x2) 94 x4.toNatClampNeg)) 94 x4.toNatClampNeg (F 98)) := CI.g (by decide) j_49
            unfold cb_X10_nameAt_168
            first | have e_51 : ((F 98) + (1 : Int32)).toInt = (F 98).toInt + (1) := i_addn (F 98) rfl (by omega) (by omega) | have e_52 := i_rng ((F 98) + (1 : Int32))
            have j_53 : CI (fup F 98 ((F 98) + (1 : Int32))) (gup (gup (gup (gup G 96 (F 98).toNatClampNeg x1) 97 (F 98).toNatClampNeg x2) 95 (F 98).toNatClampNeg ((gup (gup G 96 (F 98).toNatClampNeg x1) 97 (F 98).toNatClampNeg x2) 94 x4.toNatClampNeg)) 94 x4.toNatClampNeg (F 98)) := CI.rg (k := 98) (x := ((F 98) + (1 : Int32))) rfl (by decide) (by decide) j_50 ⟨by omega, by omega⟩
            unfold cb_X10_nameAt_178
            refine WP.ret ?_
            exact ⟨j_53, (KB.f (by decide) (KB.g (by decide) (KB.g (by decide) (KB.g (by decide) (KB.g (by decide) hB))))), (KT.f (by decide) hT), (KO.f (by decide) hO), (KK.f (by decide) hK), trivial⟩
          · skip
            have e_54 := mt i_lt.mpr (show ¬ ((F 98) < (1408 : Int32)) from c_44)
            unfold cb_X10_nameAt_119
            refine WP.ret ?_
            exact ⟨hI, hB, hT, hO, hK, trivial⟩
        · skip
          have l_55 : (1408 : Int32).toInt = 1408 := rfl
          have e_56 := mt i_le.mpr (show ¬ ((1408 : Int32) ≤ x5) from c_41)
          unfold cb_X10_nameAt_80
          have q_57 := i_rng x1
          have q_58 := i_rng x2
          refine WP.bind (cs_X10_isName hfu x5 x1 x2 F G hI (show 0 ≤ x5.toInt by omega) (show x5.toInt < 1408 by omega)) ?_
          rintro r59 _ _ ⟨rfl, rfl, hp59⟩
          dsimp only
          have q_60 := b_rng hp59
          unfold cb_X10_nameAt_88
          refine WP.ite (fun c_61 => ?_) (fun c_61 => ?_)
          · skip
            have e_62 := i_eq.mp (show r59 = (0 : Int32) from c_61)
            unfold cb_X10_nameAt_94
            refine WP.ix (show vp_in x5 1408 from vp_in_iff.mpr ⟨by omega, by omega⟩) ?_
            have q_63 := i_rng x4
            have q_64 := i_rng (G 95 x5.toNatClampNeg)
            first | have e_65 : (x6 + (1 : Int32)).toInt = x6.toInt + (1) := i_addn x6 rfl (by omega) (by omega) | have e_66 := i_rng (x6 + (1 : Int32))
            exact ihn x1 x2 x4 (G 95 x5.toNatClampNeg) (x6 + (1 : Int32)) F G hI hB hT hO hK (show 0 ≤ x4.toInt by omega) (show x4.toInt < 1024 by omega) (by omega)
          · skip
            have e_67 := mt i_eq.mpr (show ¬ (r59 = (0 : Int32)) from c_61)
            unfold cb_X10_nameAt_91
            refine WP.ret ?_
            exact ⟨hI, hB, hT, hO, hK, trivial⟩
theorem cz_X10_nameAt_5 {fu : Nat} (hfu : 8589934592 ≤ fu) {F0 : PF} {G0 : PG} : ∀ (n : Nat) (x1 : Int32) (x2 : Int32) (x3 : Int32) (x4 : Int32) (F : PF) (G : PG) (hI : CI F G) (hB : KB F0 G0 F G) (hT : KT F0 F) (hO : KO F0 F) (hK : KK F0 F) (hn : (2147483647 - x4.toInt).toNat < n), WP (cl_X10_nameAt_5 fu n x1 x2 x3 x4 F G) (fun r' F' G' => CI F' G' ∧ KB F0 G0 F' G' ∧ KT F0 F' ∧ KO F0 F' ∧ KK F0 F' ∧ True) := by
  intro n
  induction n with
  | zero =>
    intro x1 x2 x3 x4 F G hI hB hT hO hK hn
    exact absurd hn (Nat.not_lt_zero _)
  | succ n ihn =>
    intro x1 x2 x3 x4 F G hI hB hT hO hK hn
    show WP (cb_X10_nameAt_5 fu (cl_X10_nameAt_5 fu n)  x1 x2 x3 x4 F G) _
    unfold cb_X10_nameAt_5
    refine WP.ite (fun c_1 => ?_) (fun c_1 => ?_)
    · skip
      have q_2 := i_rng x2
      have q_3 := i_rng x4
      have e_4 := i_le.mp (show x2 ≤ x4 from c_1)
      unfold cb_X10_nameAt_34
      have q_5 := i_rng x3
      have l_6 : (10 : Int32).toInt = 10 := rfl
      have q_8 := i_rng ((x3.toUInt32 >>> ((10 : Int32).toUInt32 &&& Int32.toUInt32 31)).toInt32)
      have q_10 := i_rng (x3 ^^^ ((x3.toUInt32 >>> ((10 : Int32).toUInt32 &&& Int32.toUInt32 31)).toInt32))
      have l_11 : (1023 : Int32).toInt = 1023 := rfl
      have e_13 := i_and (x3 ^^^ ((x3.toUInt32 >>> ((10 : Int32).toUInt32 &&& Int32.toUInt32 31)).toInt32)) (m := 1023) 10 (by decide) (by decide)
      refine WP.ix (show vp_in ((x3 ^^^ ((x3.toUInt32 >>> ((10 : Int32).toUInt32 &&& Int32.toUInt32 31)).toInt32)) &&& (1023 : Int32)) 1024 from vp_in_iff.mpr ⟨by omega, by omega⟩) ?_
      have q_14 := i_rng x1
      have q_15 := i_rng (G 94 ((x3 ^^^ ((x3.toUInt32 >>> ((10 : Int32).toUInt32 &&& Int32.toUInt32 31)).toInt32)) &&& (1023 : Int32)).toNatClampNeg)
      have l_16 : (0 : Int32).toInt = 0 := rfl
      exact cz_X10_nameAt_58 (F0 := F0) (G0 := G0) hfu fu x1 x2 ((x3 ^^^ ((x3.toUInt32 >>> ((10 : Int32).toUInt32 &&& Int32.toUInt32 31)).toInt32)) &&& (1023 : Int32)) (G 94 ((x3 ^^^ ((x3.toUInt32 >>> ((10 : Int32).toUInt32 &&& Int32.toUInt32 31)).toInt32)) &&& (1023 : Int32)).toNatClampNeg) (0 : Int32) F G hI hB hT hO hK (show 0 ≤ ((x3 ^^^ ((x3.toUInt32 >>> ((10 : Int32).toUInt32 &&& Int32.toUInt32 31)).toInt32)) &&& (1023 : Int32)).toInt by omega) (show ((x3 ^^^ ((x3.toUInt32 >>> ((10 : Int32).toUInt32 &&& Int32.toUInt32 31)).toInt32)) &&& (1023 : Int32)).toInt < 1024 by omega) (by omega)
    · skip
      have q_17 := i_rng x2
      have q_18 := i_rng x4
      have e_19 := mt i_le.mpr (show ¬ (x2 ≤ x4) from c_1)
      unfold cb_X10_nameAt_11
      have q_20 := i_rng x1
      first | have e_21 : (x1 + x4).toInt = x1.toInt + (x4.toInt) := i_addn x1 rfl (by omega) (by omega) | have e_22 := i_rng (x1 + x4)
      refine WP.bind (cs_X9_at hfu (x1 + x4) F G hI) ?_
      rintro r23 _ _ ⟨rfl, rfl, hp23⟩
      dsimp only
      unfold cb_X10_nameAt_26
      have q_24 := i_rng x3
      have l_25 : (31 : Int32).toInt = 31 := rfl
      first | have e_27 : (x3 * (31 : Int32)).toInt = x3.toInt * (31) := i_muln x3 rfl (by omega) (by omega) | have e_28 := i_rng (x3 * (31 : Int32))
      have q_29 := i_rng r23
      first | have e_30 : ((x3 * (31 : Int32)) + r23).toInt = (x3 * (31 : Int32)).toInt + (r23.toInt) := i_addn (x3 * (31 : Int32)) rfl (by omega) (by omega) | have e_31 := i_rng ((x3 * (31 : Int32)) + r23)
      first | have e_32 : (x4 + (1 : Int32)).toInt = x4.toInt + (1) := i_addn x4 rfl (by omega) (by omega) | have e_33 := i_rng (x4 + (1 : Int32))
      exact ihn x1 x2 ((x3 * (31 : Int32)) + r23) (x4 + (1 : Int32)) F G hI hB hT hO hK (by omega)
theorem cs_X10_nameAt {fu : Nat} (hfu : 8589934592 ≤ fu) (x1 : Int32) (x2 : Int32) (F : PF) (G : PG) (hI : CI F G) : WP (cf_X10_nameAt fu x1 x2 F G) (fun r' F' G' => CI F' G' ∧ KB F G F' G' ∧ KT F F' ∧ KO F F' ∧ KK F F' ∧ True) := by
  unfold cf_X10_nameAt
  unfold cb_X10_nameAt_0
  have q_1 := i_rng x1
  have q_2 := i_rng x2
  have l_3 : (0 : Int32).toInt = 0 := rfl
  exact cz_X10_nameAt_5 (F0 := F) (G0 := G) hfu fu x1 x2 x2 (0 : Int32) F G hI (KB.rf : KB F G F G) (rfl : KT F F) (rfl : KO F F) (rfl : KK F F) (by omega)
theorem cs_X10_behindName {fu : Nat} (hfu : 8589934592 ≤ fu) (x1 : Int32) (F : PF) (G : PG) (hI : CI F G) (ha : 0 ≤ x1.toInt) (hb : x1.toInt ≤ 4000) : WP (cf_X10_behindName fu x1 F G) (fun r' F' G' => CI F' G' ∧ KB F G F' G' ∧ KT F F' ∧ KO F F' ∧ KK F F' ∧ ((r'.toInt = -1 ∨ (0 ≤ r'.toInt ∧ r'.toInt ≤ 4010)))) := by
  unfold cf_X10_behindName
  unfold cb_X10_behindName_0
  have q_1 := i_rng x1
  refine WP.bind (cs_X10_behindParts hfu x1 F G hI (show 0 ≤ x1.toInt by omega) (show x1.toInt ≤ 4000 by omega)) ?_
  rintro r2 _ _ ⟨rfl, rfl, hp2⟩
  dsimp only
  have q_3 := i_rng r2
  unfold cb_X10_behindName_5
  refine WP.ite (fun c_4 => ?_) (fun c_4 => ?_)
  · skip
    first | have e_5 : (r2 - x1).toInt = r2.toInt - (x1.toInt) := i_subn r2 rfl (by omega) (by omega) | have e_6 := i_rng (r2 - x1)
    have l_7 : (16 : Int32).toInt = 16 := rfl
    have e_8 := i_le.mp (show (r2 - x1) ≤ (16 : Int32) from c_4)
    unfold cb_X10_behindName_18
    refine WP.bind (cs_X10_wordAt hfu x1 (r2 - x1) F G hI (show 0 ≤ (r2 - x1).toInt by omega)) ?_
    rintro r9 _ _ ⟨rfl, rfl, hp9⟩
    dsimp only
    unfold cb_X10_behindName_24
    refine WP.ite (fun c_10 => ?_) (fun c_10 => ?_)
    · skip
      have q_11 := i_rng r9
      have l_12 : (-1 : Int32).toInt = -1 := rfl
      have e_13 := i_eq.mp (show r9 = (-1 : Int32) from c_10)
      unfold cb_X10_behindName_43
      refine WP.bind (cs_X10_nameAt hfu x1 (r2 - x1) F G hI) ?_
      rintro r14 F14 G14 ⟨hI14, hB14, hT14, hO14, hK14, hp14⟩
      dsimp only
      have q_15 := hI.r 10 rfl
      have q_16 := hI14.r 10 rfl
      have e_17 : (F14 10).toInt = (F 10).toInt := hO14
      unfold cb_X10_behindName_51
      have l_18 : (2 : Int32).toInt = 2 := rfl
      have q_19 := i_rng r14
      refine WP.bind (cs_X10_add hfu (2 : Int32) r14 x1 F14 G14 hI14) ?_
      rintro r20 F20 G20 ⟨hI20, hB20, hT20, hO20, hK20, hp20⟩
      dsimp only
      have q_21 := hI20.r 10 rfl
      have e_22 : (F20 10).toInt = (F14 10).toInt := hO20
      unfold cb_X10_behindName_55
      refine WP.ret ?_
      exact ⟨hI20, (KB.tr (KB.tr (KB.rf : KB F G F G) hB14) hB20), (KT.tr (KT.tr (rfl : KT F F) hT14) hT20), (KO.tr (KO.tr (rfl : KO F F) hO14) hO20), (KK.tr (KK.tr (rfl : KK F F) hK14) hK20), (show r2.toInt = -1 ∨ (0 ≤ r2.toInt ∧ r2.toInt ≤ 4010) by omega)⟩
    · skip
      have q_23 := i_rng r9
      have l_24 : (-1 : Int32).toInt = -1 := rfl
      have e_25 := mt i_eq.mpr (show ¬ (r9 = (-1 : Int32)) from c_10)
      unfold cb_X10_behindName_32
      have l_26 : (0 : Int32).toInt = 0 := rfl
      refine WP.bind (cs_X10_add hfu r9 (0 : Int32) x1 F G hI) ?_
      rintro r27 F27 G27 ⟨hI27, hB27, hT27, hO27, hK27, hp27⟩
      dsimp only
      have q_28 := hI.r 10 rfl
      have q_29 := hI27.r 10 rfl
      have e_30 : (F27 10).toInt = (F 10).toInt := hO27
      unfold cb_X10_behindName_40
      unfold cb_X10_behindName_55
      refine WP.ret ?_
      exact ⟨hI27, (KB.tr (KB.rf : KB F G F G) hB27), (KT.tr (rfl : KT F F) hT27), (KO.tr (rfl : KO F F) hO27), (KK.tr (rfl : KK F F) hK27), (show r2.toInt = -1 ∨ (0 ≤ r2.toInt ∧ r2.toInt ≤ 4010) by omega)⟩
  · skip
    first | have e_31 : (r2 - x1).toInt = r2.toInt - (x1.toInt) := i_subn r2 rfl (by omega) (by omega) | have e_32 := i_rng (r2 - x1)
    have l_33 : (16 : Int32).toInt = 16 := rfl
    have e_34 := mt i_le.mpr (show ¬ ((r2 - x1) ≤ (16 : Int32)) from c_4)
    unfold cb_X10_behindName_16
    refine WP.ret ?_
    have l_35 : (-1 : Int32).toInt = -1 := rfl
    exact ⟨hI, (KB.rf : KB F G F G), (rfl : KT F F), (rfl : KO F F), (rfl : KK F F), (show (-1 : Int32).toInt = -1 ∨ (0 ≤ (-1 : Int32).toInt ∧ (-1 : Int32).toInt ≤ 4010) by omega)⟩
theorem cs_X10_behindToken {fu : Nat} (hfu : 8589934592 ≤ fu) (x1 : Int32) (F : PF) (G : PG) (hI : CI F G) (ha : 0 ≤ x1.toInt) (hb : x1.toInt ≤ 4000) : WP (cf_X10_behindToken fu x1 F G) (fun r' F' G' => CI F' G' ∧ KB F G F' G' ∧ KT F F' ∧ KO F F' ∧ KK F F' ∧ ((r'.toInt = -1 ∨ (0 ≤ r'.toInt ∧ r'.toInt ≤ 4010)))) := by
  unfold cf_X10_behindToken
  unfold cb_X10_behindToken_0
  have q_1 := i_rng x1
  refine WP.bind (cs_X9_at hfu x1 F G hI) ?_
  rintro r2 _ _ ⟨rfl, rfl, hp2⟩
  dsimp only
  unfold cb_X10_behindToken_8
  have q_3 := i_rng r2
  refine WP.bind (cs_X10_isDigit hfu r2 F G hI) ?_
  rintro r4 _ _ ⟨rfl, rfl, hp4⟩
  dsimp only
  have q_5 := b_rng hp4
  unfold cb_X10_behindToken_13
  refine WP.ite (fun c_6 => ?_) (fun c_6 => ?_)
  · skip
    have l_7 : (0 : Int32).toInt = 0 := rfl
    have e_8 := i_eq.mp (show r4 = (0 : Int32) from c_6)
    unfold cb_X10_behindToken_25
    refine WP.bind (cs_X10_isPart hfu r2 F G hI) ?_
    rintro r9 _ _ ⟨rfl, rfl, hp9⟩
    dsimp only
    have q_10 := b_rng hp9
    unfold cb_X10_behindToken_29
    refine WP.ite (fun c_11 => ?_) (fun c_11 => ?_)
    · skip
      have e_12 := i_eq.mp (show r9 = (0 : Int32) from c_11)
      unfold cb_X10_behindToken_41
      refine WP.bind (cs_X10_behindSign hfu x1 r2 F G hI (show 0 ≤ x1.toInt by omega) (show x1.toInt ≤ 4000 by omega)) ?_
      rintro r13 F13 G13 ⟨hI13, hB13, hT13, hO13, hK13, hp13⟩
      dsimp only
      have q_14 := hI.r 10 rfl
      have q_15 := hI13.r 10 rfl
      have e_16 : (F13 10).toInt = (F 10).toInt := hO13
      unfold cb_X10_behindToken_47
      unfold cb_X10_behindToken_48
      refine WP.ite (fun c_17 => ?_) (fun c_17 => ?_)
      · skip
        have q_18 := i_rng r13
        have l_19 : (-1 : Int32).toInt = -1 := rfl
        have e_20 := i_eq.mp (show r13 = (-1 : Int32) from c_17)
        unfold cb_X10_behindToken_53
        have l_21 : (1 : Int32).toInt = 1 := rfl
        refine WP.bind (cs_X10_add hfu (1 : Int32) (0 : Int32) x1 F13 G13 hI13) ?_
        rintro r22 F22 G22 ⟨hI22, hB22, hT22, hO22, hK22, hp22⟩
        dsimp only
        have q_23 := hI22.r 10 rfl
        have e_24 : (F22 10).toInt = (F13 10).toInt := hO22
        unfold cb_X10_behindToken_60
        refine WP.ret ?_
        exact ⟨hI22, (KB.tr (KB.tr (KB.rf : KB F G F G) hB13) hB22), (KT.tr (KT.tr (rfl : KT F F) hT13) hT22), (KO.tr (KO.tr (rfl : KO F F) hO13) hO22), (KK.tr (KK.tr (rfl : KK F F) hK13) hK22), (show r13.toInt = -1 ∨ (0 ≤ r13.toInt ∧ r13.toInt ≤ 4010) by omega)⟩
      · skip
        have q_25 := i_rng r13
        have l_26 : (-1 : Int32).toInt = -1 := rfl
        have e_27 := mt i_eq.mpr (show ¬ (r13 = (-1 : Int32)) from c_17)
        unfold cb_X10_behindToken_60
        refine WP.ret ?_
        exact ⟨hI13, (KB.tr (KB.rf : KB F G F G) hB13), (KT.tr (rfl : KT F F) hT13), (KO.tr (rfl : KO F F) hO13), (KK.tr (rfl : KK F F) hK13), (show r13.toInt = -1 ∨ (0 ≤ r13.toInt ∧ r13.toInt ≤ 4010) by omega)⟩
    · skip
      have e_28 := mt i_eq.mpr (show ¬ (r9 = (0 : Int32)) from c_11)
      unfold cb_X10_behindToken_32
      refine WP.bind (cs_X10_behindName hfu x1 F G hI (show 0 ≤ x1.toInt by omega) (show x1.toInt ≤ 4000 by omega)) ?_
      rintro r29 F29 G29 ⟨hI29, hB29, hT29, hO29, hK29, hp29⟩
      dsimp only
      have q_30 := hI.r 10 rfl
      have q_31 := hI29.r 10 rfl
      have e_32 : (F29 10).toInt = (F 10).toInt := hO29
      unfold cb_X10_behindToken_37
      unfold cb_X10_behindToken_48
      refine WP.ite (fun c_33 => ?_) (fun c_33 => ?_)
      · skip
        have q_34 := i_rng r29
        have l_35 : (-1 : Int32).toInt = -1 := rfl
        have e_36 := i_eq.mp (show r29 = (-1 : Int32) from c_33)
        unfold cb_X10_behindToken_53
        have l_37 : (1 : Int32).toInt = 1 := rfl
        refine WP.bind (cs_X10_add hfu (1 : Int32) (0 : Int32) x1 F29 G29 hI29) ?_
        rintro r38 F38 G38 ⟨hI38, hB38, hT38, hO38, hK38, hp38⟩
        dsimp only
        have q_39 := hI38.r 10 rfl
        have e_40 : (F38 10).toInt = (F29 10).toInt := hO38
        unfold cb_X10_behindToken_60
        refine WP.ret ?_
        exact ⟨hI38, (KB.tr (KB.tr (KB.rf : KB F G F G) hB29) hB38), (KT.tr (KT.tr (rfl : KT F F) hT29) hT38), (KO.tr (KO.tr (rfl : KO F F) hO29) hO38), (KK.tr (KK.tr (rfl : KK F F) hK29) hK38), (show r29.toInt = -1 ∨ (0 ≤ r29.toInt ∧ r29.toInt ≤ 4010) by omega)⟩
      · skip
        have q_41 := i_rng r29
        have l_42 : (-1 : Int32).toInt = -1 := rfl
        have e_43 := mt i_eq.mpr (show ¬ (r29 = (-1 : Int32)) from c_33)
        unfold cb_X10_behindToken_60
        refine WP.ret ?_
        exact ⟨hI29, (KB.tr (KB.rf : KB F G F G) hB29), (KT.tr (rfl : KT F F) hT29), (KO.tr (rfl : KO F F) hO29), (KK.tr (rfl : KK F F) hK29), (show r29.toInt = -1 ∨ (0 ≤ r29.toInt ∧ r29.toInt ≤ 4010) by omega)⟩
  · skip
    have l_44 : (0 : Int32).toInt = 0 := rfl
    have e_45 := mt i_eq.mpr (show ¬ (r4 = (0 : Int32)) from c_6)
    unfold cb_X10_behindToken_16
    refine WP.bind (cs_X10_behindNumber hfu x1 F G hI (show 0 ≤ x1.toInt by omega) (show x1.toInt ≤ 4000 by omega)) ?_
    rintro r46 F46 G46 ⟨hI46, hB46, hT46, hO46, hK46, hp46⟩
    dsimp only
    have q_47 := hI.r 10 rfl
    have q_48 := hI46.r 10 rfl
    have e_49 : (F46 10).toInt = (F 10).toInt := hO46
    unfold cb_X10_behindToken_21
    unfold cb_X10_behindToken_48
    refine WP.ite (fun c_50 => ?_) (fun c_50 => ?_)
    · skip
      have q_51 := i_rng r46
      have l_52 : (-1 : Int32).toInt = -1 := rfl
      have e_53 := i_eq.mp (show r46 = (-1 : Int32) from c_50)
      unfold cb_X10_behindToken_53
      have l_54 : (1 : Int32).toInt = 1 := rfl
      refine WP.bind (cs_X10_add hfu (1 : Int32) (0 : Int32) x1 F46 G46 hI46) ?_
      rintro r55 F55 G55 ⟨hI55, hB55, hT55, hO55, hK55, hp55⟩
      dsimp only
      have q_56 := hI55.r 10 rfl
      have e_57 : (F55 10).toInt = (F46 10).toInt := hO55
      unfold cb_X10_behindToken_60
      refine WP.ret ?_
      exact ⟨hI55, (KB.tr (KB.tr (KB.rf : KB F G F G) hB46) hB55), (KT.tr (KT.tr (rfl : KT F F) hT46) hT55), (KO.tr (KO.tr (rfl : KO F F) hO46) hO55), (KK.tr (KK.tr (rfl : KK F F) hK46) hK55), (show r46.toInt = -1 ∨ (0 ≤ r46.toInt ∧ r46.toInt ≤ 4010) by omega)⟩
    · skip
      have q_58 := i_rng r46
      have l_59 : (-1 : Int32).toInt = -1 := rfl
      have e_60 := mt i_eq.mpr (show ¬ (r46 = (-1 : Int32)) from c_50)
      unfold cb_X10_behindToken_60
      refine WP.ret ?_
      exact ⟨hI46, (KB.tr (KB.rf : KB F G F G) hB46), (KT.tr (rfl : KT F F) hT46), (KO.tr (rfl : KO F F) hO46), (KK.tr (rfl : KK F F) hK46), (show r46.toInt = -1 ∨ (0 ≤ r46.toInt ∧ r46.toInt ≤ 4010) by omega)⟩
theorem cz_X10_scan_22 {fu : Nat} (hfu : 8589934592 ≤ fu) {F0 : PF} {G0 : PG} : ∀ (n : Nat) (x1 : Int32) (x2 : Int32) (F : PF) (G : PG) (hI : CI F G) (hB : KB F0 G0 F G) (hT : KT F0 F) (hO : KO F0 F) (hK : KK F0 F) (i_0 : 0 ≤ x1.toInt) (hn : (2147483647 - x2.toInt).toNat < n), WP (cl_X10_scan_22 fu n x1 x2 F G) (fun r' F' G' => CI F' G' ∧ KB F0 G0 F' G' ∧ KT F0 F' ∧ KO F0 F' ∧ KK F0 F' ∧ True) := by
  intro n
  induction n with
  | zero =>
    intro x1 x2 F G hI hB hT hO hK i_0 hn
    exact absurd hn (Nat.not_lt_zero _)
  | succ n ihn =>
    intro x1 x2 F G hI hB hT hO hK i_0 hn
    show WP (cb_X10_scan_22 fu (cl_X10_scan_22 fu n)  x1 x2 F G) _
    unfold cb_X10_scan_22
    refine WP.ite (fun c_1 => ?_) (fun c_1 => ?_)
    · skip
      have l_2 : (4001 : Int32).toInt = 4001 := rfl
      have q_3 := i_rng x2
      have e_4 := i_le.mp (show (4001 : Int32) ≤ x2 from c_1)
      unfold cb_X10_scan_75
      have l_5 : (0 : Int32).toInt = 0 := rfl
      have q_6 := hI.r 88 rfl
      refine WP.bind (cs_X10_add hfu (0 : Int32) (0 : Int32) (F 88) F G hI) ?_
      rintro r7 F7 G7 ⟨hI7, hB7, hT7, hO7, hK7, hp7⟩
      dsimp only
      have q_8 := hI.r 10 rfl
      have q_9 := hI7.r 10 rfl
      have e_10 : (F7 10).toInt = (F 10).toInt := hO7
      unfold cb_X10_scan_88
      refine WP.ret ?_
      exact ⟨hI7, (KB.tr hB hB7), (KT.tr hT hT7), (KO.tr hO hO7), (KK.tr hK hK7), trivial⟩
    · skip
      have l_11 : (4001 : Int32).toInt = 4001 := rfl
      have q_12 := i_rng x2
      have e_13 := mt i_le.mpr (show ¬ ((4001 : Int32) ≤ x2) from c_1)
      unfold cb_X10_scan_29
      refine WP.ite (fun c_14 => ?_) (fun c_14 => ?_)
      · skip
        have q_15 := hI.r 88 rfl
        have q_16 := i_rng x1
        have e_17 := i_le.mp (show (F 88) ≤ x1 from c_14)
        unfold cb_X10_scan_75
        have l_18 : (0 : Int32).toInt = 0 := rfl
        refine WP.bind (cs_X10_add hfu (0 : Int32) (0 : Int32) (F 88) F G hI) ?_
        rintro r19 F19 G19 ⟨hI19, hB19, hT19, hO19, hK19, hp19⟩
        dsimp only
        have q_20 := hI.r 10 rfl
        have q_21 := hI19.r 10 rfl
        have e_22 : (F19 10).toInt = (F 10).toInt := hO19
        unfold cb_X10_scan_88
        refine WP.ret ?_
        exact ⟨hI19, (KB.tr hB hB19), (KT.tr hT hT19), (KO.tr hO hO19), (KK.tr hK hK19), trivial⟩
      · skip
        have q_23 := hI.r 88 rfl
        have q_24 := i_rng x1
        have e_25 := mt i_le.mpr (show ¬ ((F 88) ≤ x1) from c_14)
        unfold cb_X10_scan_40
        refine WP.bind (cs_X10_behindGap hfu x1 F G hI (show 0 ≤ x1.toInt by omega) (show x1.toInt ≤ 4000 by omega)) ?_
        rintro r26 _ _ ⟨rfl, rfl, hp26⟩
        dsimp only
        have q_27 := i_rng r26
        unfold cb_X10_scan_45
        refine WP.ite (fun c_28 => ?_) (fun c_28 => ?_)
        · skip
          have e_29 := i_le.mp (show (F 88) ≤ r26 from c_28)
          unfold cb_X10_scan_63
          refine WP.ite (fun c_30 => ?_) (fun c_30 => ?_)
          · skip
            have l_31 : (-1 : Int32).toInt = -1 := rfl
            have e_32 := i_eq.mp (show r26 = (-1 : Int32) from c_30)
            unfold cb_X10_scan_68
            refine WP.ret ?_
            exact ⟨hI, hB, hT, hO, hK, trivial⟩
          · skip
            have l_33 : (-1 : Int32).toInt = -1 := rfl
            have e_34 := mt i_eq.mpr (show ¬ (r26 = (-1 : Int32)) from c_30)
            unfold cb_X10_scan_69
            first | have e_35 : (x2 + (1 : Int32)).toInt = x2.toInt + (1) := i_addn x2 rfl (by omega) (by omega) | have e_36 := i_rng (x2 + (1 : Int32))
            exact ihn r26 (x2 + (1 : Int32)) F G hI hB hT hO hK (show 0 ≤ r26.toInt by omega) (by omega)
        · skip
          have e_37 := mt i_le.mpr (show ¬ ((F 88) ≤ r26) from c_28)
          unfold cb_X10_scan_57
          refine WP.bind (cs_X10_behindToken hfu r26 F G hI (show 0 ≤ r26.toInt by omega) (show r26.toInt ≤ 4000 by omega)) ?_
          rintro r38 F38 G38 ⟨hI38, hB38, hT38, hO38, hK38, hp38⟩
          dsimp only
          have q_39 := hI.r 10 rfl
          have q_40 := hI38.r 10 rfl
          have e_41 : (F38 10).toInt = (F 10).toInt := hO38
          unfold cb_X10_scan_62
          unfold cb_X10_scan_63
          refine WP.ite (fun c_42 => ?_) (fun c_42 => ?_)
          · skip
            have q_43 := i_rng r38
            have l_44 : (-1 : Int32).toInt = -1 := rfl
            have e_45 := i_eq.mp (show r38 = (-1 : Int32) from c_42)
            unfold cb_X10_scan_68
            refine WP.ret ?_
            exact ⟨hI38, (KB.tr hB hB38), (KT.tr hT hT38), (KO.tr hO hO38), (KK.tr hK hK38), trivial⟩
          · skip
            have q_46 := i_rng r38
            have l_47 : (-1 : Int32).toInt = -1 := rfl
            have e_48 := mt i_eq.mpr (show ¬ (r38 = (-1 : Int32)) from c_42)
            unfold cb_X10_scan_69
            first | have e_49 : (x2 + (1 : Int32)).toInt = x2.toInt + (1) := i_addn x2 rfl (by omega) (by omega) | have e_50 := i_rng (x2 + (1 : Int32))
            exact ihn r38 (x2 + (1 : Int32)) F38 G38 hI38 (KB.tr hB hB38) (KT.tr hT hT38) (KO.tr hO hO38) (KK.tr hK hK38) (show 0 ≤ r38.toInt by omega) (by omega)
theorem cs_X10_scan {fu : Nat} (hfu : 8589934592 ≤ fu) (F : PF) (G : PG) (hI : CI F G) : WP (cf_X10_scan fu F G) (fun r' F' G' => CI F' G' ∧ KB F G F' G' ∧ KT F F' ∧ KO F F' ∧ KK F F' ∧ True) := by
  unfold cf_X10_scan
  unfold cb_X10_scan_0
  have l_1 : (0 : Int32).toInt = 0 := rfl
  have j_2 : CI (fup F 93 (0 : Int32)) G := CI.rg (k := 93) (x := (0 : Int32)) rfl (by decide) (by decide) hI ⟨by omega, by omega⟩
  unfold cb_X10_scan_5
  have j_3 : CI (fup (fup F 93 (0 : Int32)) 98 (0 : Int32)) G := CI.rg (k := 98) (x := (0 : Int32)) rfl (by decide) (by decide) j_2 ⟨by omega, by omega⟩
  unfold cb_X10_scan_10
  have l_4 : (-1 : Int32).toInt = -1 := rfl
  refine WP.bind (cs_fill_94 hfu (-1 : Int32) (fup (fup F 93 (0 : Int32)) 98 (0 : Int32)) G j_3) ?_
  rintro r5 F5 G5 ⟨hI5, hB5, hT5, hO5, hK5, hp5⟩
  dsimp only
  have q_6 := hI.r 10 rfl
  have q_7 := hI5.r 10 rfl
  have e_8 : (F5 10).toInt = (F 10).toInt := hO5
  unfold cb_X10_scan_18
  exact cz_X10_scan_22 (F0 := F) (G0 := G) hfu fu (0 : Int32) (0 : Int32) F5 G5 hI5 (KB.tr (KB.f (by decide) (KB.f (by decide) (KB.rf : KB F G F G))) hB5) (KT.tr (KT.f (by decide) (KT.f (by decide) (rfl : KT F F))) hT5) (KO.tr (KO.f (by decide) (KO.f (by decide) (rfl : KO F F))) hO5) (KK.tr (KK.f (by decide) (KK.f (by decide) (rfl : KK F F))) hK5) (show 0 ≤ (0 : Int32).toInt by omega) (by omega)
theorem cz_X10_mainId_4 {fu : Nat} (hfu : 8589934592 ≤ fu) {F0 : PF} {G0 : PG} : ∀ (n : Nat) (x1 : Int32) (x2 : Int32) (F : PF) (G : PG) (hI : CI F G) (hF : F0 = F) (hG : G0 = G) (i_0 : 0 ≤ x2.toInt) (hn : (2147483647 - x2.toInt).toNat < n), WP (cl_X10_mainId_4 fu n x1 x2 F G) (fun r' F' G' => F0 = F' ∧ G0 = G' ∧ True) := by
  intro n
  induction n with
  | zero =>
    intro x1 x2 F G hI hF hG i_0 hn
    exact absurd hn (Nat.not_lt_zero _)
  | succ n ihn =>
    intro x1 x2 F G hI hF hG i_0 hn
    show WP (cb_X10_mainId_4 fu (cl_X10_mainId_4 fu n)  x1 x2 F G) _
    unfold cb_X10_mainId_4
    refine WP.ite (fun c_1 => ?_) (fun c_1 => ?_)
    · skip
      have q_2 := hI.r 98 rfl
      have q_3 := i_rng x2
      have e_4 := i_le.mp (show (F 98) ≤ x2 from c_1)
      unfold cb_X10_mainId_100
      refine WP.ret ?_
      exact ⟨hF, hG, trivial⟩
    · skip
      have q_5 := hI.r 98 rfl
      have q_6 := i_rng x2
      have e_7 := mt i_le.mpr (show ¬ ((F 98) ≤ x2) from c_1)
      unfold cb_X10_mainId_12
      refine WP.ite (fun c_8 => ?_) (fun c_8 => ?_)
      · skip
        have q_9 := i_rng x1
        have l_10 : (-1 : Int32).toInt = -1 := rfl
        have e_11 := i_eq.mp (show x1 = (-1 : Int32) from c_8)
        unfold cb_X10_mainId_17
        refine WP.ix (show vp_in x2 1408 from vp_in_iff.mpr ⟨by omega, by omega⟩) ?_
        refine WP.ix (show vp_in x2 1408 from vp_in_iff.mpr ⟨by omega, by omega⟩) ?_
        refine WP.ite (fun c_12 => ?_) (fun c_12 => ?_)
        · skip
          have q_13 := i_rng (G 97 x2.toNatClampNeg)
          have l_14 : (4 : Int32).toInt = 4 := rfl
          have e_15 := i_eq.mp (show (G 97 x2.toNatClampNeg) = (4 : Int32) from c_12)
          unfold cb_X10_mainId_34
          have q_16 := i_rng (G 96 x2.toNatClampNeg)
          refine WP.bind (cs_X9_at hfu (G 96 x2.toNatClampNeg) F G hI) ?_
          rintro r17 _ _ ⟨rfl, rfl, hp17⟩
          dsimp only
          unfold cb_X10_mainId_42
          refine WP.ite (fun c_18 => ?_) (fun c_18 => ?_)
          · skip
            have q_19 := i_rng r17
            have l_20 : (109 : Int32).toInt = 109 := rfl
            have e_21 := i_eq.mp (show r17 = (109 : Int32) from c_18)
            unfold cb_X10_mainId_47
            first | have e_22 : ((G 96 x2.toNatClampNeg) + (1 : Int32)).toInt = (G 96 x2.toNatClampNeg).toInt + (1) := i_addn (G 96 x2.toNatClampNeg) rfl (by omega) (by omega) | have e_23 := i_rng ((G 96 x2.toNatClampNeg) + (1 : Int32))
            refine WP.bind (cs_X9_at hfu ((G 96 x2.toNatClampNeg) + (1 : Int32)) F G hI) ?_
            rintro r24 _ _ ⟨rfl, rfl, hp24⟩
            dsimp only
            unfold cb_X10_mainId_57
            refine WP.ite (fun c_25 => ?_) (fun c_25 => ?_)
            · skip
              have q_26 := i_rng r24
              have l_27 : (97 : Int32).toInt = 97 := rfl
              have e_28 := i_eq.mp (show r24 = (97 : Int32) from c_25)
              unfold cb_X10_mainId_62
              first | have e_29 : ((G 96 x2.toNatClampNeg) + (2 : Int32)).toInt = (G 96 x2.toNatClampNeg).toInt + (2) := i_addn (G 96 x2.toNatClampNeg) rfl (by omega) (by omega) | have e_30 := i_rng ((G 96 x2.toNatClampNeg) + (2 : Int32))
              refine WP.bind (cs_X9_at hfu ((G 96 x2.toNatClampNeg) + (2 : Int32)) F G hI) ?_
              rintro r31 _ _ ⟨rfl, rfl, hp31⟩
              dsimp only
              unfold cb_X10_mainId_72
              refine WP.ite (fun c_32 => ?_) (fun c_32 => ?_)
              · skip
                have q_33 := i_rng r31
                have l_34 : (105 : Int32).toInt = 105 := rfl
                have e_35 := i_eq.mp (show r31 = (105 : Int32) from c_32)
                unfold cb_X10_mainId_77
                first | have e_36 : ((G 96 x2.toNatClampNeg) + (3 : Int32)).toInt = (G 96 x2.toNatClampNeg).toInt + (3) := i_addn (G 96 x2.toNatClampNeg) rfl (by omega) (by omega) | have e_37 := i_rng ((G 96 x2.toNatClampNeg) + (3 : Int32))
                refine WP.bind (cs_X9_at hfu ((G 96 x2.toNatClampNeg) + (3 : Int32)) F G hI) ?_
                rintro r38 _ _ ⟨rfl, rfl, hp38⟩
                dsimp only
                unfold cb_X10_mainId_87
                refine WP.ite (fun c_39 => ?_) (fun c_39 => ?_)
                · skip
                  have q_40 := i_rng r38
                  have l_41 : (110 : Int32).toInt = 110 := rfl
                  have e_42 := i_eq.mp (show r38 = (110 : Int32) from c_39)
                  unfold cb_X10_mainId_92
                  unfold cb_X10_mainId_94
                  first | have e_43 : (x2 + (1 : Int32)).toInt = x2.toInt + (1) := i_addn x2 rfl (by omega) (by omega) | have e_44 := i_rng (x2 + (1 : Int32))
                  exact ihn x2 (x2 + (1 : Int32)) F G hI hF hG (show 0 ≤ (x2 + (1 : Int32)).toInt by omega) (by omega)
                · skip
                  have q_45 := i_rng r38
                  have l_46 : (110 : Int32).toInt = 110 := rfl
                  have e_47 := mt i_eq.mpr (show ¬ (r38 = (110 : Int32)) from c_39)
                  unfold cb_X10_mainId_94
                  first | have e_48 : (x2 + (1 : Int32)).toInt = x2.toInt + (1) := i_addn x2 rfl (by omega) (by omega) | have e_49 := i_rng (x2 + (1 : Int32))
                  exact ihn x1 (x2 + (1 : Int32)) F G hI hF hG (show 0 ≤ (x2 + (1 : Int32)).toInt by omega) (by omega)
              · skip
                have q_50 := i_rng r31
                have l_51 : (105 : Int32).toInt = 105 := rfl
                have e_52 := mt i_eq.mpr (show ¬ (r31 = (105 : Int32)) from c_32)
                unfold cb_X10_mainId_94
                first | have e_53 : (x2 + (1 : Int32)).toInt = x2.toInt + (1) := i_addn x2 rfl (by omega) (by omega) | have e_54 := i_rng (x2 + (1 : Int32))
                exact ihn x1 (x2 + (1 : Int32)) F G hI hF hG (show 0 ≤ (x2 + (1 : Int32)).toInt by omega) (by omega)
            · skip
              have q_55 := i_rng r24
              have l_56 : (97 : Int32).toInt = 97 := rfl
              have e_57 := mt i_eq.mpr (show ¬ (r24 = (97 : Int32)) from c_25)
              unfold cb_X10_mainId_94
              first | have e_58 : (x2 + (1 : Int32)).toInt = x2.toInt + (1) := i_addn x2 rfl (by omega) (by omega) | have e_59 := i_rng (x2 + (1 : Int32))
              exact ihn x1 (x2 + (1 : Int32)) F G hI hF hG (show 0 ≤ (x2 + (1 : Int32)).toInt by omega) (by omega)
          · skip
            have q_60 := i_rng r17
            have l_61 : (109 : Int32).toInt = 109 := rfl
            have e_62 := mt i_eq.mpr (show ¬ (r17 = (109 : Int32)) from c_18)
            unfold cb_X10_mainId_94
            first | have e_63 : (x2 + (1 : Int32)).toInt = x2.toInt + (1) := i_addn x2 rfl (by omega) (by omega) | have e_64 := i_rng (x2 + (1 : Int32))
            exact ihn x1 (x2 + (1 : Int32)) F G hI hF hG (show 0 ≤ (x2 + (1 : Int32)).toInt by omega) (by omega)
        · skip
          have q_65 := i_rng (G 97 x2.toNatClampNeg)
          have l_66 : (4 : Int32).toInt = 4 := rfl
          have e_67 := mt i_eq.mpr (show ¬ ((G 97 x2.toNatClampNeg) = (4 : Int32)) from c_12)
          unfold cb_X10_mainId_94
          first | have e_68 : (x2 + (1 : Int32)).toInt = x2.toInt + (1) := i_addn x2 rfl (by omega) (by omega) | have e_69 := i_rng (x2 + (1 : Int32))
          exact ihn x1 (x2 + (1 : Int32)) F G hI hF hG (show 0 ≤ (x2 + (1 : Int32)).toInt by omega) (by omega)
      · skip
        have q_70 := i_rng x1
        have l_71 : (-1 : Int32).toInt = -1 := rfl
        have e_72 := mt i_eq.mpr (show ¬ (x1 = (-1 : Int32)) from c_8)
        unfold cb_X10_mainId_100
        refine WP.ret ?_
        exact ⟨hF, hG, trivial⟩
theorem cs_X10_mainId {fu : Nat} (hfu : 8589934592 ≤ fu) (F : PF) (G : PG) (hI : CI F G) : WP (cf_X10_mainId fu F G) (fun r' F' G' => F = F' ∧ G = G' ∧ True) := by
  unfold cf_X10_mainId
  unfold cb_X10_mainId_0
  have l_1 : (-1 : Int32).toInt = -1 := rfl
  have l_2 : (0 : Int32).toInt = 0 := rfl
  exact cz_X10_mainId_4 (F0 := F) (G0 := G) hfu fu (-1 : Int32) (0 : Int32) F G hI rfl rfl (show 0 ≤ (0 : Int32).toInt by omega) (by omega)
theorem cs_X11_feed {fu : Nat} (hfu : 8589934592 ≤ fu) (x1 : Int32) (x2 : Int32) (x3 : Int32) (x4 : Int32) (x5 : Int32) (F : PF) (G : PG) (hI : CI F G) : WP (cf_X11_feed fu x1 x2 x3 x4 x5 F G) (fun r' F' G' => CI F' G' ∧ KB F G F' G' ∧ KO F F' ∧ ((((F 88).toInt ≤ 3980 ∧ r'.toInt = (F 88).toInt + 20 ∧ (F' 88).toInt = (F 88).toInt + 20) ∨ (3980 < (F 88).toInt ∧ r'.toInt = -1 ∧ (F' 88).toInt = (F 88).toInt)))) := by
  unfold cf_X11_feed
  unfold cb_X11_feed_0
  refine WP.ite (fun c_1 => ?_) (fun c_1 => ?_)
  · skip
    have q_2 := hI.r 88 rfl
    have l_3 : (3980 : Int32).toInt = 3980 := rfl
    have e_4 := i_le.mp (show (F 88) ≤ (3980 : Int32) from c_1)
    unfold cb_X11_feed_15
    have q_5 := i_rng x1
    refine WP.bind (cs_X9_take hfu x1 F G hI) ?_
    rintro r6 F6 G6 ⟨hI6, hB6, hO6, hp6⟩
    dsimp only
    have q_7 := hI.r 10 rfl
    have q_8 := hI6.r 10 rfl
    have e_9 : (F6 10).toInt = (F 10).toInt := hO6
    have q_10 := hI6.r 88 rfl
    have e_11 : ((F 88).toInt ≤ 3996 → (F6 88).toInt = (F 88).toInt + 4) := hp6
    unfold cb_X11_feed_23
    have q_12 := i_rng x2
    refine WP.bind (cs_X9_take hfu x2 F6 G6 hI6) ?_
    rintro r13 F13 G13 ⟨hI13, hB13, hO13, hp13⟩
    dsimp only
    have q_14 := hI13.r 10 rfl
    have e_15 : (F13 10).toInt = (F6 10).toInt := hO13
    have q_16 := hI13.r 88 rfl
    have e_17 : ((F6 88).toInt ≤ 3996 → (F13 88).toInt = (F6 88).toInt + 4) := hp13
    unfold cb_X11_feed_31
    have q_18 := i_rng x3
    refine WP.bind (cs_X9_take hfu x3 F13 G13 hI13) ?_
    rintro r19 F19 G19 ⟨hI19, hB19, hO19, hp19⟩
    dsimp only
    have q_20 := hI19.r 10 rfl
    have e_21 : (F19 10).toInt = (F13 10).toInt := hO19
    have q_22 := hI19.r 88 rfl
    have e_23 : ((F13 88).toInt ≤ 3996 → (F19 88).toInt = (F13 88).toInt + 4) := hp19
    unfold cb_X11_feed_39
    have q_24 := i_rng x4
    refine WP.bind (cs_X9_take hfu x4 F19 G19 hI19) ?_
    rintro r25 F25 G25 ⟨hI25, hB25, hO25, hp25⟩
    dsimp only
    have q_26 := hI25.r 10 rfl
    have e_27 : (F25 10).toInt = (F19 10).toInt := hO25
    have q_28 := hI25.r 88 rfl
    have e_29 : ((F19 88).toInt ≤ 3996 → (F25 88).toInt = (F19 88).toInt + 4) := hp25
    unfold cb_X11_feed_48
    have q_30 := i_rng x5
    refine WP.bind (cs_X9_take hfu x5 F25 G25 hI25) ?_
    rintro r31 F31 G31 ⟨hI31, hB31, hO31, hp31⟩
    dsimp only
    have q_32 := hI31.r 10 rfl
    have e_33 : (F31 10).toInt = (F25 10).toInt := hO31
    have q_34 := hI31.r 88 rfl
    have e_35 : ((F25 88).toInt ≤ 3996 → (F31 88).toInt = (F25 88).toInt + 4) := hp31
    unfold cb_X11_feed_57
    refine WP.ret ?_
    exact ⟨hI31, (KB.tr (KB.tr (KB.tr (KB.tr (KB.tr (KB.rf : KB F G F G) hB6) hB13) hB19) hB25) hB31), (KO.tr (KO.tr (KO.tr (KO.tr (KO.tr (rfl : KO F F) hO6) hO13) hO19) hO25) hO31), (show (((F 88).toInt ≤ 3980 ∧ (F31 88).toInt = (F 88).toInt + 20 ∧ (F31 88).toInt = (F 88).toInt + 20) ∨ (3980 < (F 88).toInt ∧ (F31 88).toInt = -1 ∧ (F31 88).toInt = (F 88).toInt)) by omega)⟩
  · skip
    have q_36 := hI.r 88 rfl
    have l_37 : (3980 : Int32).toInt = 3980 := rfl
    have e_38 := mt i_le.mpr (show ¬ ((F 88) ≤ (3980 : Int32)) from c_1)
    unfold cb_X11_feed_13
    refine WP.ret ?_
    have l_39 : (-1 : Int32).toInt = -1 := rfl
    exact ⟨hI, (KB.rf : KB F G F G), (rfl : KO F F), (show (((F 88).toInt ≤ 3980 ∧ (-1 : Int32).toInt = (F 88).toInt + 20 ∧ (F 88).toInt = (F 88).toInt + 20) ∨ (3980 < (F 88).toInt ∧ (-1 : Int32).toInt = -1 ∧ (F 88).toInt = (F 88).toInt)) by omega)⟩
theorem cs_X11_end {fu : Nat} (hfu : 8589934592 ≤ fu) (x1 : Int32) (F : PF) (G : PG) (hI : CI F G) : WP (cf_X11_end fu x1 F G) (fun r' F' G' => CI F' G' ∧ KB F G F' G' ∧ KO F F' ∧ (((0 ≤ x1.toInt ∧ x1.toInt ≤ (F 88).toInt ∧ r'.toInt = x1.toInt ∧ (F' 88).toInt = x1.toInt) ∨ (¬ (0 ≤ x1.toInt ∧ x1.toInt ≤ (F 88).toInt) ∧ r'.toInt = -1 ∧ (F' 88).toInt = (F 88).toInt)))) := by
  unfold cf_X11_end
  unfold cb_X11_end_0
  refine WP.ite (fun c_1 => ?_) (fun c_1 => ?_)
  · skip
    have q_2 := i_rng x1
    have l_3 : (0 : Int32).toInt = 0 := rfl
    have e_4 := i_lt.mp (show x1 < (0 : Int32) from c_1)
    unfold cb_X11_end_15
    refine WP.ret ?_
    have q_5 := hI.r 88 rfl
    have l_6 : (-1 : Int32).toInt = -1 := rfl
    exact ⟨hI, (KB.rf : KB F G F G), (rfl : KO F F), (show ((0 ≤ x1.toInt ∧ x1.toInt ≤ (F 88).toInt ∧ (-1 : Int32).toInt = x1.toInt ∧ (F 88).toInt = x1.toInt) ∨ (¬ (0 ≤ x1.toInt ∧ x1.toInt ≤ (F 88).toInt) ∧ (-1 : Int32).toInt = -1 ∧ (F 88).toInt = (F 88).toInt)) by omega)⟩
  · skip
    have q_7 := i_rng x1
    have l_8 : (0 : Int32).toInt = 0 := rfl
    have e_9 := mt i_lt.mpr (show ¬ (x1 < (0 : Int32)) from c_1)
    unfold cb_X11_end_4
    refine WP.ite (fun c_10 => ?_) (fun c_10 => ?_)
    · skip
      have q_11 := hI.r 88 rfl
      have e_12 := i_le.mp (show x1 ≤ (F 88) from c_10)
      unfold cb_X11_end_17
      have j_13 : CI (fup F 88 x1) G := CI.rg (k := 88) (x := x1) rfl (by decide) (by decide) hI ⟨by omega, by omega⟩
      unfold cb_X11_end_25
      refine WP.ret ?_
      exact ⟨j_13, (KB.f (by decide) (KB.rf : KB F G F G)), (KO.f (by decide) (rfl : KO F F)), (show ((0 ≤ x1.toInt ∧ x1.toInt ≤ (F 88).toInt ∧ x1.toInt = x1.toInt ∧ x1.toInt = x1.toInt) ∨ (¬ (0 ≤ x1.toInt ∧ x1.toInt ≤ (F 88).toInt) ∧ x1.toInt = -1 ∧ x1.toInt = (F 88).toInt)) by omega)⟩
    · skip
      have q_14 := hI.r 88 rfl
      have e_15 := mt i_le.mpr (show ¬ (x1 ≤ (F 88)) from c_10)
      unfold cb_X11_end_15
      refine WP.ret ?_
      have l_16 : (-1 : Int32).toInt = -1 := rfl
      exact ⟨hI, (KB.rf : KB F G F G), (rfl : KO F F), (show ((0 ≤ x1.toInt ∧ x1.toInt ≤ (F 88).toInt ∧ (-1 : Int32).toInt = x1.toInt ∧ (F 88).toInt = x1.toInt) ∨ (¬ (0 ≤ x1.toInt ∧ x1.toInt ≤ (F 88).toInt) ∧ (-1 : Int32).toInt = -1 ∧ (F 88).toInt = (F 88).toInt)) by omega)⟩
theorem cs_X11_read {fu : Nat} (hfu : 8589934592 ≤ fu) (F : PF) (G : PG) (hI : CI F G) : WP (cf_X11_read fu F G) (fun r' F' G' => CI F' G' ∧ KB F G F' G' ∧ (((F' 88).toInt = 0))) := by
  unfold cf_X11_read
  unfold cb_X11_read_0
  refine WP.bind (cs_X6_forget hfu F G hI) ?_
  rintro r1 F1 G1 ⟨hI1, hB1, hT1, hO1, hK1, hp1⟩
  dsimp only
  unfold cb_X11_read_7
  refine WP.bind (cs_X7_forgetInput hfu F1 G1 hI1) ?_
  rintro r2 F2 G2 ⟨hI2, hB2, hT2, hO2, hK2, hp2⟩
  dsimp only
  unfold cb_X11_read_14
  refine WP.bind (cs_X7_forgetOutput hfu F2 G2 hI2) ?_
  rintro r3 F3 G3 ⟨hI3, hB3, hT3, hO3, hK3, hp3⟩
  dsimp only
  unfold cb_X11_read_21
  refine WP.bind (cs_X10_scan hfu F3 G3 hI3) ?_
  rintro r4 F4 G4 ⟨hI4, hB4, hT4, hO4, hK4, hp4⟩
  dsimp only
  unfold cb_X11_read_28
  refine WP.bind (cs_X10_mainId hfu F4 G4 hI4) ?_
  rintro r5 _ _ ⟨rfl, rfl, hp5⟩
  dsimp only
  unfold cb_X11_read_39
  have q_6 := i_rng r5
  refine WP.bind (cs_X4_clear hfu r5 F4 G4 hI4) ?_
  rintro r7 F7 G7 ⟨hI7, hB7, hT7, hO7, hp7⟩
  dsimp only
  unfold cb_X11_read_42
  have l_8 : (0 : Int32).toInt = 0 := rfl
  refine WP.bind (cs_X4_walk hfu (0 : Int32) F7 G7 hI7 (by decide)) ?_
  rintro r9 F9 G9 ⟨hI9, hB9, hT9, hp9⟩
  dsimp only
  unfold cb_X11_read_50
  refine WP.ite (fun c_10 => ?_) (fun c_10 => ?_)
  · skip
    have q_11 := i_rng r9
    have e_12 := i_eq.mp (show r9 = (0 : Int32) from c_10)
    unfold cb_X11_read_55
    have l_13 : (1 : Int32).toInt = 1 := rfl
    refine WP.bind (cs_X4_walk hfu (1 : Int32) F9 G9 hI9 (by decide)) ?_
    rintro r14 F14 G14 ⟨hI14, hB14, hT14, hp14⟩
    dsimp only
    unfold cb_X11_read_63
    unfold cb_X11_read_64
    refine WP.ite (fun c_15 => ?_) (fun c_15 => ?_)
    · skip
      have q_16 := i_rng r14
      have e_17 := i_eq.mp (show r14 = (0 : Int32) from c_15)
      unfold cb_X11_read_72
      unfold cb_X11_read_77
      have j_18 : CI (fup F14 73 (1 : Int32)) G14 := CI.rg (k := 73) (x := (1 : Int32)) rfl (by decide) (by decide) hI14 ⟨by omega, by omega⟩
      unfold cb_X11_read_80
      have j_19 : CI (fup (fup F14 73 (1 : Int32)) 88 (0 : Int32)) G14 := CI.rg (k := 88) (x := (0 : Int32)) rfl (by decide) (by decide) j_18 ⟨by omega, by omega⟩
      unfold cb_X11_read_88
      refine WP.ret ?_
      have q_20 := hI.r 88 rfl
      exact ⟨j_19, (KB.f (by decide) (KB.f (by decide) (KB.tr (KB.tr (KB.tr (KB.tr (KB.tr (KB.tr (KB.tr (KB.rf : KB F G F G) hB1) hB2) hB3) hB4) hB7) hB9) hB14))), (show ((0 : Int32).toInt = 0) by omega)⟩
    · skip
      have q_21 := i_rng r14
      have e_22 := mt i_eq.mpr (show ¬ (r14 = (0 : Int32)) from c_15)
      unfold cb_X11_read_76
      unfold cb_X11_read_77
      have j_23 : CI (fup F14 73 (0 : Int32)) G14 := CI.rg (k := 73) (x := (0 : Int32)) rfl (by decide) (by decide) hI14 ⟨by omega, by omega⟩
      unfold cb_X11_read_80
      have j_24 : CI (fup (fup F14 73 (0 : Int32)) 88 (0 : Int32)) G14 := CI.rg (k := 88) (x := (0 : Int32)) rfl (by decide) (by decide) j_23 ⟨by omega, by omega⟩
      unfold cb_X11_read_88
      refine WP.ret ?_
      have q_25 := hI.r 88 rfl
      exact ⟨j_24, (KB.f (by decide) (KB.f (by decide) (KB.tr (KB.tr (KB.tr (KB.tr (KB.tr (KB.tr (KB.tr (KB.rf : KB F G F G) hB1) hB2) hB3) hB4) hB7) hB9) hB14))), (show ((0 : Int32).toInt = 0) by omega)⟩
  · skip
    have q_26 := i_rng r9
    have e_27 := mt i_eq.mpr (show ¬ (r9 = (0 : Int32)) from c_10)
    unfold cb_X11_read_64
    refine WP.ite (fun c_28 => ?_) (fun c_28 => ?_)
    · skip
      have e_29 := i_eq.mp (show r9 = (0 : Int32) from c_28)
      unfold cb_X11_read_72
      unfold cb_X11_read_77
      have l_30 : (1 : Int32).toInt = 1 := rfl
      have j_31 : CI (fup F9 73 (1 : Int32)) G9 := CI.rg (k := 73) (x := (1 : Int32)) rfl (by decide) (by decide) hI9 ⟨by omega, by omega⟩
      unfold cb_X11_read_80
      have j_32 : CI (fup (fup F9 73 (1 : Int32)) 88 (0 : Int32)) G9 := CI.rg (k := 88) (x := (0 : Int32)) rfl (by decide) (by decide) j_31 ⟨by omega, by omega⟩
      unfold cb_X11_read_88
      refine WP.ret ?_
      have q_33 := hI.r 88 rfl
      exact ⟨j_32, (KB.f (by decide) (KB.f (by decide) (KB.tr (KB.tr (KB.tr (KB.tr (KB.tr (KB.tr (KB.rf : KB F G F G) hB1) hB2) hB3) hB4) hB7) hB9))), (show ((0 : Int32).toInt = 0) by omega)⟩
    · skip
      have e_34 := mt i_eq.mpr (show ¬ (r9 = (0 : Int32)) from c_28)
      unfold cb_X11_read_76
      unfold cb_X11_read_77
      have j_35 : CI (fup F9 73 (0 : Int32)) G9 := CI.rg (k := 73) (x := (0 : Int32)) rfl (by decide) (by decide) hI9 ⟨by omega, by omega⟩
      unfold cb_X11_read_80
      have j_36 : CI (fup (fup F9 73 (0 : Int32)) 88 (0 : Int32)) G9 := CI.rg (k := 88) (x := (0 : Int32)) rfl (by decide) (by decide) j_35 ⟨by omega, by omega⟩
      unfold cb_X11_read_88
      refine WP.ret ?_
      have q_37 := hI.r 88 rfl
      exact ⟨j_36, (KB.f (by decide) (KB.f (by decide) (KB.tr (KB.tr (KB.tr (KB.tr (KB.tr (KB.tr (KB.rf : KB F G F G) hB1) hB2) hB3) hB4) hB7) hB9))), (show ((0 : Int32).toInt = 0) by omega)⟩
