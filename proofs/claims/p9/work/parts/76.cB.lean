theorem cs_X10_digitOf {fu : Nat} (hfu : 8589934592 ≤ fu) (x0 : Int32) (F : PF) (G : PG) (hI : CI F G) : WP (cf_X10_digitOf fu x0 F G) (fun r' F' G' => F = F' ∧ G = G' ∧ True) := by
  unfold cf_X10_digitOf
  unfold cb_X10_digitOf_0
  have q_1 := i_rng x0
  refine WP.bind (cs_X10_isDigit hfu x0 F G hI) ?_
  rintro r2 _ _ ⟨rfl, rfl, hp2⟩
  dsimp only
  have q_3 := b_rng hp2
  unfold cb_X10_digitOf_4
  refine WP.ite (fun c_4 => ?_) (fun c_4 => ?_)
  · skip
    have l_5 : (0 : Int32).toInt = 0 := rfl
    have e_6 := i_eq.mp (show r2 = (0 : Int32) from c_4)
    unfold cb_X10_digitOf_12
    refine WP.ite (fun c_7 => ?_) (fun c_7 => ?_)
    · skip
      have l_8 : (97 : Int32).toInt = 97 := rfl
      have e_9 := i_lt.mp (show x0 < (97 : Int32) from c_7)
      unfold cb_X10_digitOf_32
      refine WP.ite (fun c_10 => ?_) (fun c_10 => ?_)
      · skip
        have l_11 : (65 : Int32).toInt = 65 := rfl
        have e_12 := i_lt.mp (show x0 < (65 : Int32) from c_10)
        unfold cb_X10_digitOf_54
        unfold cb_X10_digitOf_56
        refine WP.ret ?_
        exact ⟨rfl, rfl, trivial⟩
      · skip
        have l_13 : (65 : Int32).toInt = 65 := rfl
        have e_14 := mt i_lt.mpr (show ¬ (x0 < (65 : Int32)) from c_10)
        unfold cb_X10_digitOf_38
        refine WP.ite (fun c_15 => ?_) (fun c_15 => ?_)
        · skip
          have l_16 : (70 : Int32).toInt = 70 := rfl
          have e_17 := i_lt.mp (show (70 : Int32) < x0 from c_15)
          unfold cb_X10_digitOf_54
          unfold cb_X10_digitOf_56
          refine WP.ret ?_
          exact ⟨rfl, rfl, trivial⟩
        · skip
          have l_18 : (70 : Int32).toInt = 70 := rfl
          have e_19 := mt i_lt.mpr (show ¬ ((70 : Int32) < x0) from c_15)
          unfold cb_X10_digitOf_44
          unfold cb_X10_digitOf_56
          refine WP.ret ?_
          exact ⟨rfl, rfl, trivial⟩
    · skip
      have l_20 : (97 : Int32).toInt = 97 := rfl
      have e_21 := mt i_lt.mpr (show ¬ (x0 < (97 : Int32)) from c_7)
      unfold cb_X10_digitOf_18
      refine WP.ite (fun c_22 => ?_) (fun c_22 => ?_)
      · skip
        have l_23 : (102 : Int32).toInt = 102 := rfl
        have e_24 := i_lt.mp (show (102 : Int32) < x0 from c_22)
        unfold cb_X10_digitOf_32
        refine WP.ite (fun c_25 => ?_) (fun c_25 => ?_)
        · skip
          have l_26 : (65 : Int32).toInt = 65 := rfl
          have e_27 := i_lt.mp (show x0 < (65 : Int32) from c_25)
          unfold cb_X10_digitOf_54
          unfold cb_X10_digitOf_56
          refine WP.ret ?_
          exact ⟨rfl, rfl, trivial⟩
        · skip
          have l_28 : (65 : Int32).toInt = 65 := rfl
          have e_29 := mt i_lt.mpr (show ¬ (x0 < (65 : Int32)) from c_25)
          unfold cb_X10_digitOf_38
          refine WP.ite (fun c_30 => ?_) (fun c_30 => ?_)
          · skip
            have l_31 : (70 : Int32).toInt = 70 := rfl
            have e_32 := i_lt.mp (show (70 : Int32) < x0 from c_30)
            unfold cb_X10_digitOf_54
            unfold cb_X10_digitOf_56
            refine WP.ret ?_
            exact ⟨rfl, rfl, trivial⟩
          · skip
            have l_33 : (70 : Int32).toInt = 70 := rfl
            have e_34 := mt i_lt.mpr (show ¬ ((70 : Int32) < x0) from c_30)
            unfold cb_X10_digitOf_44
            unfold cb_X10_digitOf_56
            refine WP.ret ?_
            exact ⟨rfl, rfl, trivial⟩
      · skip
        have l_35 : (102 : Int32).toInt = 102 := rfl
        have e_36 := mt i_lt.mpr (show ¬ ((102 : Int32) < x0) from c_22)
        unfold cb_X10_digitOf_24
        refine WP.ret ?_
        exact ⟨rfl, rfl, trivial⟩
  · skip
    have l_37 : (0 : Int32).toInt = 0 := rfl
    have e_38 := mt i_eq.mpr (show ¬ (r2 = (0 : Int32)) from c_4)
    unfold cb_X10_digitOf_7
    refine WP.ret ?_
    exact ⟨rfl, rfl, trivial⟩
theorem cz_X10_behindParts_2 {fu : Nat} (hfu : 8589934592 ≤ fu) {F0 : PF} {G0 : PG} {x1 : Int32} : ∀ (n : Nat) (x2 : Int32) (F : PF) (G : PG) (hI : CI F G) (hF : F0 = F) (hG : G0 = G) (i_0 : 0 ≤ x2.toInt) (i_1 : x2.toInt ≤ 4000) (i_2 : x1.toInt ≤ x2.toInt) (hn : (2147483647 - x2.toInt).toNat < n), WP (cl_X10_behindParts_2 fu n x2 F G) (fun r' F' G' => F0 = F' ∧ G0 = G' ∧ ((x1.toInt ≤ r'.toInt ∧ r'.toInt ≤ 4000))) := by
  intro n
  induction n with
  | zero =>
    intro x2 F G hI hF hG i_0 i_1 i_2 hn
    exact absurd hn (Nat.not_lt_zero _)
  | succ n ihn =>
    intro x2 F G hI hF hG i_0 i_1 i_2 hn
    show WP (cb_X10_behindParts_2 fu (cl_X10_behindParts_2 fu n)  x2 F G) _
    unfold cb_X10_behindParts_2
    refine WP.ite (fun c_1 => ?_) (fun c_1 => ?_)
    · skip
      have q_2 := hI.r 88 rfl
      have q_3 := i_rng x2
      have e_4 := i_le.mp (show (F 88) ≤ x2 from c_1)
      unfold cb_X10_behindParts_33
      refine WP.ret ?_
      exact ⟨hF, hG, (show x1.toInt ≤ x2.toInt ∧ x2.toInt ≤ 4000 by omega)⟩
    · skip
      have q_5 := hI.r 88 rfl
      have q_6 := i_rng x2
      have e_7 := mt i_le.mpr (show ¬ ((F 88) ≤ x2) from c_1)
      unfold cb_X10_behindParts_13
      refine WP.bind (cs_X9_at hfu x2 F G hI) ?_
      rintro r8 _ _ ⟨rfl, rfl, hp8⟩
      dsimp only
      unfold cb_X10_behindParts_21
      have q_9 := i_rng r8
      refine WP.bind (cs_X10_isPart hfu r8 F G hI) ?_
      rintro r10 _ _ ⟨rfl, rfl, hp10⟩
      dsimp only
      have q_11 := b_rng hp10
      unfold cb_X10_behindParts_24
      refine WP.ite (fun c_12 => ?_) (fun c_12 => ?_)
      · skip
        have l_13 : (0 : Int32).toInt = 0 := rfl
        have e_14 := i_eq.mp (show r10 = (0 : Int32) from c_12)
        unfold cb_X10_behindParts_33
        refine WP.ret ?_
        exact ⟨hF, hG, (show x1.toInt ≤ x2.toInt ∧ x2.toInt ≤ 4000 by omega)⟩
      · skip
        have l_15 : (0 : Int32).toInt = 0 := rfl
        have e_16 := mt i_eq.mpr (show ¬ (r10 = (0 : Int32)) from c_12)
        unfold cb_X10_behindParts_27
        first | have e_17 : (x2 + (1 : Int32)).toInt = x2.toInt + (1) := i_addn x2 rfl (by omega) (by omega) | have e_18 := i_rng (x2 + (1 : Int32))
        exact ihn (x2 + (1 : Int32)) F G hI hF hG (show 0 ≤ (x2 + (1 : Int32)).toInt by omega) (show (x2 + (1 : Int32)).toInt ≤ 4000 by omega) (show x1.toInt ≤ (x2 + (1 : Int32)).toInt by omega) (by omega)
theorem cs_X10_behindParts {fu : Nat} (hfu : 8589934592 ≤ fu) (x1 : Int32) (F : PF) (G : PG) (hI : CI F G) (ha : 0 ≤ x1.toInt) (hb : x1.toInt ≤ 4000) : WP (cf_X10_behindParts fu x1 F G) (fun r' F' G' => F = F' ∧ G = G' ∧ ((x1.toInt ≤ r'.toInt ∧ r'.toInt ≤ 4000))) := by
  unfold cf_X10_behindParts
  unfold cb_X10_behindParts_0
  have q_1 := i_rng x1
  exact cz_X10_behindParts_2 (F0 := F) (G0 := G) hfu fu x1 F G hI rfl rfl (show 0 ≤ x1.toInt by omega) (show x1.toInt ≤ 4000 by omega) (show x1.toInt ≤ x1.toInt by omega) (by omega)
theorem cz_X10_behindNumber_103 {fu : Nat} (hfu : 8589934592 ≤ fu) {F0 : PF} {G0 : PG} : ∀ (n : Nat) (x1 : Int32) (x2 : Int32) (x5 : Int32) (x7 : Int64) (x9 : Int32) (F : PF) (G : PG) (hI : CI F G) (hB : KB F0 G0 F G) (hT : KT F0 F) (hO : KO F0 F) (hK : KK F0 F) (i_0 : 0 ≤ x2.toInt) (i_1 : x2.toInt ≤ 4000) (hn : (2147483647 - x9.toInt).toNat < n), WP (cl_X10_behindNumber_103 fu n x1 x2 x5 x7 x9 F G) (fun r' F' G' => CI F' G' ∧ KB F0 G0 F' G' ∧ KT F0 F' ∧ KO F0 F' ∧ KK F0 F' ∧ ((r'.toInt = -1 ∨ (0 ≤ r'.toInt ∧ r'.toInt ≤ 4010)))) := by
  intro n
  induction n with
  | zero =>
    intro x1 x2 x5 x7 x9 F G hI hB hT hO hK i_0 i_1 hn
    exact absurd hn (Nat.not_lt_zero _)
  | succ n ihn =>
    intro x1 x2 x5 x7 x9 F G hI hB hT hO hK i_0 i_1 hn
    show WP (cb_X10_behindNumber_103 fu (cl_X10_behindNumber_103 fu n)  x1 x2 x5 x7 x9 F G) _
    unfold cb_X10_behindNumber_103
    refine WP.ite (fun c_1 => ?_) (fun c_1 => ?_)
    · skip
      have q_2 := i_rng x2
      have q_3 := i_rng x9
      have e_4 := i_le.mp (show x2 ≤ x9 from c_1)
      unfold cb_X10_behindNumber_150
      refine WP.ite (fun c_5 => ?_) (fun c_5 => ?_)
      · skip
        have q_6 := i_rng (lg_cmp x7 (4294967295 : Int64))
        have l_7 : (0 : Int32).toInt = 0 := rfl
        have e_8 := i_le.mp (show (lg_cmp x7 (4294967295 : Int64)) ≤ (0 : Int32) from c_5)
        unfold cb_X10_behindNumber_161
        have l_9 : (3 : Int32).toInt = 3 := rfl
        have q_10 := i_rng (x7.toInt32)
        have q_11 := i_rng x1
        refine WP.bind (cs_X10_add hfu (3 : Int32) (x7.toInt32) x1 F G hI) ?_
        rintro r12 F12 G12 ⟨hI12, hB12, hT12, hO12, hK12, hp12⟩
        dsimp only
        have q_13 := hI.r 10 rfl
        have q_14 := hI12.r 10 rfl
        have e_15 : (F12 10).toInt = (F 10).toInt := hO12
        unfold cb_X10_behindNumber_170
        refine WP.ret ?_
        exact ⟨hI12, (KB.tr hB hB12), (KT.tr hT hT12), (KO.tr hO hO12), (KK.tr hK hK12), (show x2.toInt = -1 ∨ (0 ≤ x2.toInt ∧ x2.toInt ≤ 4010) by omega)⟩
      · skip
        have q_16 := i_rng (lg_cmp x7 (4294967295 : Int64))
        have l_17 : (0 : Int32).toInt = 0 := rfl
        have e_18 := mt i_le.mpr (show ¬ ((lg_cmp x7 (4294967295 : Int64)) ≤ (0 : Int32)) from c_5)
        unfold cb_X10_behindNumber_159
        refine WP.ret ?_
        have l_19 : (-1 : Int32).toInt = -1 := rfl
        exact ⟨hI, hB, hT, hO, hK, (show (-1 : Int32).toInt = -1 ∨ (0 ≤ (-1 : Int32).toInt ∧ (-1 : Int32).toInt ≤ 4010) by omega)⟩
    · skip
      have q_20 := i_rng x2
      have q_21 := i_rng x9
      have e_22 := mt i_le.mpr (show ¬ (x2 ≤ x9) from c_1)
      unfold cb_X10_behindNumber_109
      refine WP.bind (cs_X9_at hfu x9 F G hI) ?_
      rintro r23 _ _ ⟨rfl, rfl, hp23⟩
      dsimp only
      unfold cb_X10_behindNumber_118
      have q_24 := i_rng r23
      refine WP.bind (cs_X10_digitOf hfu r23 F G hI) ?_
      rintro r25 _ _ ⟨rfl, rfl, hp25⟩
      dsimp only
      unfold cb_X10_behindNumber_121
      refine WP.ite (fun c_26 => ?_) (fun c_26 => ?_)
      · skip
        have q_27 := i_rng r25
        have q_28 := i_rng x5
        have e_29 := i_lt.mp (show r25 < x5 from c_26)
        unfold cb_X10_behindNumber_132
        have q_30 := i_rng x1
        first | have e_31 : (x9 + (1 : Int32)).toInt = x9.toInt + (1) := i_addn x9 rfl (by omega) (by omega) | have e_32 := i_rng (x9 + (1 : Int32))
        exact ihn x1 x2 x5 ((x7 * (x5.toInt64)) + (r25.toInt64)) (x9 + (1 : Int32)) F G hI hB hT hO hK (show 0 ≤ x2.toInt by omega) (show x2.toInt ≤ 4000 by omega) (by omega)
      · skip
        have q_33 := i_rng r25
        have q_34 := i_rng x5
        have e_35 := mt i_lt.mpr (show ¬ (r25 < x5) from c_26)
        unfold cb_X10_behindNumber_130
        refine WP.ret ?_
        have l_36 : (-1 : Int32).toInt = -1 := rfl
        exact ⟨hI, hB, hT, hO, hK, (show (-1 : Int32).toInt = -1 ∨ (0 ≤ (-1 : Int32).toInt ∧ (-1 : Int32).toInt ≤ 4010) by omega)⟩
theorem cs_X10_behindNumber {fu : Nat} (hfu : 8589934592 ≤ fu) (x1 : Int32) (F : PF) (G : PG) (hI : CI F G) (ha : 0 ≤ x1.toInt) (hb : x1.toInt ≤ 4000) : WP (cf_X10_behindNumber fu x1 F G) (fun r' F' G' => CI F' G' ∧ KB F G F' G' ∧ KT F F' ∧ KO F F' ∧ KK F F' ∧ ((r'.toInt = -1 ∨ (0 ≤ r'.toInt ∧ r'.toInt ≤ 4010)))) := by
  unfold cf_X10_behindNumber
  unfold cb_X10_behindNumber_0
  have q_1 := i_rng x1
  refine WP.bind (cs_X10_behindParts hfu x1 F G hI (show 0 ≤ x1.toInt by omega) (show x1.toInt ≤ 4000 by omega)) ?_
  rintro r2 _ _ ⟨rfl, rfl, hp2⟩
  dsimp only
  have q_3 := i_rng r2
  unfold cb_X10_behindNumber_5
  refine WP.bind (cs_X9_at hfu x1 F G hI) ?_
  rintro r4 _ _ ⟨rfl, rfl, hp4⟩
  dsimp only
  unfold cb_X10_behindNumber_14
  refine WP.ite (fun c_5 => ?_) (fun c_5 => ?_)
  · skip
    have q_6 := i_rng r4
    have l_7 : (48 : Int32).toInt = 48 := rfl
    have e_8 := i_eq.mp (show r4 = (48 : Int32) from c_5)
    unfold cb_X10_behindNumber_19
    first | have e_9 : (x1 + (1 : Int32)).toInt = x1.toInt + (1) := i_addn x1 rfl (by omega) (by omega) | have e_10 := i_rng (x1 + (1 : Int32))
    refine WP.bind (cs_X9_at hfu (x1 + (1 : Int32)) F G hI) ?_
    rintro r11 _ _ ⟨rfl, rfl, hp11⟩
    dsimp only
    unfold cb_X10_behindNumber_29
    refine WP.ite (fun c_12 => ?_) (fun c_12 => ?_)
    · skip
      have q_13 := i_rng r11
      have l_14 : (120 : Int32).toInt = 120 := rfl
      have e_15 := i_eq.mp (show r11 = (120 : Int32) from c_12)
      unfold cb_X10_behindNumber_34
      unfold cb_X10_behindNumber_39
      refine WP.ite (fun c_16 => absurd c_16 (by decide)) (fun _ => ?_)
      unfold cb_X10_behindNumber_44
      unfold cb_X10_behindNumber_51
      refine WP.ite (fun c_17 => absurd c_17 (by decide)) (fun _ => ?_)
      unfold cb_X10_behindNumber_57
      unfold cb_X10_behindNumber_64
      refine WP.ite (fun c_18 => ?_) (fun c_18 => ?_)
      · skip
        first | have e_19 : (x1 + (2 : Int32)).toInt = x1.toInt + (2) := i_addn x1 rfl (by omega) (by omega) | have e_20 := i_rng (x1 + (2 : Int32))
        first | have e_21 : (r2 - (x1 + (2 : Int32))).toInt = r2.toInt - ((x1 + (2 : Int32)).toInt) := i_subn r2 rfl (by omega) (by omega) | have e_22 := i_rng (r2 - (x1 + (2 : Int32)))
        have l_23 : (1 : Int32).toInt = 1 := rfl
        have e_24 := i_lt.mp (show (r2 - (x1 + (2 : Int32))) < (1 : Int32) from c_18)
        unfold cb_X10_behindNumber_94
        refine WP.ret ?_
        have l_25 : (-1 : Int32).toInt = -1 := rfl
        exact ⟨hI, (KB.rf : KB F G F G), (rfl : KT F F), (rfl : KO F F), (rfl : KK F F), (show (-1 : Int32).toInt = -1 ∨ (0 ≤ (-1 : Int32).toInt ∧ (-1 : Int32).toInt ≤ 4010) by omega)⟩
      · skip
        first | have e_26 : (x1 + (2 : Int32)).toInt = x1.toInt + (2) := i_addn x1 rfl (by omega) (by omega) | have e_27 := i_rng (x1 + (2 : Int32))
        first | have e_28 : (r2 - (x1 + (2 : Int32))).toInt = r2.toInt - ((x1 + (2 : Int32)).toInt) := i_subn r2 rfl (by omega) (by omega) | have e_29 := i_rng (r2 - (x1 + (2 : Int32)))
        have l_30 : (1 : Int32).toInt = 1 := rfl
        have e_31 := mt i_lt.mpr (show ¬ ((r2 - (x1 + (2 : Int32))) < (1 : Int32)) from c_18)
        unfold cb_X10_behindNumber_78
        refine WP.ite (fun c_32 => absurd c_32 (by decide)) (fun _ => ?_)
        unfold cb_X10_behindNumber_84
        unfold cb_X10_behindNumber_91
        refine WP.ite (fun c_33 => ?_) (fun c_33 => ?_)
        · skip
          have l_34 : (8 : Int32).toInt = 8 := rfl
          have e_35 := i_le.mp (show (r2 - (x1 + (2 : Int32))) ≤ (8 : Int32) from c_33)
          unfold cb_X10_behindNumber_96
          have l_36 : (16 : Int32).toInt = 16 := rfl
          exact cz_X10_behindNumber_103 (F0 := F) (G0 := G) hfu fu x1 r2 (16 : Int32) (0 : Int64) (x1 + (2 : Int32)) F G hI (KB.rf : KB F G F G) (rfl : KT F F) (rfl : KO F F) (rfl : KK F F) (show 0 ≤ r2.toInt by omega) (show r2.toInt ≤ 4000 by omega) (by omega)
        · skip
          have l_37 : (8 : Int32).toInt = 8 := rfl
          have e_38 := mt i_le.mpr (show ¬ ((r2 - (x1 + (2 : Int32))) ≤ (8 : Int32)) from c_33)
          unfold cb_X10_behindNumber_94
          refine WP.ret ?_
          have l_39 : (-1 : Int32).toInt = -1 := rfl
          exact ⟨hI, (KB.rf : KB F G F G), (rfl : KT F F), (rfl : KO F F), (rfl : KK F F), (show (-1 : Int32).toInt = -1 ∨ (0 ≤ (-1 : Int32).toInt ∧ (-1 : Int32).toInt ≤ 4010) by omega)⟩
    · skip
      have q_40 := i_rng r11
      have l_41 : (120 : Int32).toInt = 120 := rfl
      have e_42 := mt i_eq.mpr (show ¬ (r11 = (120 : Int32)) from c_12)
      unfold cb_X10_behindNumber_38
      unfold cb_X10_behindNumber_39
      refine WP.ite (fun _ => ?_) (fun c_43 => absurd (by decide) c_43)
      unfold cb_X10_behindNumber_50
      unfold cb_X10_behindNumber_51
      refine WP.ite (fun _ => ?_) (fun c_44 => absurd (by decide) c_44)
      unfold cb_X10_behindNumber_62
      unfold cb_X10_behindNumber_64
      refine WP.ite (fun c_45 => ?_) (fun c_45 => ?_)
      · skip
        first | have e_46 : (r2 - x1).toInt = r2.toInt - (x1.toInt) := i_subn r2 rfl (by omega) (by omega) | have e_47 := i_rng (r2 - x1)
        have l_48 : (1 : Int32).toInt = 1 := rfl
        have e_49 := i_lt.mp (show (r2 - x1) < (1 : Int32) from c_45)
        unfold cb_X10_behindNumber_94
        refine WP.ret ?_
        have l_50 : (-1 : Int32).toInt = -1 := rfl
        exact ⟨hI, (KB.rf : KB F G F G), (rfl : KT F F), (rfl : KO F F), (rfl : KK F F), (show (-1 : Int32).toInt = -1 ∨ (0 ≤ (-1 : Int32).toInt ∧ (-1 : Int32).toInt ≤ 4010) by omega)⟩
      · skip
        first | have e_51 : (r2 - x1).toInt = r2.toInt - (x1.toInt) := i_subn r2 rfl (by omega) (by omega) | have e_52 := i_rng (r2 - x1)
        have l_53 : (1 : Int32).toInt = 1 := rfl
        have e_54 := mt i_lt.mpr (show ¬ ((r2 - x1) < (1 : Int32)) from c_45)
        unfold cb_X10_behindNumber_78
        refine WP.ite (fun _ => ?_) (fun c_55 => absurd (by decide) c_55)
        unfold cb_X10_behindNumber_89
        unfold cb_X10_behindNumber_91
        refine WP.ite (fun c_56 => ?_) (fun c_56 => ?_)
        · skip
          have l_57 : (10 : Int32).toInt = 10 := rfl
          have e_58 := i_le.mp (show (r2 - x1) ≤ (10 : Int32) from c_56)
          unfold cb_X10_behindNumber_96
          exact cz_X10_behindNumber_103 (F0 := F) (G0 := G) hfu fu x1 r2 (10 : Int32) (0 : Int64) x1 F G hI (KB.rf : KB F G F G) (rfl : KT F F) (rfl : KO F F) (rfl : KK F F) (show 0 ≤ r2.toInt by omega) (show r2.toInt ≤ 4000 by omega) (by omega)
        · skip
          have l_59 : (10 : Int32).toInt = 10 := rfl
          have e_60 := mt i_le.mpr (show ¬ ((r2 - x1) ≤ (10 : Int32)) from c_56)
          unfold cb_X10_behindNumber_94
          refine WP.ret ?_
          have l_61 : (-1 : Int32).toInt = -1 := rfl
          exact ⟨hI, (KB.rf : KB F G F G), (rfl : KT F F), (rfl : KO F F), (rfl : KK F F), (show (-1 : Int32).toInt = -1 ∨ (0 ≤ (-1 : Int32).toInt ∧ (-1 : Int32).toInt ≤ 4010) by omega)⟩
  · skip
    have q_62 := i_rng r4
    have l_63 : (48 : Int32).toInt = 48 := rfl
    have e_64 := mt i_eq.mpr (show ¬ (r4 = (48 : Int32)) from c_5)
    unfold cb_X10_behindNumber_38
    unfold cb_X10_behindNumber_39
    refine WP.ite (fun _ => ?_) (fun c_65 => absurd (by decide) c_65)
    unfold cb_X10_behindNumber_50
    unfold cb_X10_behindNumber_51
    refine WP.ite (fun _ => ?_) (fun c_66 => absurd (by decide) c_66)
    unfold cb_X10_behindNumber_62
    unfold cb_X10_behindNumber_64
    refine WP.ite (fun c_67 => ?_) (fun c_67 => ?_)
    · skip
      first | have e_68 : (r2 - x1).toInt = r2.toInt - (x1.toInt) := i_subn r2 rfl (by omega) (by omega) | have e_69 := i_rng (r2 - x1)
      have l_70 : (1 : Int32).toInt = 1 := rfl
      have e_71 := i_lt.mp (show (r2 - x1) < (1 : Int32) from c_67)
      unfold cb_X10_behindNumber_94
      refine WP.ret ?_
      have l_72 : (-1 : Int32).toInt = -1 := rfl
      exact ⟨hI, (KB.rf : KB F G F G), (rfl : KT F F), (rfl : KO F F), (rfl : KK F F), (show (-1 : Int32).toInt = -1 ∨ (0 ≤ (-1 : Int32).toInt ∧ (-1 : Int32).toInt ≤ 4010) by omega)⟩
    · skip
      first | have e_73 : (r2 - x1).toInt = r2.toInt - (x1.toInt) := i_subn r2 rfl (by omega) (by omega) | have e_74 := i_rng (r2 - x1)
      have l_75 : (1 : Int32).toInt = 1 := rfl
      have e_76 := mt i_lt.mpr (show ¬ ((r2 - x1) < (1 : Int32)) from c_67)
      unfold cb_X10_behindNumber_78
      refine WP.ite (fun _ => ?_) (fun c_77 => absurd (by decide) c_77)
      unfold cb_X10_behindNumber_89
      unfold cb_X10_behindNumber_91
      refine WP.ite (fun c_78 => ?_) (fun c_78 => ?_)
      · skip
        have l_79 : (10 : Int32).toInt = 10 := rfl
        have e_80 := i_le.mp (show (r2 - x1) ≤ (10 : Int32) from c_78)
        unfold cb_X10_behindNumber_96
        exact cz_X10_behindNumber_103 (F0 := F) (G0 := G) hfu fu x1 r2 (10 : Int32) (0 : Int64) x1 F G hI (KB.rf : KB F G F G) (rfl : KT F F) (rfl : KO F F) (rfl : KK F F) (show 0 ≤ r2.toInt by omega) (show r2.toInt ≤ 4000 by omega) (by omega)
      · skip
        have l_81 : (10 : Int32).toInt = 10 := rfl
        have e_82 := mt i_le.mpr (show ¬ ((r2 - x1) ≤ (10 : Int32)) from c_78)
        unfold cb_X10_behindNumber_94
        refine WP.ret ?_
        have l_83 : (-1 : Int32).toInt = -1 := rfl
        exact ⟨hI, (KB.rf : KB F G F G), (rfl : KT F F), (rfl : KO F F), (rfl : KK F F), (show (-1 : Int32).toInt = -1 ∨ (0 ≤ (-1 : Int32).toInt ∧ (-1 : Int32).toInt ≤ 4010) by omega)⟩
theorem i_muln (a : Int32) {n : Int32} {m : Int} (h : n.toInt = m) (h1 : -2147483648 ≤ a.toInt * m) (h2 : a.toInt * m < 2147483648) : (a * n).toInt = a.toInt * m := by
  have e : (a * n).toInt = (a.toInt * m).bmod 4294967296 := by rw [Int32.toInt_mul, h]
  obtain ⟨k, e1, e2, e3⟩ := i_bm (a.toInt * m)
  rw [e]
  generalize a.toInt * m = z at *
  omega
theorem cz_X10_wordAt_52 {fu : Nat} (hfu : 8589934592 ≤ fu) {F0 : PF} {G0 : PG} {n_2 : Nat} (ag_2 : Int32 → Int32 → Int32 → PF → PG → PR) (hag_2 : ∀ (x1 : Int32) (x2 : Int32) (x3 : Int32) (F : PF) (G : PG) (hI : CI F G) (hF : F0 = F) (hG : G0 = G) (i_0 : 4 ≤ x3.toInt) (i_1 : x3.toInt ≤ 19) (i_2 : 0 ≤ x2.toInt) (hn : (2147483647 - x3.toInt).toNat < n_2), WP (ag_2 x1 x2 x3 F G) (fun r' F' G' => F0 = F' ∧ G0 = G' ∧ True)) : ∀ (n : Nat) (x1 : Int32) (x2 : Int32) (x3 : Int32) (x4 : Int32) (x5 : Int32) (x6 : Int32) (F : PF) (G : PG) (hI : CI F G) (hF : F0 = F) (hG : G0 = G) (i_0 : 0 ≤ x6.toInt) (i_1 : 0 ≤ x4.toInt) (i_2 : x4.toInt ≤ 112) (i_3 : x2.toInt ≤ 8) (i_4 : 4 ≤ x3.toInt) (i_5 : x3.toInt ≤ 18) (i_6 : (2147483647 - x3.toInt).toNat < n_2 + 1) (i_7 : 0 ≤ x2.toInt) (hn : (2147483647 - x6.toInt).toNat < n), WP (cl_X10_wordAt_52 fu ag_2 n x1 x2 x3 x4 x5 x6 F G) (fun r' F' G' => F0 = F' ∧ G0 = G' ∧ True) := by
  intro n
  induction n with
  | zero =>
    intro x1 x2 x3 x4 x5 x6 F G hI hF hG i_0 i_1 i_2 i_3 i_4 i_5 i_6 i_7 hn
    exact absurd hn (Nat.not_lt_zero _)
  | succ n ihn =>
    intro x1 x2 x3 x4 x5 x6 F G hI hF hG i_0 i_1 i_2 i_3 i_4 i_5 i_6 i_7 hn
    show WP (cb_X10_wordAt_52 fu ag_2 (cl_X10_wordAt_52 fu ag_2 n)  x1 x2 x3 x4 x5 x6 F G) _
    unfold cb_X10_wordAt_52
    refine WP.ite (fun c_1 => ?_) (fun c_1 => ?_)
    · skip
      have q_2 := i_rng x2
      have q_3 := i_rng x6
      have e_4 := i_le.mp (show x2 ≤ x6 from c_1)
      unfold cb_X10_wordAt_100
      refine WP.ite (fun c_5 => ?_) (fun c_5 => ?_)
      · skip
        have q_6 := i_rng x5
        have l_7 : (0 : Int32).toInt = 0 := rfl
        have e_8 := i_eq.mp (show x5 = (0 : Int32) from c_5)
        unfold cb_X10_wordAt_107
        have q_9 := i_rng x1
        have q_10 := i_rng x3
        first | have e_11 : (x3 + (1 : Int32)).toInt = x3.toInt + (1) := i_addn x3 rfl (by omega) (by omega) | have e_12 := i_rng (x3 + (1 : Int32))
        exact hag_2 x1 x2 (x3 + (1 : Int32)) F G hI hF hG (show 4 ≤ (x3 + (1 : Int32)).toInt by omega) (show (x3 + (1 : Int32)).toInt ≤ 19 by omega) (show 0 ≤ x2.toInt by omega) (by omega)
      · skip
        have q_13 := i_rng x5
        have l_14 : (0 : Int32).toInt = 0 := rfl
        have e_15 := mt i_eq.mpr (show ¬ (x5 = (0 : Int32)) from c_5)
        unfold cb_X10_wordAt_105
        refine WP.ret ?_
        exact ⟨hF, hG, trivial⟩
    · skip
      have q_16 := i_rng x2
      have q_17 := i_rng x6
      have e_18 := mt i_le.mpr (show ¬ (x2 ≤ x6) from c_1)
      unfold cb_X10_wordAt_58
      refine WP.ite (fun c_19 => ?_) (fun c_19 => ?_)
      · skip
        have q_20 := i_rng x5
        have l_21 : (0 : Int32).toInt = 0 := rfl
        have e_22 := i_eq.mp (show x5 = (0 : Int32) from c_19)
        unfold cb_X10_wordAt_100
        refine WP.ite (fun c_23 => ?_) (fun c_23 => ?_)
        · skip
          have e_24 := i_eq.mp (show x5 = (0 : Int32) from c_23)
          unfold cb_X10_wordAt_107
          have q_25 := i_rng x1
          have q_26 := i_rng x3
          first | have e_27 : (x3 + (1 : Int32)).toInt = x3.toInt + (1) := i_addn x3 rfl (by omega) (by omega) | have e_28 := i_rng (x3 + (1 : Int32))
          exact hag_2 x1 x2 (x3 + (1 : Int32)) F G hI hF hG (show 4 ≤ (x3 + (1 : Int32)).toInt by omega) (show (x3 + (1 : Int32)).toInt ≤ 19 by omega) (show 0 ≤ x2.toInt by omega) (by omega)
        · skip
          have e_29 := mt i_eq.mpr (show ¬ (x5 = (0 : Int32)) from c_23)
          unfold cb_X10_wordAt_105
          refine WP.ret ?_
          exact ⟨hF, hG, trivial⟩
      · skip
        have q_30 := i_rng x5
        have l_31 : (0 : Int32).toInt = 0 := rfl
        have e_32 := mt i_eq.mpr (show ¬ (x5 = (0 : Int32)) from c_19)
        unfold cb_X10_wordAt_63
        have q_33 := i_rng x4
        first | have e_34 : (x4 + x6).toInt = x4.toInt + (x6.toInt) := i_addn x4 rfl (by omega) (by omega) | have e_35 := i_rng (x4 + x6)
        refine WP.bind (cs_J0_charAt_5068e hfu 2 (x4 + x6) F G hI (by decide) (show vp_in (x4 + x6) 120 from vp_in_iff.mpr ⟨by omega, by omega⟩)) ?_
        rintro r36 _ _ ⟨rfl, rfl, hp36⟩
        dsimp only
        unfold cb_X10_wordAt_73
        have q_37 := i_rng x1
        first | have e_38 : (x1 + x6).toInt = x1.toInt + (x6.toInt) := i_addn x1 rfl (by omega) (by omega) | have e_39 := i_rng (x1 + x6)
        refine WP.bind (cs_X9_at hfu (x1 + x6) F G hI) ?_
        rintro r40 _ _ ⟨rfl, rfl, hp40⟩
        dsimp only
        unfold cb_X10_wordAt_84
        refine WP.ite (fun c_41 => ?_) (fun c_41 => ?_)
        · skip
          have q_42 := i_rng r36
          have q_43 := i_rng r40
          have e_44 := i_eq.mp (show r36 = r40 from c_41)
          unfold cb_X10_wordAt_87
          unfold cb_X10_wordAt_92
          have q_45 := i_rng x3
          have l_46 : (1 : Int32).toInt = 1 := rfl
          first | have e_47 : (x6 + (1 : Int32)).toInt = x6.toInt + (1) := i_addn x6 rfl (by omega) (by omega) | have e_48 := i_rng (x6 + (1 : Int32))
          exact ihn x1 x2 x3 x4 (1 : Int32) (x6 + (1 : Int32)) F G hI hF hG (show 0 ≤ (x6 + (1 : Int32)).toInt by omega) (show 0 ≤ x4.toInt by omega) (show x4.toInt ≤ 112 by omega) (show x2.toInt ≤ 8 by omega) (show 4 ≤ x3.toInt by omega) (show x3.toInt ≤ 18 by omega) (show (2147483647 - x3.toInt).toNat < n_2 + 1 by omega) (show 0 ≤ x2.toInt by omega) (by omega)
        · skip
          have q_49 := i_rng r36
          have q_50 := i_rng r40
          have e_51 := mt i_eq.mpr (show ¬ (r36 = r40) from c_41)
          unfold cb_X10_wordAt_91
          unfold cb_X10_wordAt_92
          have q_52 := i_rng x3
          first | have e_53 : (x6 + (1 : Int32)).toInt = x6.toInt + (1) := i_addn x6 rfl (by omega) (by omega) | have e_54 := i_rng (x6 + (1 : Int32))
          exact ihn x1 x2 x3 x4 (0 : Int32) (x6 + (1 : Int32)) F G hI hF hG (show 0 ≤ (x6 + (1 : Int32)).toInt by omega) (show 0 ≤ x4.toInt by omega) (show x4.toInt ≤ 112 by omega) (show x2.toInt ≤ 8 by omega) (show 4 ≤ x3.toInt by omega) (show x3.toInt ≤ 18 by omega) (show (2147483647 - x3.toInt).toNat < n_2 + 1 by omega) (show 0 ≤ x2.toInt by omega) (by omega)
theorem cz_X10_wordAt_2 {fu : Nat} (hfu : 8589934592 ≤ fu) {F0 : PF} {G0 : PG} : ∀ (n : Nat) (x1 : Int32) (x2 : Int32) (x3 : Int32) (F : PF) (G : PG) (hI : CI F G) (hF : F0 = F) (hG : G0 = G) (i_0 : 4 ≤ x3.toInt) (i_1 : x3.toInt ≤ 19) (i_2 : 0 ≤ x2.toInt) (hn : (2147483647 - x3.toInt).toNat < n), WP (cl_X10_wordAt_2 fu n x1 x2 x3 F G) (fun r' F' G' => F0 = F' ∧ G0 = G' ∧ True) := by
  intro n
  induction n with
  | zero =>
    intro x1 x2 x3 F G hI hF hG i_0 i_1 i_2 hn
    exact absurd hn (Nat.not_lt_zero _)
  | succ n ihn =>
    intro x1 x2 x3 F G hI hF hG i_0 i_1 i_2 hn
    show WP (cb_X10_wordAt_2 fu (cl_X10_wordAt_2 fu n)  x1 x2 x3 F G) _
    unfold cb_X10_wordAt_2
    refine WP.ite (fun c_1 => ?_) (fun c_1 => ?_)
    · skip
      have l_2 : (18 : Int32).toInt = 18 := rfl
      have q_3 := i_rng x3
      have e_4 := i_lt.mp (show (18 : Int32) < x3 from c_1)
      unfold cb_X10_wordAt_113
      refine WP.ret ?_
      exact ⟨hF, hG, trivial⟩
    · skip
      have l_5 : (18 : Int32).toInt = 18 := rfl
      have q_6 := i_rng x3
      have e_7 := mt i_lt.mpr (show ¬ ((18 : Int32) < x3) from c_1)
      unfold cb_X10_wordAt_8
      refine WP.ite (fun c_8 => ?_) (fun c_8 => ?_)
      · skip
        have l_9 : (8 : Int32).toInt = 8 := rfl
        have q_10 := i_rng x2
        have e_11 := i_lt.mp (show (8 : Int32) < x2 from c_8)
        unfold cb_X10_wordAt_113
        refine WP.ret ?_
        exact ⟨hF, hG, trivial⟩
      · skip
        have l_12 : (8 : Int32).toInt = 8 := rfl
        have q_13 := i_rng x2
        have e_14 := mt i_lt.mpr (show ¬ ((8 : Int32) < x2) from c_8)
        unfold cb_X10_wordAt_14
        refine WP.ite (fun c_15 => ?_) (fun c_15 => ?_)
        · skip
          have e_16 := i_eq.mp (show x2 = (8 : Int32) from c_15)
          unfold cb_X10_wordAt_42
          unfold cb_X10_wordAt_47
          have q_17 := i_rng x1
          first | have e_18 : (x3 - (4 : Int32)).toInt = x3.toInt - (4) := i_subn x3 rfl (by omega) (by omega) | have e_19 := i_rng (x3 - (4 : Int32))
          first | have e_21 : ((x3 - (4 : Int32)) * (8 : Int32)).toInt = (x3 - (4 : Int32)).toInt * (8) := i_muln (x3 - (4 : Int32)) rfl (by omega) (by omega) | have e_22 := i_rng ((x3 - (4 : Int32)) * (8 : Int32))
          have l_23 : (1 : Int32).toInt = 1 := rfl
          have l_24 : (0 : Int32).toInt = 0 := rfl
          exact cz_X10_wordAt_52 (F0 := F0) (G0 := G0) hfu (cl_X10_wordAt_2 fu n) ihn fu x1 x2 x3 ((x3 - (4 : Int32)) * (8 : Int32)) (1 : Int32) (0 : Int32) F G hI hF hG (show 0 ≤ (0 : Int32).toInt by omega) (show 0 ≤ ((x3 - (4 : Int32)) * (8 : Int32)).toInt by omega) (show ((x3 - (4 : Int32)) * (8 : Int32)).toInt ≤ 112 by omega) (show x2.toInt ≤ 8 by omega) (show 4 ≤ x3.toInt by omega) (show x3.toInt ≤ 18 by omega) (show (2147483647 - x3.toInt).toNat < n + 1 by omega) (show 0 ≤ x2.toInt by omega) (by omega)
        · skip
          have e_25 := mt i_eq.mpr (show ¬ (x2 = (8 : Int32)) from c_15)
          unfold cb_X10_wordAt_28
          first | have e_26 : (x3 - (4 : Int32)).toInt = x3.toInt - (4) := i_subn x3 rfl (by omega) (by omega) | have e_27 := i_rng (x3 - (4 : Int32))
          first | have e_29 : ((x3 - (4 : Int32)) * (8 : Int32)).toInt = (x3 - (4 : Int32)).toInt * (8) := i_muln (x3 - (4 : Int32)) rfl (by omega) (by omega) | have e_30 := i_rng ((x3 - (4 : Int32)) * (8 : Int32))
          first | have e_31 : (((x3 - (4 : Int32)) * (8 : Int32)) + x2).toInt = ((x3 - (4 : Int32)) * (8 : Int32)).toInt + (x2.toInt) := i_addn ((x3 - (4 : Int32)) * (8 : Int32)) rfl (by omega) (by omega) | have e_32 := i_rng (((x3 - (4 : Int32)) * (8 : Int32)) + x2)
          refine WP.bind (cs_J0_charAt_5068e hfu 2 (((x3 - (4 : Int32)) * (8 : Int32)) + x2) F G hI (by decide) (show vp_in (((x3 - (4 : Int32)) * (8 : Int32)) + x2) 120 from vp_in_iff.mpr ⟨by omega, by omega⟩)) ?_
          rintro r33 _ _ ⟨rfl, rfl, hp33⟩
          dsimp only
          unfold cb_X10_wordAt_37
          refine WP.ite (fun c_34 => ?_) (fun c_34 => ?_)
          · skip
            have q_35 := i_rng r33
            have l_36 : (32 : Int32).toInt = 32 := rfl
            have e_37 := i_eq.mp (show r33 = (32 : Int32) from c_34)
            unfold cb_X10_wordAt_42
            unfold cb_X10_wordAt_47
            have q_38 := i_rng x1
            have l_39 : (1 : Int32).toInt = 1 := rfl
            have l_40 : (0 : Int32).toInt = 0 := rfl
            exact cz_X10_wordAt_52 (F0 := F0) (G0 := G0) hfu (cl_X10_wordAt_2 fu n) ihn fu x1 x2 x3 ((x3 - (4 : Int32)) * (8 : Int32)) (1 : Int32) (0 : Int32) F G hI hF hG (show 0 ≤ (0 : Int32).toInt by omega) (show 0 ≤ ((x3 - (4 : Int32)) * (8 : Int32)).toInt by omega) (show ((x3 - (4 : Int32)) * (8 : Int32)).toInt ≤ 112 by omega) (show x2.toInt ≤ 8 by omega) (show 4 ≤ x3.toInt by omega) (show x3.toInt ≤ 18 by omega) (show (2147483647 - x3.toInt).toNat < n + 1 by omega) (show 0 ≤ x2.toInt by omega) (by omega)
          · skip
            have q_41 := i_rng r33
            have l_42 : (32 : Int32).toInt = 32 := rfl
            have e_43 := mt i_eq.mpr (show ¬ (r33 = (32 : Int32)) from c_34)
            unfold cb_X10_wordAt_46
            unfold cb_X10_wordAt_47
            have q_44 := i_rng x1
            have l_45 : (0 : Int32).toInt = 0 := rfl
            exact cz_X10_wordAt_52 (F0 := F0) (G0 := G0) hfu (cl_X10_wordAt_2 fu n) ihn fu x1 x2 x3 ((x3 - (4 : Int32)) * (8 : Int32)) (0 : Int32) (0 : Int32) F G hI hF hG (show 0 ≤ (0 : Int32).toInt by omega) (show 0 ≤ ((x3 - (4 : Int32)) * (8 : Int32)).toInt by omega) (show ((x3 - (4 : Int32)) * (8 : Int32)).toInt ≤ 112 by omega) (show x2.toInt ≤ 8 by omega) (show 4 ≤ x3.toInt by omega) (show x3.toInt ≤ 18 by omega) (show (2147483647 - x3.toInt).toNat < n + 1 by omega) (show 0 ≤ x2.toInt by omega) (by omega)
theorem cs_X10_wordAt {fu : Nat} (hfu : 8589934592 ≤ fu) (x1 : Int32) (x2 : Int32) (F : PF) (G : PG) (hI : CI F G) (hc : 0 ≤ x2.toInt) : WP (cf_X10_wordAt fu x1 x2 F G) (fun r' F' G' => F = F' ∧ G = G' ∧ True) := by
  unfold cf_X10_wordAt
  unfold cb_X10_wordAt_0
  have q_1 := i_rng x1
  have q_2 := i_rng x2
  have l_3 : (4 : Int32).toInt = 4 := rfl
  exact cz_X10_wordAt_2 (F0 := F) (G0 := G) hfu fu x1 x2 (4 : Int32) F G hI rfl rfl (show 4 ≤ (4 : Int32).toInt by omega) (show (4 : Int32).toInt ≤ 19 by omega) (show 0 ≤ x2.toInt by omega) (by omega)
theorem cz_X10_isName_20 {fu : Nat} (hfu : 8589934592 ≤ fu) {F0 : PF} {G0 : PG} : ∀ (n : Nat) (x1 : Int32) (x2 : Int32) (x3 : Int32) (x4 : Int32) (x5 : Int32) (F : PF) (G : PG) (hI : CI F G) (hF : F0 = F) (hG : G0 = G) (i_0 : 0 ≤ x1.toInt) (i_1 : x1.toInt < 1408) (i_2 : x4 = 0 ∨ x4 = 1) (hn : (2147483647 - x5.toInt).toNat < n), WP (cl_X10_isName_20 fu n x1 x2 x3 x4 x5 F G) (fun r' F' G' => F0 = F' ∧ G0 = G' ∧ (r' = 0 ∨ r' = 1)) := by
  intro n
  induction n with
  | zero =>
    intro x1 x2 x3 x4 x5 F G hI hF hG i_0 i_1 i_2 hn
    exact absurd hn (Nat.not_lt_zero _)
  | succ n ihn =>
    intro x1 x2 x3 x4 x5 F G hI hF hG i_0 i_1 i_2 hn
    show WP (cb_X10_isName_20 fu (cl_X10_isName_20 fu n)  x1 x2 x3 x4 x5 F G) _
    have q_x4 := b_rng i_2
    unfold cb_X10_isName_20
    refine WP.ite (fun c_1 => ?_) (fun c_1 => ?_)
    · skip
      have q_2 := i_rng x3
      have q_3 := i_rng x5
      have e_4 := i_le.mp (show x3 ≤ x5 from c_1)
      unfold cb_X10_isName_74
      refine WP.bz (show x4 = 0 ∨ x4 = 1 from i_2) ?_
      refine WP.ret ?_
      exact ⟨hF, hG, i_2⟩
    · skip
      have q_5 := i_rng x3
      have q_6 := i_rng x5
      have e_7 := mt i_le.mpr (show ¬ (x3 ≤ x5) from c_1)
      unfold cb_X10_isName_26
      refine WP.ite (fun c_8 => ?_) (fun c_8 => ?_)
      · skip
        have l_9 : (0 : Int32).toInt = 0 := rfl
        have e_10 := i_eq.mp (show x4 = (0 : Int32) from c_8)
        unfold cb_X10_isName_74
        refine WP.bz (show x4 = 0 ∨ x4 = 1 from i_2) ?_
        refine WP.ret ?_
        exact ⟨hF, hG, i_2⟩
      · skip
        have l_11 : (0 : Int32).toInt = 0 := rfl
        have e_12 := mt i_eq.mpr (show ¬ (x4 = (0 : Int32)) from c_8)
        unfold cb_X10_isName_31
        have q_13 := i_rng x1
        refine WP.ix (show vp_in x1 1408 from vp_in_iff.mpr ⟨by omega, by omega⟩) ?_
        have q_14 := i_rng (G 96 x1.toNatClampNeg)
        first | have e_15 : ((G 96 x1.toNatClampNeg) + x5).toInt = (G 96 x1.toNatClampNeg).toInt + (x5.toInt) := i_addn (G 96 x1.toNatClampNeg) rfl (by omega) (by omega) | have e_16 := i_rng ((G 96 x1.toNatClampNeg) + x5)
        refine WP.bind (cs_X9_at hfu ((G 96 x1.toNatClampNeg) + x5) F G hI) ?_
        rintro r17 _ _ ⟨rfl, rfl, hp17⟩
        dsimp only
        unfold cb_X10_isName_47
        have q_18 := i_rng x2
        first | have e_19 : (x2 + x5).toInt = x2.toInt + (x5.toInt) := i_addn x2 rfl (by omega) (by omega) | have e_20 := i_rng (x2 + x5)
        refine WP.bind (cs_X9_at hfu (x2 + x5) F G hI) ?_
        rintro r21 _ _ ⟨rfl, rfl, hp21⟩
        dsimp only
        unfold cb_X10_isName_58
        refine WP.ite (fun c_22 => ?_) (fun c_22 => ?_)
        · skip
          have q_23 := i_rng r17
          have q_24 := i_rng r21
          have e_25 := i_eq.mp (show r17 = r21 from c_22)
          unfold cb_X10_isName_61
          unfold cb_X10_isName_66
          have l_26 : (1 : Int32).toInt = 1 := rfl
          first | have e_27 : (x5 + (1 : Int32)).toInt = x5.toInt + (1) := i_addn x5 rfl (by omega) (by omega) | have e_28 := i_rng (x5 + (1 : Int32))
          exact ihn x1 x2 x3 (1 : Int32) (x5 + (1 : Int32)) F G hI hF hG (show 0 ≤ x1.toInt by omega) (show x1.toInt < 1408 by omega) (by decide) (by omega)
        · skip
          have q_29 := i_rng r17
          have q_30 := i_rng r21
          have e_31 := mt i_eq.mpr (show ¬ (r17 = r21) from c_22)
          unfold cb_X10_isName_65
          unfold cb_X10_isName_66
          first | have e_32 : (x5 + (1 : Int32)).toInt = x5.toInt + (1) := i_addn x5 rfl (by omega) (by omega) | have e_33 := i_rng (x5 + (1 : Int32))
          exact ihn x1 x2 x3 (0 : Int32) (x5 + (1 : Int32)) F G hI hF hG (show 0 ≤ x1.toInt by omega) (show x1.toInt < 1408 by omega) (by decide) (by omega)
theorem cs_X10_isName {fu : Nat} (hfu : 8589934592 ≤ fu) (x1 : Int32) (x2 : Int32) (x3 : Int32) (F : PF) (G : PG) (hI : CI F G) (hc : 0 ≤ x1.toInt) (hd : x1.toInt < 1408) : WP (cf_X10_isName fu x1 x2 x3 F G) (fun r' F' G' => F = F' ∧ G = G' ∧ (r' = 0 ∨ r' = 1)) := by
  unfold cf_X10_isName
  unfold cb_X10_isName_0
  have q_1 := i_rng x1
  refine WP.ix (show vp_in x1 1408 from vp_in_iff.mpr ⟨by omega, by omega⟩) ?_
  refine WP.ite (fun c_2 => ?_) (fun c_2 => ?_)
  · skip
    have q_3 := i_rng (G 97 x1.toNatClampNeg)
    have q_4 := i_rng x3
    have e_5 := i_eq.mp (show (G 97 x1.toNatClampNeg) = x3 from c_2)
    unfold cb_X10_isName_10
    unfold cb_X10_isName_15
    have q_6 := i_rng x2
    have l_7 : (1 : Int32).toInt = 1 := rfl
    have l_8 : (0 : Int32).toInt = 0 := rfl
    exact cz_X10_isName_20 (F0 := F) (G0 := G) hfu fu x1 x2 x3 (1 : Int32) (0 : Int32) F G hI rfl rfl (show 0 ≤ x1.toInt by omega) (show x1.toInt < 1408 by omega) (by decide) (by omega)
  · skip
    have q_9 := i_rng (G 97 x1.toNatClampNeg)
    have q_10 := i_rng x3
    have e_11 := mt i_eq.mpr (show ¬ ((G 97 x1.toNatClampNeg) = x3) from c_2)
    unfold cb_X10_isName_14
    unfold cb_X10_isName_15
    have q_12 := i_rng x2
    have l_13 : (0 : Int32).toInt = 0 := rfl
    exact cz_X10_isName_20 (F0 := F) (G0 := G) hfu fu x1 x2 x3 (0 : Int32) (0 : Int32) F G hI rfl rfl (show 0 ≤ x1.toInt by omega) (show x1.toInt < 1408 by omega) (by decide) (by omega)
