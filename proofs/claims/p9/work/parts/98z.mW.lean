theorem ms_at {fu : Nat} (x1 : Int32) (F : PF) (G : PG) (ha : 0 ≤ x1.toInt) (hb : (F 3).toInt ≤ 4000) (hX : ∀ j : Nat, 0 ≤ (G 1 j).toInt ∧ (G 1 j).toInt ≤ 255) : WP (mf_at fu x1 F G) (fun r' F' G' => F = F' ∧ G = G' ∧ (0 ≤ r'.toInt ∧ r'.toInt ≤ 255)) := by
  unfold mf_at
  unfold mb_at_0
  refine WP.ite (fun c_1 => ?_) (fun c_1 => ?_)
  · skip
    have q_2 := i_rng (F 3)
    have q_3 := i_rng x1
    have e_4 := i_le.mp (show (F 3) ≤ x1 from c_1)
    unfold mb_at_17
    unfold mb_at_18
    refine WP.ret ?_
    have l_5 : (0 : Int32).toInt = 0 := rfl
    exact ⟨rfl, rfl, (show 0 ≤ (0 : Int32).toInt ∧ (0 : Int32).toInt ≤ 255 by omega)⟩
  · skip
    have q_6 := i_rng (F 3)
    have q_7 := i_rng x1
    have e_8 := mt i_le.mpr (show ¬ ((F 3) ≤ x1) from c_1)
    unfold mb_at_8
    refine WP.ix (show vp_in x1 4000 from vp_in_iff.mpr ⟨by omega, by omega⟩) ?_
    unfold mb_at_18
    refine WP.ret ?_
    have q_9 := i_rng (G 1 x1.toNatClampNeg)
    exact ⟨rfl, rfl, (hX _)⟩
theorem ms_isLetter {fu : Nat} (x0 : Int32) (F : PF) (G : PG) : WP (mf_isLetter fu x0 F G) (fun r' F' G' => F = F' ∧ G = G' ∧ (r' = 0 ∨ r' = 1) ∧ (r'.toInt = 1 → 65 ≤ x0.toInt ∧ x0.toInt ≤ 122)) := by
  unfold mf_isLetter
  unfold mb_isLetter_0
  refine WP.ite (fun c_1 => ?_) (fun c_1 => ?_)
  · skip
    have q_2 := i_rng x0
    have l_3 : (97 : Int32).toInt = 97 := rfl
    have e_4 := i_lt.mp (show x0 < (97 : Int32) from c_1)
    unfold mb_isLetter_12
    refine WP.ite (fun c_5 => ?_) (fun c_5 => ?_)
    · skip
      have l_6 : (65 : Int32).toInt = 65 := rfl
      have e_7 := i_lt.mp (show x0 < (65 : Int32) from c_5)
      unfold mb_isLetter_24
      refine WP.ite (fun c_8 => ?_) (fun c_8 => ?_)
      · skip
        have l_9 : (95 : Int32).toInt = 95 := rfl
        have h_11 : x0 = (95 : Int32) := c_8
        have e_10 := i_eq.mp (show x0 = (95 : Int32) from c_8)
        unfold mb_isLetter_30
        unfold mb_isLetter_35
        refine WP.ret ?_
        have l_12 : (1 : Int32).toInt = 1 := rfl
        exact ⟨rfl, rfl, (by decide), (show (1 : Int32).toInt = 1 → 65 ≤ x0.toInt ∧ x0.toInt ≤ 122 by omega)⟩
      · skip
        have l_13 : (95 : Int32).toInt = 95 := rfl
        have h_15 : ¬ (x0 = (95 : Int32)) := c_8
        have e_14 := mt i_eq.mpr (show ¬ (x0 = (95 : Int32)) from c_8)
        unfold mb_isLetter_34
        unfold mb_isLetter_35
        refine WP.ret ?_
        have l_16 : (0 : Int32).toInt = 0 := rfl
        exact ⟨rfl, rfl, (by decide), (show (0 : Int32).toInt = 1 → 65 ≤ x0.toInt ∧ x0.toInt ≤ 122 by omega)⟩
    · skip
      have l_17 : (65 : Int32).toInt = 65 := rfl
      have e_18 := mt i_lt.mpr (show ¬ (x0 < (65 : Int32)) from c_5)
      unfold mb_isLetter_18
      refine WP.ite (fun c_19 => ?_) (fun c_19 => ?_)
      · skip
        have l_20 : (90 : Int32).toInt = 90 := rfl
        have e_21 := i_le.mp (show x0 ≤ (90 : Int32) from c_19)
        unfold mb_isLetter_30
        unfold mb_isLetter_35
        refine WP.ret ?_
        have l_22 : (1 : Int32).toInt = 1 := rfl
        exact ⟨rfl, rfl, (by decide), (show (1 : Int32).toInt = 1 → 65 ≤ x0.toInt ∧ x0.toInt ≤ 122 by omega)⟩
      · skip
        have l_23 : (90 : Int32).toInt = 90 := rfl
        have e_24 := mt i_le.mpr (show ¬ (x0 ≤ (90 : Int32)) from c_19)
        unfold mb_isLetter_24
        refine WP.ite (fun c_25 => ?_) (fun c_25 => ?_)
        · skip
          have l_26 : (95 : Int32).toInt = 95 := rfl
          have h_28 : x0 = (95 : Int32) := c_25
          have e_27 := i_eq.mp (show x0 = (95 : Int32) from c_25)
          unfold mb_isLetter_30
          unfold mb_isLetter_35
          refine WP.ret ?_
          have l_29 : (1 : Int32).toInt = 1 := rfl
          exact ⟨rfl, rfl, (by decide), (show (1 : Int32).toInt = 1 → 65 ≤ x0.toInt ∧ x0.toInt ≤ 122 by omega)⟩
        · skip
          have l_30 : (95 : Int32).toInt = 95 := rfl
          have h_32 : ¬ (x0 = (95 : Int32)) := c_25
          have e_31 := mt i_eq.mpr (show ¬ (x0 = (95 : Int32)) from c_25)
          unfold mb_isLetter_34
          unfold mb_isLetter_35
          refine WP.ret ?_
          have l_33 : (0 : Int32).toInt = 0 := rfl
          exact ⟨rfl, rfl, (by decide), (show (0 : Int32).toInt = 1 → 65 ≤ x0.toInt ∧ x0.toInt ≤ 122 by omega)⟩
  · skip
    have q_34 := i_rng x0
    have l_35 : (97 : Int32).toInt = 97 := rfl
    have e_36 := mt i_lt.mpr (show ¬ (x0 < (97 : Int32)) from c_1)
    unfold mb_isLetter_6
    refine WP.ite (fun c_37 => ?_) (fun c_37 => ?_)
    · skip
      have l_38 : (122 : Int32).toInt = 122 := rfl
      have e_39 := i_le.mp (show x0 ≤ (122 : Int32) from c_37)
      unfold mb_isLetter_30
      unfold mb_isLetter_35
      refine WP.ret ?_
      have l_40 : (1 : Int32).toInt = 1 := rfl
      exact ⟨rfl, rfl, (by decide), (show (1 : Int32).toInt = 1 → 65 ≤ x0.toInt ∧ x0.toInt ≤ 122 by omega)⟩
    · skip
      have l_41 : (122 : Int32).toInt = 122 := rfl
      have e_42 := mt i_le.mpr (show ¬ (x0 ≤ (122 : Int32)) from c_37)
      unfold mb_isLetter_12
      refine WP.ite (fun c_43 => ?_) (fun c_43 => ?_)
      · skip
        have l_44 : (65 : Int32).toInt = 65 := rfl
        have e_45 := i_lt.mp (show x0 < (65 : Int32) from c_43)
        unfold mb_isLetter_24
        refine WP.ite (fun c_46 => ?_) (fun c_46 => ?_)
        · skip
          have l_47 : (95 : Int32).toInt = 95 := rfl
          have h_49 : x0 = (95 : Int32) := c_46
          have e_48 := i_eq.mp (show x0 = (95 : Int32) from c_46)
          unfold mb_isLetter_30
          unfold mb_isLetter_35
          refine WP.ret ?_
          have l_50 : (1 : Int32).toInt = 1 := rfl
          exact ⟨rfl, rfl, (by decide), (show (1 : Int32).toInt = 1 → 65 ≤ x0.toInt ∧ x0.toInt ≤ 122 by omega)⟩
        · skip
          have l_51 : (95 : Int32).toInt = 95 := rfl
          have h_53 : ¬ (x0 = (95 : Int32)) := c_46
          have e_52 := mt i_eq.mpr (show ¬ (x0 = (95 : Int32)) from c_46)
          unfold mb_isLetter_34
          unfold mb_isLetter_35
          refine WP.ret ?_
          have l_54 : (0 : Int32).toInt = 0 := rfl
          exact ⟨rfl, rfl, (by decide), (show (0 : Int32).toInt = 1 → 65 ≤ x0.toInt ∧ x0.toInt ≤ 122 by omega)⟩
      · skip
        have l_55 : (65 : Int32).toInt = 65 := rfl
        have e_56 := mt i_lt.mpr (show ¬ (x0 < (65 : Int32)) from c_43)
        unfold mb_isLetter_18
        refine WP.ite (fun c_57 => ?_) (fun c_57 => ?_)
        · skip
          have l_58 : (90 : Int32).toInt = 90 := rfl
          have e_59 := i_le.mp (show x0 ≤ (90 : Int32) from c_57)
          unfold mb_isLetter_30
          unfold mb_isLetter_35
          refine WP.ret ?_
          have l_60 : (1 : Int32).toInt = 1 := rfl
          exact ⟨rfl, rfl, (by decide), (show (1 : Int32).toInt = 1 → 65 ≤ x0.toInt ∧ x0.toInt ≤ 122 by omega)⟩
        · skip
          have l_61 : (90 : Int32).toInt = 90 := rfl
          have e_62 := mt i_le.mpr (show ¬ (x0 ≤ (90 : Int32)) from c_57)
          unfold mb_isLetter_24
          refine WP.ite (fun c_63 => ?_) (fun c_63 => ?_)
          · skip
            have l_64 : (95 : Int32).toInt = 95 := rfl
            have h_66 : x0 = (95 : Int32) := c_63
            have e_65 := i_eq.mp (show x0 = (95 : Int32) from c_63)
            unfold mb_isLetter_30
            unfold mb_isLetter_35
            refine WP.ret ?_
            have l_67 : (1 : Int32).toInt = 1 := rfl
            exact ⟨rfl, rfl, (by decide), (show (1 : Int32).toInt = 1 → 65 ≤ x0.toInt ∧ x0.toInt ≤ 122 by omega)⟩
          · skip
            have l_68 : (95 : Int32).toInt = 95 := rfl
            have h_70 : ¬ (x0 = (95 : Int32)) := c_63
            have e_69 := mt i_eq.mpr (show ¬ (x0 = (95 : Int32)) from c_63)
            unfold mb_isLetter_34
            unfold mb_isLetter_35
            refine WP.ret ?_
            have l_71 : (0 : Int32).toInt = 0 := rfl
            exact ⟨rfl, rfl, (by decide), (show (0 : Int32).toInt = 1 → 65 ≤ x0.toInt ∧ x0.toInt ≤ 122 by omega)⟩
theorem ms_isDigit {fu : Nat} (x0 : Int32) (F : PF) (G : PG) : WP (mf_isDigit fu x0 F G) (fun r' F' G' => F = F' ∧ G = G' ∧ (r' = 0 ∨ r' = 1) ∧ ((r'.toInt = 1 → 48 ≤ x0.toInt ∧ x0.toInt ≤ 57) ∧ (r'.toInt = 0 → x0.toInt < 48 ∨ 57 < x0.toInt))) := by
  unfold mf_isDigit
  unfold mb_isDigit_0
  refine WP.ite (fun c_1 => ?_) (fun c_1 => ?_)
  · skip
    have q_2 := i_rng x0
    have l_3 : (48 : Int32).toInt = 48 := rfl
    have e_4 := i_lt.mp (show x0 < (48 : Int32) from c_1)
    unfold mb_isDigit_16
    unfold mb_isDigit_17
    refine WP.ret ?_
    have l_5 : (0 : Int32).toInt = 0 := rfl
    exact ⟨rfl, rfl, (by decide), (show ((0 : Int32).toInt = 1 → 48 ≤ x0.toInt ∧ x0.toInt ≤ 57) ∧ ((0 : Int32).toInt = 0 → x0.toInt < 48 ∨ 57 < x0.toInt) by omega)⟩
  · skip
    have q_6 := i_rng x0
    have l_7 : (48 : Int32).toInt = 48 := rfl
    have e_8 := mt i_lt.mpr (show ¬ (x0 < (48 : Int32)) from c_1)
    unfold mb_isDigit_6
    refine WP.ite (fun c_9 => ?_) (fun c_9 => ?_)
    · skip
      have l_10 : (57 : Int32).toInt = 57 := rfl
      have e_11 := i_lt.mp (show (57 : Int32) < x0 from c_9)
      unfold mb_isDigit_16
      unfold mb_isDigit_17
      refine WP.ret ?_
      have l_12 : (0 : Int32).toInt = 0 := rfl
      exact ⟨rfl, rfl, (by decide), (show ((0 : Int32).toInt = 1 → 48 ≤ x0.toInt ∧ x0.toInt ≤ 57) ∧ ((0 : Int32).toInt = 0 → x0.toInt < 48 ∨ 57 < x0.toInt) by omega)⟩
    · skip
      have l_13 : (57 : Int32).toInt = 57 := rfl
      have e_14 := mt i_lt.mpr (show ¬ ((57 : Int32) < x0) from c_9)
      unfold mb_isDigit_12
      unfold mb_isDigit_17
      refine WP.ret ?_
      have l_15 : (1 : Int32).toInt = 1 := rfl
      exact ⟨rfl, rfl, (by decide), (show ((1 : Int32).toInt = 1 → 48 ≤ x0.toInt ∧ x0.toInt ≤ 57) ∧ ((1 : Int32).toInt = 0 → x0.toInt < 48 ∨ 57 < x0.toInt) by omega)⟩
theorem ms_isInner {fu : Nat} (x0 : Int32) (F : PF) (G : PG) : WP (mf_isInner fu x0 F G) (fun r' F' G' => F = F' ∧ G = G' ∧ (r' = 0 ∨ r' = 1) ∧ (r'.toInt = 1 → 48 ≤ x0.toInt ∧ x0.toInt ≤ 122)) := by
  unfold mf_isInner
  unfold mb_isInner_0
  have q_2 := i_rng x0
  refine WP.bind (ms_isLetter x0 F G) ?_
  rintro r1 _ _ ⟨rfl, rfl, p1⟩
  dsimp only
  have q_3 := b_rng p1.1
  have q_4 := p1.2
  unfold mb_isInner_4
  refine WP.ite (fun c_5 => ?_) (fun c_5 => ?_)
  · skip
    have l_6 : (0 : Int32).toInt = 0 := rfl
    have h_8 : r1 = (0 : Int32) := c_5
    have e_7 := i_eq.mp (show r1 = (0 : Int32) from c_5)
    unfold mb_isInner_7
    refine WP.bind (ms_isDigit x0 F G) ?_
    rintro r9 _ _ ⟨rfl, rfl, p9⟩
    dsimp only
    have q_10 := b_rng p9.1
    have q_11 := p9.2
    unfold mb_isInner_11
    refine WP.ite (fun c_12 => ?_) (fun c_12 => ?_)
    · skip
      have h_14 : r9 = (0 : Int32) := c_12
      have e_13 := i_eq.mp (show r9 = (0 : Int32) from c_12)
      unfold mb_isInner_18
      unfold mb_isInner_19
      refine WP.ret ?_
      exact ⟨rfl, rfl, (by decide), (show (0 : Int32).toInt = 1 → 48 ≤ x0.toInt ∧ x0.toInt ≤ 122 by omega)⟩
    · skip
      have h_16 : ¬ (r9 = (0 : Int32)) := c_12
      have e_15 := mt i_eq.mpr (show ¬ (r9 = (0 : Int32)) from c_12)
      unfold mb_isInner_14
      unfold mb_isInner_19
      refine WP.ret ?_
      have l_17 : (1 : Int32).toInt = 1 := rfl
      exact ⟨rfl, rfl, (by decide), (show (1 : Int32).toInt = 1 → 48 ≤ x0.toInt ∧ x0.toInt ≤ 122 by omega)⟩
  · skip
    have l_18 : (0 : Int32).toInt = 0 := rfl
    have h_20 : ¬ (r1 = (0 : Int32)) := c_5
    have e_19 := mt i_eq.mpr (show ¬ (r1 = (0 : Int32)) from c_5)
    unfold mb_isInner_14
    unfold mb_isInner_19
    refine WP.ret ?_
    have l_21 : (1 : Int32).toInt = 1 := rfl
    exact ⟨rfl, rfl, (by decide), (show (1 : Int32).toInt = 1 → 48 ≤ x0.toInt ∧ x0.toInt ≤ 122 by omega)⟩
theorem ms_hex {fu : Nat} (x0 : Int32) (F : PF) (G : PG) : WP (mf_hex fu x0 F G) (fun r' F' G' => F = F' ∧ G = G' ∧ (0 ≤ r'.toInt ∧ r'.toInt ≤ 99)) := by
  unfold mf_hex
  unfold mb_hex_0
  have q_2 := i_rng x0
  refine WP.bind (ms_isDigit x0 F G) ?_
  rintro r1 _ _ ⟨rfl, rfl, p1⟩
  dsimp only
  have q_3 := b_rng p1.1
  have q_4 := p1.2
  unfold mb_hex_4
  refine WP.ite (fun c_5 => ?_) (fun c_5 => ?_)
  · skip
    have l_6 : (0 : Int32).toInt = 0 := rfl
    have h_8 : r1 = (0 : Int32) := c_5
    have e_7 := i_eq.mp (show r1 = (0 : Int32) from c_5)
    unfold mb_hex_14
    refine WP.ite (fun c_9 => ?_) (fun c_9 => ?_)
    · skip
      have l_10 : (97 : Int32).toInt = 97 := rfl
      have e_11 := i_lt.mp (show x0 < (97 : Int32) from c_9)
      unfold mb_hex_36
      refine WP.ite (fun c_12 => ?_) (fun c_12 => ?_)
      · skip
        have l_13 : (65 : Int32).toInt = 65 := rfl
        have e_14 := i_lt.mp (show x0 < (65 : Int32) from c_12)
        unfold mb_hex_58
        unfold mb_hex_60
        refine WP.ret ?_
        have l_15 : (99 : Int32).toInt = 99 := rfl
        exact ⟨rfl, rfl, (show 0 ≤ (99 : Int32).toInt ∧ (99 : Int32).toInt ≤ 99 by omega)⟩
      · skip
        have l_16 : (65 : Int32).toInt = 65 := rfl
        have e_17 := mt i_lt.mpr (show ¬ (x0 < (65 : Int32)) from c_12)
        unfold mb_hex_42
        refine WP.ite (fun c_18 => ?_) (fun c_18 => ?_)
        · skip
          have l_19 : (70 : Int32).toInt = 70 := rfl
          have e_20 := i_lt.mp (show (70 : Int32) < x0 from c_18)
          unfold mb_hex_58
          unfold mb_hex_60
          refine WP.ret ?_
          have l_21 : (99 : Int32).toInt = 99 := rfl
          exact ⟨rfl, rfl, (show 0 ≤ (99 : Int32).toInt ∧ (99 : Int32).toInt ≤ 99 by omega)⟩
        · skip
          have l_22 : (70 : Int32).toInt = 70 := rfl
          have e_23 := mt i_lt.mpr (show ¬ ((70 : Int32) < x0) from c_18)
          unfold mb_hex_48
          unfold mb_hex_60
          refine WP.ret ?_
          first | have e_24 : (x0 - (65 : Int32)).toInt = x0.toInt - (65) := i_subn x0 rfl (by omega) (by omega) | have e_25 := i_rng (x0 - (65 : Int32))
          first | have e_26 : ((x0 - (65 : Int32)) + (10 : Int32)).toInt = (x0 - (65 : Int32)).toInt + (10) := i_addn (x0 - (65 : Int32)) rfl (by omega) (by omega) | have e_27 := i_rng ((x0 - (65 : Int32)) + (10 : Int32))
          exact ⟨rfl, rfl, (show 0 ≤ ((x0 - (65 : Int32)) + (10 : Int32)).toInt ∧ ((x0 - (65 : Int32)) + (10 : Int32)).toInt ≤ 99 by omega)⟩
    · skip
      have l_28 : (97 : Int32).toInt = 97 := rfl
      have e_29 := mt i_lt.mpr (show ¬ (x0 < (97 : Int32)) from c_9)
      unfold mb_hex_20
      refine WP.ite (fun c_30 => ?_) (fun c_30 => ?_)
      · skip
        have l_31 : (102 : Int32).toInt = 102 := rfl
        have e_32 := i_lt.mp (show (102 : Int32) < x0 from c_30)
        unfold mb_hex_36
        refine WP.ite (fun c_33 => ?_) (fun c_33 => ?_)
        · skip
          have l_34 : (65 : Int32).toInt = 65 := rfl
          have e_35 := i_lt.mp (show x0 < (65 : Int32) from c_33)
          unfold mb_hex_58
          unfold mb_hex_60
          refine WP.ret ?_
          have l_36 : (99 : Int32).toInt = 99 := rfl
          exact ⟨rfl, rfl, (show 0 ≤ (99 : Int32).toInt ∧ (99 : Int32).toInt ≤ 99 by omega)⟩
        · skip
          have l_37 : (65 : Int32).toInt = 65 := rfl
          have e_38 := mt i_lt.mpr (show ¬ (x0 < (65 : Int32)) from c_33)
          unfold mb_hex_42
          refine WP.ite (fun c_39 => ?_) (fun c_39 => ?_)
          · skip
            have l_40 : (70 : Int32).toInt = 70 := rfl
            have e_41 := i_lt.mp (show (70 : Int32) < x0 from c_39)
            unfold mb_hex_58
            unfold mb_hex_60
            refine WP.ret ?_
            have l_42 : (99 : Int32).toInt = 99 := rfl
            exact ⟨rfl, rfl, (show 0 ≤ (99 : Int32).toInt ∧ (99 : Int32).toInt ≤ 99 by omega)⟩
          · skip
            have l_43 : (70 : Int32).toInt = 70 := rfl
            have e_44 := mt i_lt.mpr (show ¬ ((70 : Int32) < x0) from c_39)
            unfold mb_hex_48
            unfold mb_hex_60
            refine WP.ret ?_
            first | have e_45 : (x0 - (65 : Int32)).toInt = x0.toInt - (65) := i_subn x0 rfl (by omega) (by omega) | have e_46 := i_rng (x0 - (65 : Int32))
            first | have e_47 : ((x0 - (65 : Int32)) + (10 : Int32)).toInt = (x0 - (65 : Int32)).toInt + (10) := i_addn (x0 - (65 : Int32)) rfl (by omega) (by omega) | have e_48 := i_rng ((x0 - (65 : Int32)) + (10 : Int32))
            exact ⟨rfl, rfl, (show 0 ≤ ((x0 - (65 : Int32)) + (10 : Int32)).toInt ∧ ((x0 - (65 : Int32)) + (10 : Int32)).toInt ≤ 99 by omega)⟩
      · skip
        have l_49 : (102 : Int32).toInt = 102 := rfl
        have e_50 := mt i_lt.mpr (show ¬ ((102 : Int32) < x0) from c_30)
        unfold mb_hex_26
        unfold mb_hex_60
        refine WP.ret ?_
        first | have e_51 : (x0 - (97 : Int32)).toInt = x0.toInt - (97) := i_subn x0 rfl (by omega) (by omega) | have e_52 := i_rng (x0 - (97 : Int32))
        first | have e_53 : ((x0 - (97 : Int32)) + (10 : Int32)).toInt = (x0 - (97 : Int32)).toInt + (10) := i_addn (x0 - (97 : Int32)) rfl (by omega) (by omega) | have e_54 := i_rng ((x0 - (97 : Int32)) + (10 : Int32))
        exact ⟨rfl, rfl, (show 0 ≤ ((x0 - (97 : Int32)) + (10 : Int32)).toInt ∧ ((x0 - (97 : Int32)) + (10 : Int32)).toInt ≤ 99 by omega)⟩
  · skip
    have l_55 : (0 : Int32).toInt = 0 := rfl
    have h_57 : ¬ (r1 = (0 : Int32)) := c_5
    have e_56 := mt i_eq.mpr (show ¬ (r1 = (0 : Int32)) from c_5)
    unfold mb_hex_7
    unfold mb_hex_60
    refine WP.ret ?_
    first | have e_58 : (x0 - (48 : Int32)).toInt = x0.toInt - (48) := i_subn x0 rfl (by omega) (by omega) | have e_59 := i_rng (x0 - (48 : Int32))
    exact ⟨rfl, rfl, (show 0 ≤ (x0 - (48 : Int32)).toInt ∧ (x0 - (48 : Int32)).toInt ≤ 99 by omega)⟩
theorem ms_token {fu : Nat} (x1 : Int32) (x2 : Int32) (x3 : Int32) (F : PF) (G : PG) (ha : 0 ≤ (F 7).toInt) (hb : (F 7).toInt < 4001) : WP (mf_token fu x1 x2 x3 F G) (fun r' F' G' => ((F' 7).toInt = (F 7).toInt + 1)) := by
  unfold mf_token
  unfold mb_token_0
  have q_1 := i_rng (F 7)
  refine WP.ix (show vp_in (F 7) 4002 from vp_in_iff.mpr ⟨by omega, by omega⟩) ?_
  unfold mb_token_10
  refine WP.ix (show vp_in (F 7) 4002 from vp_in_iff.mpr ⟨by omega, by omega⟩) ?_
  unfold mb_token_20
  refine WP.ix (show vp_in (F 7) 4002 from vp_in_iff.mpr ⟨by omega, by omega⟩) ?_
  unfold mb_token_30
  unfold mb_token_40
  refine WP.ret ?_
  have l_2 : (0 : Int32).toInt = 0 := rfl
  first | have e_3 : ((F 7) + (1 : Int32)).toInt = (F 7).toInt + (1) := i_addn (F 7) rfl (by omega) (by omega) | have e_4 := i_rng ((F 7) + (1 : Int32))
  exact (show ((F 7) + (1 : Int32)).toInt = (F 7).toInt + 1 by omega)
