theorem i_al {x m : Int32} (k : Nat) (hm : m.toBitVec.toNat = 2 ^ k - 1) (hk : k ≤ 30) (h : (x &&& m) = 0) : x.toInt % (2 ^ k : Nat) = 0 := by
  have e := congrArg (fun z : Int32 => z.toBitVec.toNat) h
  have e1 : x.toBitVec.toNat % 2 ^ k = 0 := by
    have e2 : (x &&& m).toBitVec.toNat = x.toBitVec.toNat % 2 ^ k := by
      rw [Int32.toBitVec_and, BitVec.toNat_and, hm, Nat.and_two_pow_sub_one_eq_mod]
    rw [← e2]
    exact e
  have hd : (2 ^ k : Nat) ∣ 4294967296 := ⟨2 ^ (32 - k), by rw [← Nat.pow_add, show k + (32 - k) = 32 by omega]⟩
  have hx : x.toInt = (x.toBitVec.toNat : Int) ∨ x.toInt = (x.toBitVec.toNat : Int) - 4294967296 := by
    show x.toBitVec.toInt = _ ∨ x.toBitVec.toInt = _
    rw [BitVec.toInt_eq_toNat_cond]
    split
    · exact Or.inl rfl
    · exact Or.inr rfl
  have hn : ((2 ^ k : Nat) : Int) ∣ (x.toBitVec.toNat : Int) := Int.natCast_dvd_natCast.mpr (Nat.dvd_of_mod_eq_zero e1)
  have hc : ((2 ^ k : Nat) : Int) ∣ (4294967296 : Int) := Int.natCast_dvd_natCast.mpr hd
  rcases hx with q | q
  · rw [q]; exact Int.emod_eq_zero_of_dvd hn
  · rw [q]; exact Int.emod_eq_zero_of_dvd (Int.dvd_sub hn hc)
theorem ms_part {fu : Nat} (x0 x1 x2 : Int32) (F : PF) (G : PG) : WP (mf_part fu x0 x1 x2 F G) (fun r' F' G' => F = F' ∧ G = G' ∧ (x2 = 5 → 0 ≤ r'.toInt ∧ r'.toInt ≤ 31) ∧ (x2 = 3 → 0 ≤ r'.toInt ∧ r'.toInt ≤ 7)) := by
  unfold mf_part mb_part_0
  refine WP.ret ⟨rfl, rfl, fun e => ?_, fun e => ?_⟩
  · subst e
    have := i_and ((x0.toUInt32 >>> (x1.toUInt32 &&& Int32.toUInt32 31)).toInt32) (m := (1 <<< ((5 : Int32) &&& 31)) - 1) 5 (by decide) (by decide)
    exact ⟨this.1, by have := this.2; omega⟩
  · subst e
    have := i_and ((x0.toUInt32 >>> (x1.toUInt32 &&& Int32.toUInt32 31)).toInt32) (m := (1 <<< ((3 : Int32) &&& 31)) - 1) 3 (by decide) (by decide)
    exact ⟨this.1, by have := this.2; omega⟩
theorem ms_isOut {fu : Nat} (x0 : Int32) (F : PF) (G : PG) : WP (mf_isOut fu x0 F G) (fun r' F' G' => F = F' ∧ G = G' ∧ (r' = 0 ∨ r' = 1) ∧ (r'.toInt = 0 → 0 ≤ x0.toInt ∧ x0.toInt ≤ 16383)) := by
  unfold mf_isOut
  unfold mb_isOut_0
  refine WP.ite (fun c_1 => ?_) (fun c_1 => ?_)
  · skip
    have q_2 := i_rng x0
    have l_3 : (0 : Int32).toInt = 0 := rfl
    have e_4 := i_lt.mp (show x0 < (0 : Int32) from c_1)
    unfold mb_isOut_11
    unfold mb_isOut_16
    refine WP.ret ?_
    have l_5 : (1 : Int32).toInt = 1 := rfl
    exact ⟨rfl, rfl, (by decide), (show (1 : Int32).toInt = 0 → 0 ≤ x0.toInt ∧ x0.toInt ≤ 16383 by omega)⟩
  · skip
    have q_6 := i_rng x0
    have l_7 : (0 : Int32).toInt = 0 := rfl
    have e_8 := mt i_lt.mpr (show ¬ (x0 < (0 : Int32)) from c_1)
    unfold mb_isOut_4
    refine WP.ite (fun c_9 => ?_) (fun c_9 => ?_)
    · skip
      have l_10 : (16383 : Int32).toInt = 16383 := rfl
      have e_11 := i_le.mp (show x0 ≤ (16383 : Int32) from c_9)
      unfold mb_isOut_15
      unfold mb_isOut_16
      refine WP.ret ?_
      exact ⟨rfl, rfl, (by decide), (show (0 : Int32).toInt = 0 → 0 ≤ x0.toInt ∧ x0.toInt ≤ 16383 by omega)⟩
    · skip
      have l_12 : (16383 : Int32).toInt = 16383 := rfl
      have e_13 := mt i_le.mpr (show ¬ (x0 ≤ (16383 : Int32)) from c_9)
      unfold mb_isOut_11
      unfold mb_isOut_16
      refine WP.ret ?_
      have l_14 : (1 : Int32).toInt = 1 := rfl
      exact ⟨rfl, rfl, (by decide), (show (1 : Int32).toInt = 0 → 0 ≤ x0.toInt ∧ x0.toInt ≤ 16383 by omega)⟩
theorem ms_gives {fu : Nat} (x1 : Int32) (x2 : Int32) (F : PF) (G : PG) (ha : x1.toInt ≤ 32) : WP (mf_gives fu x1 x2 F G) (fun r' F' G' => True) := by
  unfold mf_gives
  unfold mb_gives_0
  refine WP.ite (fun c_1 => ?_) (fun c_1 => ?_)
  · skip
    have q_2 := i_rng x1
    have l_3 : (0 : Int32).toInt = 0 := rfl
    have e_4 := i_le.mp (show x1 ≤ (0 : Int32) from c_1)
    unfold mb_gives_11
    refine WP.ret ?_
    exact trivial
  · skip
    have q_5 := i_rng x1
    have l_6 : (0 : Int32).toInt = 0 := rfl
    have e_7 := mt i_le.mpr (show ¬ (x1 ≤ (0 : Int32)) from c_1)
    unfold mb_gives_4
    refine WP.ix (show vp_in x1 33 from vp_in_iff.mpr ⟨by omega, by omega⟩) ?_
    unfold mb_gives_11
    refine WP.ret ?_
    exact trivial
theorem ms_goesOn {fu : Nat} (x1 : Int32) (F : PF) (G : PG) : WP (mf_goesOn fu x1 F G) (fun r' F' G' => True) := by
  unfold mf_goesOn
  unfold mb_goesOn_0
  have l_1 : (32 : Int32).toInt = 32 := rfl
  refine WP.ix (show vp_in (32 : Int32) 33 from vp_in_iff.mpr ⟨by omega, by omega⟩) ?_
  unfold mb_goesOn_8
  unfold mb_goesOn_18
  refine WP.ret ?_
  exact trivial
theorem ms_jumps {fu : Nat} (x1 : Int32) (x2 : Int32) (x3 : Int32) (F : PF) (G : PG) (ha : x1.toInt ≤ 32) : WP (mf_jumps fu x1 x2 x3 F G) (fun r' F' G' => True) := by
  unfold mf_jumps
  unfold mb_jumps_0
  refine WP.ite (fun c_1 => ?_) (fun c_1 => ?_)
  · skip
    have q_2 := i_rng x2
    have l_3 : (3 : Int32).toInt = 3 := rfl
    have e_4 := i_and x2 (m := (3 : Int32)) 2 (by decide) (by decide)
    have l_5 : (0 : Int32).toInt = 0 := rfl
    have h_7 : (x2 &&& (3 : Int32)) = (0 : Int32) := c_1
    have e_8 := i_al (x := x2) (m := (3 : Int32)) 2 (by decide) (by decide) (show (x2 &&& (3 : Int32)) = (0 : Int32) from c_1)
    have e_6 := i_eq.mp (show (x2 &&& (3 : Int32)) = (0 : Int32) from c_1)
    unfold mb_jumps_8
    have q_10 := i_rng x1
    have q_11 := i_rng x3
    first | have e_12 : (x3 + (4 : Int32)).toInt = x3.toInt + (4) := i_addn x3 rfl (by omega) (by omega) | have e_13 := i_rng (x3 + (4 : Int32))
    refine WP.bind (ms_gives x1 (x3 + (4 : Int32)) F G (show x1.toInt ≤ 32 by omega)) ?_
    rintro r9 F9 G9 p9
    dsimp only
    unfold mb_jumps_16
    refine WP.bind (ms_goesOn x2 F9 G9) ?_
    rintro r14 F14 G14 p14
    dsimp only
    unfold mb_jumps_21
    refine WP.ret ?_
    exact trivial
  · skip
    have q_15 := i_rng x2
    have l_16 : (3 : Int32).toInt = 3 := rfl
    have e_17 := i_and x2 (m := (3 : Int32)) 2 (by decide) (by decide)
    have l_18 : (0 : Int32).toInt = 0 := rfl
    have h_20 : ¬ ((x2 &&& (3 : Int32)) = (0 : Int32)) := c_1
    have e_19 := mt i_eq.mpr (show ¬ ((x2 &&& (3 : Int32)) = (0 : Int32)) from c_1)
    unfold mb_jumps_6
    refine WP.ret ?_
    exact trivial
theorem ms_branches {fu : Nat} (x1 : Int32) (x2 : Int32) (x3 : Int32) (x4 : Int32) (x5 : Int32) (F : PF) (G : PG) : WP (mf_branches fu x1 x2 x3 x4 x5 F G) (fun r' F' G' => True) := by
  unfold mf_branches
  unfold mb_branches_0
  refine WP.ite (fun c_1 => ?_) (fun c_1 => ?_)
  · skip
    have q_2 := i_rng x1
    have l_3 : (2 : Int32).toInt = 2 := rfl
    have h_5 : x1 = (2 : Int32) := c_1
    have e_4 := i_eq.mp (show x1 = (2 : Int32) from c_1)
    unfold mb_branches_10
    refine WP.ret ?_
    exact trivial
  · skip
    have q_6 := i_rng x1
    have l_7 : (2 : Int32).toInt = 2 := rfl
    have h_9 : ¬ (x1 = (2 : Int32)) := c_1
    have e_8 := mt i_eq.mpr (show ¬ (x1 = (2 : Int32)) from c_1)
    unfold mb_branches_5
    refine WP.ite (fun c_10 => ?_) (fun c_10 => ?_)
    · skip
      have l_11 : (3 : Int32).toInt = 3 := rfl
      have h_13 : x1 = (3 : Int32) := c_10
      have e_12 := i_eq.mp (show x1 = (3 : Int32) from c_10)
      unfold mb_branches_10
      refine WP.ret ?_
      exact trivial
    · skip
      have l_14 : (3 : Int32).toInt = 3 := rfl
      have h_16 : ¬ (x1 = (3 : Int32)) := c_10
      have e_15 := mt i_eq.mpr (show ¬ (x1 = (3 : Int32)) from c_10)
      unfold mb_branches_12
      refine WP.ite (fun c_17 => ?_) (fun c_17 => ?_)
      · skip
        have e_18 := i_le.mp (show (2 : Int32) ≤ x1 from c_17)
        unfold mb_branches_44
        refine WP.ite (fun c_19 => ?_) (fun c_19 => ?_)
        · skip
          have l_20 : (6 : Int32).toInt = 6 := rfl
          have e_21 := i_le.mp (show (6 : Int32) ≤ x1 from c_19)
          unfold mb_branches_63
          refine WP.ite (fun c_22 => ?_) (fun c_22 => ?_)
          · skip
            have q_23 := i_rng x3
            first | have e_24 : (x3 + (-2147483648 : Int32)).toInt = x3.toInt + (-2147483648) := i_addn x3 rfl (by omega) (by omega) | have e_25 := i_rng (x3 + (-2147483648 : Int32))
            have q_26 := i_rng x2
            first | have e_27 : (x2 + (-2147483648 : Int32)).toInt = x2.toInt + (-2147483648) := i_addn x2 rfl (by omega) (by omega) | have e_28 := i_rng (x2 + (-2147483648 : Int32))
            have e_29 := i_le.mp (show (x3 + (-2147483648 : Int32)) ≤ (x2 + (-2147483648 : Int32)) from c_22)
            unfold mb_branches_74
            unfold mb_branches_75
            refine WP.ite (fun c_30 => ?_) (fun c_30 => ?_)
            · skip
              have l_31 : (1 : Int32).toInt = 1 := rfl
              have e_32 := i_and x1 (m := (1 : Int32)) 1 (by decide) (by decide)
              have l_33 : (0 : Int32).toInt = 0 := rfl
              have h_35 : (x1 &&& (1 : Int32)) = (0 : Int32) := c_30
              have e_36 := i_al (x := x1) (m := (1 : Int32)) 1 (by decide) (by decide) (show (x1 &&& (1 : Int32)) = (0 : Int32) from c_30)
              have e_34 := i_eq.mp (show (x1 &&& (1 : Int32)) = (0 : Int32) from c_30)
              unfold mb_branches_83
              unfold mb_branches_98
              refine WP.ite (fun _ => ?_) (fun c_37 => absurd (by decide) c_37)
              unfold mb_branches_105
              have q_39 := i_rng x5
              first | have e_40 : (x5 + (4 : Int32)).toInt = x5.toInt + (4) := i_addn x5 rfl (by omega) (by omega) | have e_41 := i_rng (x5 + (4 : Int32))
              refine WP.bind (ms_goesOn (x5 + (4 : Int32)) F G) ?_
              rintro r38 F38 G38 p38
              dsimp only
              unfold mb_branches_113
              refine WP.ret ?_
              exact trivial
            · skip
              have l_42 : (1 : Int32).toInt = 1 := rfl
              have e_43 := i_and x1 (m := (1 : Int32)) 1 (by decide) (by decide)
              have l_44 : (0 : Int32).toInt = 0 := rfl
              have h_46 : ¬ ((x1 &&& (1 : Int32)) = (0 : Int32)) := c_30
              have e_45 := mt i_eq.mpr (show ¬ ((x1 &&& (1 : Int32)) = (0 : Int32)) from c_30)
              unfold mb_branches_88
              refine WP.ite (fun _ => ?_) (fun c_47 => absurd (by decide) c_47)
              unfold mb_branches_93
              unfold mb_branches_98
              refine WP.ite (fun c_48 => absurd c_48 (by decide)) (fun _ => ?_)
              unfold mb_branches_114
              refine WP.ite (fun c_49 => ?_) (fun c_49 => ?_)
              · skip
                have q_50 := i_rng x4
                have e_51 := i_and x4 (m := (3 : Int32)) 2 (by decide) (by decide)
                have h_53 : (x4 &&& (3 : Int32)) = (0 : Int32) := c_49
                have e_54 := i_al (x := x4) (m := (3 : Int32)) 2 (by decide) (by decide) (show (x4 &&& (3 : Int32)) = (0 : Int32) from c_49)
                have e_52 := i_eq.mp (show (x4 &&& (3 : Int32)) = (0 : Int32) from c_49)
                unfold mb_branches_125
                refine WP.bind (ms_goesOn x4 F G) ?_
                rintro r55 F55 G55 p55
                dsimp only
                unfold mb_branches_131
                refine WP.ret ?_
                exact trivial
              · skip
                have q_56 := i_rng x4
                have e_57 := i_and x4 (m := (3 : Int32)) 2 (by decide) (by decide)
                have h_59 : ¬ ((x4 &&& (3 : Int32)) = (0 : Int32)) := c_49
                have e_58 := mt i_eq.mpr (show ¬ ((x4 &&& (3 : Int32)) = (0 : Int32)) from c_49)
                unfold mb_branches_121
                unfold mb_branches_131
                refine WP.ret ?_
                exact trivial
          · skip
            have q_60 := i_rng x3
            first | have e_61 : (x3 + (-2147483648 : Int32)).toInt = x3.toInt + (-2147483648) := i_addn x3 rfl (by omega) (by omega) | have e_62 := i_rng (x3 + (-2147483648 : Int32))
            have q_63 := i_rng x2
            first | have e_64 : (x2 + (-2147483648 : Int32)).toInt = x2.toInt + (-2147483648) := i_addn x2 rfl (by omega) (by omega) | have e_65 := i_rng (x2 + (-2147483648 : Int32))
            have e_66 := mt i_le.mpr (show ¬ ((x3 + (-2147483648 : Int32)) ≤ (x2 + (-2147483648 : Int32))) from c_22)
            unfold mb_branches_70
            unfold mb_branches_75
            refine WP.ite (fun c_67 => ?_) (fun c_67 => ?_)
            · skip
              have l_68 : (1 : Int32).toInt = 1 := rfl
              have e_69 := i_and x1 (m := (1 : Int32)) 1 (by decide) (by decide)
              have l_70 : (0 : Int32).toInt = 0 := rfl
              have h_72 : (x1 &&& (1 : Int32)) = (0 : Int32) := c_67
              have e_73 := i_al (x := x1) (m := (1 : Int32)) 1 (by decide) (by decide) (show (x1 &&& (1 : Int32)) = (0 : Int32) from c_67)
              have e_71 := i_eq.mp (show (x1 &&& (1 : Int32)) = (0 : Int32) from c_67)
              unfold mb_branches_83
              unfold mb_branches_98
              refine WP.ite (fun c_74 => absurd c_74 (by decide)) (fun _ => ?_)
              unfold mb_branches_114
              refine WP.ite (fun c_75 => ?_) (fun c_75 => ?_)
              · skip
                have q_76 := i_rng x4
                have e_77 := i_and x4 (m := (3 : Int32)) 2 (by decide) (by decide)
                have h_79 : (x4 &&& (3 : Int32)) = (0 : Int32) := c_75
                have e_80 := i_al (x := x4) (m := (3 : Int32)) 2 (by decide) (by decide) (show (x4 &&& (3 : Int32)) = (0 : Int32) from c_75)
                have e_78 := i_eq.mp (show (x4 &&& (3 : Int32)) = (0 : Int32) from c_75)
                unfold mb_branches_125
                refine WP.bind (ms_goesOn x4 F G) ?_
                rintro r81 F81 G81 p81
                dsimp only
                unfold mb_branches_131
                refine WP.ret ?_
                exact trivial
              · skip
                have q_82 := i_rng x4
                have e_83 := i_and x4 (m := (3 : Int32)) 2 (by decide) (by decide)
                have h_85 : ¬ ((x4 &&& (3 : Int32)) = (0 : Int32)) := c_75
                have e_84 := mt i_eq.mpr (show ¬ ((x4 &&& (3 : Int32)) = (0 : Int32)) from c_75)
                unfold mb_branches_121
                unfold mb_branches_131
                refine WP.ret ?_
                exact trivial
            · skip
              have l_86 : (1 : Int32).toInt = 1 := rfl
              have e_87 := i_and x1 (m := (1 : Int32)) 1 (by decide) (by decide)
              have l_88 : (0 : Int32).toInt = 0 := rfl
              have h_90 : ¬ ((x1 &&& (1 : Int32)) = (0 : Int32)) := c_67
              have e_89 := mt i_eq.mpr (show ¬ ((x1 &&& (1 : Int32)) = (0 : Int32)) from c_67)
              unfold mb_branches_88
              refine WP.ite (fun c_91 => absurd c_91 (by decide)) (fun _ => ?_)
              unfold mb_branches_97
              unfold mb_branches_98
              refine WP.ite (fun _ => ?_) (fun c_92 => absurd (by decide) c_92)
              unfold mb_branches_105
              have q_94 := i_rng x5
              first | have e_95 : (x5 + (4 : Int32)).toInt = x5.toInt + (4) := i_addn x5 rfl (by omega) (by omega) | have e_96 := i_rng (x5 + (4 : Int32))
              refine WP.bind (ms_goesOn (x5 + (4 : Int32)) F G) ?_
              rintro r93 F93 G93 p93
              dsimp only
              unfold mb_branches_113
              refine WP.ret ?_
              exact trivial
        · skip
          have l_97 : (6 : Int32).toInt = 6 := rfl
          have e_98 := mt i_le.mpr (show ¬ ((6 : Int32) ≤ x1) from c_19)
          unfold mb_branches_50
          refine WP.ite (fun c_99 => ?_) (fun c_99 => ?_)
          · skip
            have q_100 := i_rng x3
            have q_101 := i_rng x2
            have e_102 := i_le.mp (show x3 ≤ x2 from c_99)
            unfold mb_branches_59
            unfold mb_branches_75
            refine WP.ite (fun c_103 => ?_) (fun c_103 => ?_)
            · skip
              have l_104 : (1 : Int32).toInt = 1 := rfl
              have e_105 := i_and x1 (m := (1 : Int32)) 1 (by decide) (by decide)
              have l_106 : (0 : Int32).toInt = 0 := rfl
              have h_108 : (x1 &&& (1 : Int32)) = (0 : Int32) := c_103
              have e_109 := i_al (x := x1) (m := (1 : Int32)) 1 (by decide) (by decide) (show (x1 &&& (1 : Int32)) = (0 : Int32) from c_103)
              have e_107 := i_eq.mp (show (x1 &&& (1 : Int32)) = (0 : Int32) from c_103)
              unfold mb_branches_83
              unfold mb_branches_98
              refine WP.ite (fun _ => ?_) (fun c_110 => absurd (by decide) c_110)
              unfold mb_branches_105
              have q_112 := i_rng x5
              first | have e_113 : (x5 + (4 : Int32)).toInt = x5.toInt + (4) := i_addn x5 rfl (by omega) (by omega) | have e_114 := i_rng (x5 + (4 : Int32))
              refine WP.bind (ms_goesOn (x5 + (4 : Int32)) F G) ?_
              rintro r111 F111 G111 p111
              dsimp only
              unfold mb_branches_113
              refine WP.ret ?_
              exact trivial
            · skip
              have l_115 : (1 : Int32).toInt = 1 := rfl
              have e_116 := i_and x1 (m := (1 : Int32)) 1 (by decide) (by decide)
              have l_117 : (0 : Int32).toInt = 0 := rfl
              have h_119 : ¬ ((x1 &&& (1 : Int32)) = (0 : Int32)) := c_103
              have e_118 := mt i_eq.mpr (show ¬ ((x1 &&& (1 : Int32)) = (0 : Int32)) from c_103)
              unfold mb_branches_88
              refine WP.ite (fun _ => ?_) (fun c_120 => absurd (by decide) c_120)
              unfold mb_branches_93
              unfold mb_branches_98
              refine WP.ite (fun c_121 => absurd c_121 (by decide)) (fun _ => ?_)
              unfold mb_branches_114
              refine WP.ite (fun c_122 => ?_) (fun c_122 => ?_)
              · skip
                have q_123 := i_rng x4
                have e_124 := i_and x4 (m := (3 : Int32)) 2 (by decide) (by decide)
                have h_126 : (x4 &&& (3 : Int32)) = (0 : Int32) := c_122
                have e_127 := i_al (x := x4) (m := (3 : Int32)) 2 (by decide) (by decide) (show (x4 &&& (3 : Int32)) = (0 : Int32) from c_122)
                have e_125 := i_eq.mp (show (x4 &&& (3 : Int32)) = (0 : Int32) from c_122)
                unfold mb_branches_125
                refine WP.bind (ms_goesOn x4 F G) ?_
                rintro r128 F128 G128 p128
                dsimp only
                unfold mb_branches_131
                refine WP.ret ?_
                exact trivial
              · skip
                have q_129 := i_rng x4
                have e_130 := i_and x4 (m := (3 : Int32)) 2 (by decide) (by decide)
                have h_132 : ¬ ((x4 &&& (3 : Int32)) = (0 : Int32)) := c_122
                have e_131 := mt i_eq.mpr (show ¬ ((x4 &&& (3 : Int32)) = (0 : Int32)) from c_122)
                unfold mb_branches_121
                unfold mb_branches_131
                refine WP.ret ?_
                exact trivial
          · skip
            have q_133 := i_rng x3
            have q_134 := i_rng x2
            have e_135 := mt i_le.mpr (show ¬ (x3 ≤ x2) from c_99)
            unfold mb_branches_55
            unfold mb_branches_75
            refine WP.ite (fun c_136 => ?_) (fun c_136 => ?_)
            · skip
              have l_137 : (1 : Int32).toInt = 1 := rfl
              have e_138 := i_and x1 (m := (1 : Int32)) 1 (by decide) (by decide)
              have l_139 : (0 : Int32).toInt = 0 := rfl
              have h_141 : (x1 &&& (1 : Int32)) = (0 : Int32) := c_136
              have e_142 := i_al (x := x1) (m := (1 : Int32)) 1 (by decide) (by decide) (show (x1 &&& (1 : Int32)) = (0 : Int32) from c_136)
              have e_140 := i_eq.mp (show (x1 &&& (1 : Int32)) = (0 : Int32) from c_136)
              unfold mb_branches_83
              unfold mb_branches_98
              refine WP.ite (fun c_143 => absurd c_143 (by decide)) (fun _ => ?_)
              unfold mb_branches_114
              refine WP.ite (fun c_144 => ?_) (fun c_144 => ?_)
              · skip
                have q_145 := i_rng x4
                have e_146 := i_and x4 (m := (3 : Int32)) 2 (by decide) (by decide)
                have h_148 : (x4 &&& (3 : Int32)) = (0 : Int32) := c_144
                have e_149 := i_al (x := x4) (m := (3 : Int32)) 2 (by decide) (by decide) (show (x4 &&& (3 : Int32)) = (0 : Int32) from c_144)
                have e_147 := i_eq.mp (show (x4 &&& (3 : Int32)) = (0 : Int32) from c_144)
                unfold mb_branches_125
                refine WP.bind (ms_goesOn x4 F G) ?_
                rintro r150 F150 G150 p150
                dsimp only
                unfold mb_branches_131
                refine WP.ret ?_
                exact trivial
              · skip
                have q_151 := i_rng x4
                have e_152 := i_and x4 (m := (3 : Int32)) 2 (by decide) (by decide)
                have h_154 : ¬ ((x4 &&& (3 : Int32)) = (0 : Int32)) := c_144
                have e_153 := mt i_eq.mpr (show ¬ ((x4 &&& (3 : Int32)) = (0 : Int32)) from c_144)
                unfold mb_branches_121
                unfold mb_branches_131
                refine WP.ret ?_
                exact trivial
            · skip
              have l_155 : (1 : Int32).toInt = 1 := rfl
              have e_156 := i_and x1 (m := (1 : Int32)) 1 (by decide) (by decide)
              have l_157 : (0 : Int32).toInt = 0 := rfl
              have h_159 : ¬ ((x1 &&& (1 : Int32)) = (0 : Int32)) := c_136
              have e_158 := mt i_eq.mpr (show ¬ ((x1 &&& (1 : Int32)) = (0 : Int32)) from c_136)
              unfold mb_branches_88
              refine WP.ite (fun c_160 => absurd c_160 (by decide)) (fun _ => ?_)
              unfold mb_branches_97
              unfold mb_branches_98
              refine WP.ite (fun _ => ?_) (fun c_161 => absurd (by decide) c_161)
              unfold mb_branches_105
              have q_163 := i_rng x5
              first | have e_164 : (x5 + (4 : Int32)).toInt = x5.toInt + (4) := i_addn x5 rfl (by omega) (by omega) | have e_165 := i_rng (x5 + (4 : Int32))
              refine WP.bind (ms_goesOn (x5 + (4 : Int32)) F G) ?_
              rintro r162 F162 G162 p162
              dsimp only
              unfold mb_branches_113
              refine WP.ret ?_
              exact trivial
      · skip
        have e_166 := mt i_le.mpr (show ¬ ((2 : Int32) ≤ x1) from c_17)
        unfold mb_branches_31
        refine WP.ite (fun c_167 => ?_) (fun c_167 => ?_)
        · skip
          have q_168 := i_rng x2
          have q_169 := i_rng x3
          have h_171 : x2 = x3 := c_167
          have e_170 := i_eq.mp (show x2 = x3 from c_167)
          unfold mb_branches_36
          unfold mb_branches_75
          refine WP.ite (fun c_172 => ?_) (fun c_172 => ?_)
          · skip
            have l_173 : (1 : Int32).toInt = 1 := rfl
            have e_174 := i_and x1 (m := (1 : Int32)) 1 (by decide) (by decide)
            have l_175 : (0 : Int32).toInt = 0 := rfl
            have h_177 : (x1 &&& (1 : Int32)) = (0 : Int32) := c_172
            have e_178 := i_al (x := x1) (m := (1 : Int32)) 1 (by decide) (by decide) (show (x1 &&& (1 : Int32)) = (0 : Int32) from c_172)
            have e_176 := i_eq.mp (show (x1 &&& (1 : Int32)) = (0 : Int32) from c_172)
            unfold mb_branches_83
            unfold mb_branches_98
            refine WP.ite (fun c_179 => absurd c_179 (by decide)) (fun _ => ?_)
            unfold mb_branches_114
            refine WP.ite (fun c_180 => ?_) (fun c_180 => ?_)
            · skip
              have q_181 := i_rng x4
              have e_182 := i_and x4 (m := (3 : Int32)) 2 (by decide) (by decide)
              have h_184 : (x4 &&& (3 : Int32)) = (0 : Int32) := c_180
              have e_185 := i_al (x := x4) (m := (3 : Int32)) 2 (by decide) (by decide) (show (x4 &&& (3 : Int32)) = (0 : Int32) from c_180)
              have e_183 := i_eq.mp (show (x4 &&& (3 : Int32)) = (0 : Int32) from c_180)
              unfold mb_branches_125
              refine WP.bind (ms_goesOn x4 F G) ?_
              rintro r186 F186 G186 p186
              dsimp only
              unfold mb_branches_131
              refine WP.ret ?_
              exact trivial
            · skip
              have q_187 := i_rng x4
              have e_188 := i_and x4 (m := (3 : Int32)) 2 (by decide) (by decide)
              have h_190 : ¬ ((x4 &&& (3 : Int32)) = (0 : Int32)) := c_180
              have e_189 := mt i_eq.mpr (show ¬ ((x4 &&& (3 : Int32)) = (0 : Int32)) from c_180)
              unfold mb_branches_121
              unfold mb_branches_131
              refine WP.ret ?_
              exact trivial
          · skip
            have l_191 : (1 : Int32).toInt = 1 := rfl
            have e_192 := i_and x1 (m := (1 : Int32)) 1 (by decide) (by decide)
            have l_193 : (0 : Int32).toInt = 0 := rfl
            have h_195 : ¬ ((x1 &&& (1 : Int32)) = (0 : Int32)) := c_172
            have e_194 := mt i_eq.mpr (show ¬ ((x1 &&& (1 : Int32)) = (0 : Int32)) from c_172)
            unfold mb_branches_88
            refine WP.ite (fun c_196 => absurd c_196 (by decide)) (fun _ => ?_)
            unfold mb_branches_97
            unfold mb_branches_98
            refine WP.ite (fun _ => ?_) (fun c_197 => absurd (by decide) c_197)
            unfold mb_branches_105
            have q_199 := i_rng x5
            first | have e_200 : (x5 + (4 : Int32)).toInt = x5.toInt + (4) := i_addn x5 rfl (by omega) (by omega) | have e_201 := i_rng (x5 + (4 : Int32))
            refine WP.bind (ms_goesOn (x5 + (4 : Int32)) F G) ?_
            rintro r198 F198 G198 p198
            dsimp only
            unfold mb_branches_113
            refine WP.ret ?_
            exact trivial
        · skip
          have q_202 := i_rng x2
          have q_203 := i_rng x3
          have h_205 : ¬ (x2 = x3) := c_167
          have e_204 := mt i_eq.mpr (show ¬ (x2 = x3) from c_167)
          unfold mb_branches_40
          unfold mb_branches_75
          refine WP.ite (fun c_206 => ?_) (fun c_206 => ?_)
          · skip
            have l_207 : (1 : Int32).toInt = 1 := rfl
            have e_208 := i_and x1 (m := (1 : Int32)) 1 (by decide) (by decide)
            have l_209 : (0 : Int32).toInt = 0 := rfl
            have h_211 : (x1 &&& (1 : Int32)) = (0 : Int32) := c_206
            have e_212 := i_al (x := x1) (m := (1 : Int32)) 1 (by decide) (by decide) (show (x1 &&& (1 : Int32)) = (0 : Int32) from c_206)
            have e_210 := i_eq.mp (show (x1 &&& (1 : Int32)) = (0 : Int32) from c_206)
            unfold mb_branches_83
            unfold mb_branches_98
            refine WP.ite (fun _ => ?_) (fun c_213 => absurd (by decide) c_213)
            unfold mb_branches_105
            have q_215 := i_rng x5
            first | have e_216 : (x5 + (4 : Int32)).toInt = x5.toInt + (4) := i_addn x5 rfl (by omega) (by omega) | have e_217 := i_rng (x5 + (4 : Int32))
            refine WP.bind (ms_goesOn (x5 + (4 : Int32)) F G) ?_
            rintro r214 F214 G214 p214
            dsimp only
            unfold mb_branches_113
            refine WP.ret ?_
            exact trivial
          · skip
            have l_218 : (1 : Int32).toInt = 1 := rfl
            have e_219 := i_and x1 (m := (1 : Int32)) 1 (by decide) (by decide)
            have l_220 : (0 : Int32).toInt = 0 := rfl
            have h_222 : ¬ ((x1 &&& (1 : Int32)) = (0 : Int32)) := c_206
            have e_221 := mt i_eq.mpr (show ¬ ((x1 &&& (1 : Int32)) = (0 : Int32)) from c_206)
            unfold mb_branches_88
            refine WP.ite (fun _ => ?_) (fun c_223 => absurd (by decide) c_223)
            unfold mb_branches_93
            unfold mb_branches_98
            refine WP.ite (fun c_224 => absurd c_224 (by decide)) (fun _ => ?_)
            unfold mb_branches_114
            refine WP.ite (fun c_225 => ?_) (fun c_225 => ?_)
            · skip
              have q_226 := i_rng x4
              have e_227 := i_and x4 (m := (3 : Int32)) 2 (by decide) (by decide)
              have h_229 : (x4 &&& (3 : Int32)) = (0 : Int32) := c_225
              have e_230 := i_al (x := x4) (m := (3 : Int32)) 2 (by decide) (by decide) (show (x4 &&& (3 : Int32)) = (0 : Int32) from c_225)
              have e_228 := i_eq.mp (show (x4 &&& (3 : Int32)) = (0 : Int32) from c_225)
              unfold mb_branches_125
              refine WP.bind (ms_goesOn x4 F G) ?_
              rintro r231 F231 G231 p231
              dsimp only
              unfold mb_branches_131
              refine WP.ret ?_
              exact trivial
            · skip
              have q_232 := i_rng x4
              have e_233 := i_and x4 (m := (3 : Int32)) 2 (by decide) (by decide)
              have h_235 : ¬ ((x4 &&& (3 : Int32)) = (0 : Int32)) := c_225
              have e_234 := mt i_eq.mpr (show ¬ ((x4 &&& (3 : Int32)) = (0 : Int32)) from c_225)
              unfold mb_branches_121
              unfold mb_branches_131
              refine WP.ret ?_
              exact trivial
theorem ms_byteAt {fu : Nat} (x1 : Int32) (F : PF) (G : PG) (ha : 0 ≤ x1.toInt) (hb : x1.toInt ≤ 16383) : WP (mf_byteAt fu x1 F G) (fun r' F' G' => F = F' ∧ G = G' ∧ True) := by
  unfold mf_byteAt
  unfold mb_byteAt_0
  have q_1 := i_rng x1
  have l_2 : (2 : Int32).toInt = 2 := rfl
  have e_3 : ((x1 >>> ((2 : Int32) &&& 31))).toInt = x1.toInt / 4 := i_shr 2 (by decide)
  refine WP.ix (show vp_in (x1 >>> ((2 : Int32) &&& 31)) 4096 from vp_in_iff.mpr ⟨by omega, by omega⟩) ?_
  refine WP.ret ?_
  exact ⟨rfl, rfl, trivial⟩
theorem ms_putByte {fu : Nat} (x1 : Int32) (x2 : Int32) (F : PF) (G : PG) (ha : 0 ≤ x1.toInt) (hb : x1.toInt ≤ 16383) : WP (mf_putByte fu x1 x2 F G) (fun r' F' G' => True) := by
  unfold mf_putByte
  unfold mb_putByte_0
  have q_1 := i_rng x1
  have l_2 : (2 : Int32).toInt = 2 := rfl
  have e_3 : ((x1 >>> ((2 : Int32) &&& 31))).toInt = x1.toInt / 4 := i_shr 2 (by decide)
  refine WP.ix (show vp_in (x1 >>> ((2 : Int32) &&& 31)) 4096 from vp_in_iff.mpr ⟨by omega, by omega⟩) ?_
  refine WP.ix (show vp_in (x1 >>> ((2 : Int32) &&& 31)) 4096 from vp_in_iff.mpr ⟨by omega, by omega⟩) ?_
  unfold mb_putByte_39
  refine WP.ret ?_
  exact trivial
theorem msz_loads_64 {fu : Nat} {F0 : PF} {G0 : PG} (hfu : 8589934592 ≤ fu) : ∀ (n : Nat) (x1 : Int32) (x2 : Int32) (x3 : Int32) (x4 : Int32) (x6 : Int32) (x7 : Int32) (F : PF) (G : PG) (i_0 : x2.toInt ≤ 32) (i_1 : 0 ≤ x3.toInt) (i_2 : x7.toInt + x3.toInt ≤ 16383) (i_3 : x7.toInt ≤ 3) (i_4 : -1 ≤ x7.toInt) (hn : (x7.toInt + 1).toNat < n), WP (ml_loads_64 fu n x1 x2 x3 x4 x6 x7 F G) (fun r' F' G' => True) := by
  intro n
  induction n with
  | zero =>
    intro x1 x2 x3 x4 x6 x7 F G i_0 i_1 i_2 i_3 i_4 hn
    exact absurd hn (Nat.not_lt_zero _)
  | succ n ihn =>
    intro x1 x2 x3 x4 x6 x7 F G i_0 i_1 i_2 i_3 i_4 hn
    show WP (mb_loads_64 fu (ml_loads_64 fu n) x1 x2 x3 x4 x6 x7 F G) _
    unfold mb_loads_64
    refine WP.ite (fun c_1 => ?_) (fun c_1 => ?_)
    · skip
      have q_2 := i_rng x7
      have l_3 : (0 : Int32).toInt = 0 := rfl
      have e_4 := i_lt.mp (show x7 < (0 : Int32) from c_1)
      unfold mb_loads_91
      refine WP.ite (fun c_5 => ?_) (fun c_5 => ?_)
      · skip
        have q_6 := i_rng x1
        have h_8 : x1 = (0 : Int32) := c_5
        have e_7 := i_eq.mp (show x1 = (0 : Int32) from c_5)
        unfold mb_loads_97
        unfold mb_loads_116
        have q_10 := i_rng x2
        have q_11 := i_rng (x6.toInt8.toInt32)
        refine WP.bind (ms_gives x2 (x6.toInt8.toInt32) F G (show x2.toInt ≤ 32 by omega)) ?_
        rintro r9 F9 G9 p9
        dsimp only
        unfold mb_loads_119
        have q_13 := i_rng x4
        first | have e_14 : (x4 + (4 : Int32)).toInt = x4.toInt + (4) := i_addn x4 rfl (by omega) (by omega) | have e_15 := i_rng (x4 + (4 : Int32))
        refine WP.bind (ms_goesOn (x4 + (4 : Int32)) F9 G9) ?_
        rintro r12 F12 G12 p12
        dsimp only
        unfold mb_loads_127
        refine WP.ret ?_
        exact trivial
      · skip
        have q_16 := i_rng x1
        have h_18 : ¬ (x1 = (0 : Int32)) := c_5
        have e_17 := mt i_eq.mpr (show ¬ (x1 = (0 : Int32)) from c_5)
        unfold mb_loads_103
        refine WP.ite (fun c_19 => ?_) (fun c_19 => ?_)
        · skip
          have l_20 : (1 : Int32).toInt = 1 := rfl
          have h_22 : x1 = (1 : Int32) := c_19
          have e_21 := i_eq.mp (show x1 = (1 : Int32) from c_19)
          unfold mb_loads_108
          unfold mb_loads_116
          have q_24 := i_rng x2
          have q_25 := i_rng (x6.toInt16.toInt32)
          refine WP.bind (ms_gives x2 (x6.toInt16.toInt32) F G (show x2.toInt ≤ 32 by omega)) ?_
          rintro r23 F23 G23 p23
          dsimp only
          unfold mb_loads_119
          have q_27 := i_rng x4
          first | have e_28 : (x4 + (4 : Int32)).toInt = x4.toInt + (4) := i_addn x4 rfl (by omega) (by omega) | have e_29 := i_rng (x4 + (4 : Int32))
          refine WP.bind (ms_goesOn (x4 + (4 : Int32)) F23 G23) ?_
          rintro r26 F26 G26 p26
          dsimp only
          unfold mb_loads_127
          refine WP.ret ?_
          exact trivial
        · skip
          have l_30 : (1 : Int32).toInt = 1 := rfl
          have h_32 : ¬ (x1 = (1 : Int32)) := c_19
          have e_31 := mt i_eq.mpr (show ¬ (x1 = (1 : Int32)) from c_19)
          unfold mb_loads_114
          unfold mb_loads_116
          have q_34 := i_rng x2
          have q_35 := i_rng x6
          refine WP.bind (ms_gives x2 x6 F G (show x2.toInt ≤ 32 by omega)) ?_
          rintro r33 F33 G33 p33
          dsimp only
          unfold mb_loads_119
          have q_37 := i_rng x4
          first | have e_38 : (x4 + (4 : Int32)).toInt = x4.toInt + (4) := i_addn x4 rfl (by omega) (by omega) | have e_39 := i_rng (x4 + (4 : Int32))
          refine WP.bind (ms_goesOn (x4 + (4 : Int32)) F33 G33) ?_
          rintro r36 F36 G36 p36
          dsimp only
          unfold mb_loads_127
          refine WP.ret ?_
          exact trivial
    · skip
      have q_40 := i_rng x7
      have l_41 : (0 : Int32).toInt = 0 := rfl
      have e_42 := mt i_lt.mpr (show ¬ (x7 < (0 : Int32)) from c_1)
      unfold mb_loads_69
      have q_44 := i_rng x3
      first | have e_45 : (x3 + x7).toInt = x3.toInt + (x7.toInt) := i_addn x3 rfl (by omega) (by omega) | have e_46 := i_rng (x3 + x7)
      refine WP.bind (ms_byteAt (x3 + x7) F G (show 0 ≤ (x3 + x7).toInt by omega) (show (x3 + x7).toInt ≤ 16383 by omega)) ?_
      rintro r43 _ _ ⟨rfl, rfl, p43⟩
      dsimp only
      unfold mb_loads_82
      obtain ⟨y_47, h_48, e_49⟩ : ∃ y : Int32, y = (x7 + (-1 : Int32)) ∧ y.toInt = x7.toInt + (-1) := ⟨_, rfl, i_addn x7 rfl (by omega) (by omega)⟩
      rw [← h_48]
      clear h_48
      have q_50 := i_rng x1
      have q_51 := i_rng x2
      have q_52 := i_rng x4
      have q_53 := i_rng x6
      have l_54 : (8 : Int32).toInt = 8 := rfl
      have q_55 := i_rng (x6 <<< ((8 : Int32) &&& 31))
      have q_56 := i_rng r43
      have q_57 := i_rng ((x6 <<< ((8 : Int32) &&& 31)) ||| r43)
      exact ihn x1 x2 x3 x4 ((x6 <<< ((8 : Int32) &&& 31)) ||| r43) y_47 F G (show x2.toInt ≤ 32 by omega) (show 0 ≤ x3.toInt by omega) (show y_47.toInt + x3.toInt ≤ 16383 by omega) (show y_47.toInt ≤ 3 by omega) (show -1 ≤ y_47.toInt by omega) (by omega)
theorem ms_loads {fu : Nat} (hfu : 8589934592 ≤ fu) (x1 : Int32) (x2 : Int32) (x3 : Int32) (x4 : Int32) (F : PF) (G : PG) (ha : x2.toInt ≤ 32) : WP (mf_loads fu x1 x2 x3 x4 F G) (fun r' F' G' => True) := by
  unfold mf_loads
  unfold mb_loads_0
  refine WP.ite (fun c_1 => ?_) (fun c_1 => ?_)
  · skip
    have q_2 := i_rng x1
    have l_3 : (3 : Int32).toInt = 3 := rfl
    have h_5 : x1 = (3 : Int32) := c_1
    have e_4 := i_eq.mp (show x1 = (3 : Int32) from c_1)
    unfold mb_loads_10
    refine WP.ret ?_
    exact trivial
  · skip
    have q_6 := i_rng x1
    have l_7 : (3 : Int32).toInt = 3 := rfl
    have h_9 : ¬ (x1 = (3 : Int32)) := c_1
    have e_8 := mt i_eq.mpr (show ¬ (x1 = (3 : Int32)) from c_1)
    unfold mb_loads_5
    refine WP.ite (fun c_10 => ?_) (fun c_10 => ?_)
    · skip
      have l_11 : (5 : Int32).toInt = 5 := rfl
      have e_12 := i_le.mp (show x1 ≤ (5 : Int32) from c_10)
      unfold mb_loads_12
      refine WP.ite (fun c_13 => ?_) (fun c_13 => ?_)
      · skip
        have l_14 : (2 : Int32).toInt = 2 := rfl
        have h_16 : x1 = (2 : Int32) := c_13
        have e_15 := i_eq.mp (show x1 = (2 : Int32) from c_13)
        unfold mb_loads_17
        unfold mb_loads_33
        refine WP.ite (fun c_17 => ?_) (fun c_17 => ?_)
        · skip
          have q_18 := i_rng x3
          have l_19 : ((4 : Int32) - (1 : Int32)).toInt = 3 := by decide
          have e_20 := i_and x3 (m := ((4 : Int32) - (1 : Int32))) 2 (by decide) (by decide)
          have l_21 : (0 : Int32).toInt = 0 := rfl
          have h_23 : (x3 &&& ((4 : Int32) - (1 : Int32))) = (0 : Int32) := c_17
          have e_24 := i_al (x := x3) (m := ((4 : Int32) - (1 : Int32))) 2 (by decide) (by decide) (show (x3 &&& ((4 : Int32) - (1 : Int32))) = (0 : Int32) from c_17)
          have e_22 := i_eq.mp (show (x3 &&& ((4 : Int32) - (1 : Int32))) = (0 : Int32) from c_17)
          unfold mb_loads_46
          refine WP.bind (ms_isOut x3 F G) ?_
          rintro r25 _ _ ⟨rfl, rfl, p25⟩
          dsimp only
          have q_26 := b_rng p25.1
          have q_27 := p25.2
          unfold mb_loads_50
          refine WP.ite (fun c_28 => ?_) (fun c_28 => ?_)
          · skip
            have h_30 : r25 = (0 : Int32) := c_28
            have e_29 := i_eq.mp (show r25 = (0 : Int32) from c_28)
            unfold mb_loads_55
            have q_31 := i_rng x2
            have q_32 := i_rng x4
            exact msz_loads_64 (F0 := F) (G0 := G) hfu fu x1 x2 x3 x4 (0 : Int32) ((4 : Int32) - (1 : Int32)) F G (show x2.toInt ≤ 32 by omega) (show 0 ≤ x3.toInt by omega) (show ((4 : Int32) - (1 : Int32)).toInt + x3.toInt ≤ 16383 by omega) (show ((4 : Int32) - (1 : Int32)).toInt ≤ 3 by omega) (show -1 ≤ ((4 : Int32) - (1 : Int32)).toInt by omega) (by omega)
          · skip
            have h_34 : ¬ (r25 = (0 : Int32)) := c_28
            have e_33 := mt i_eq.mpr (show ¬ (r25 = (0 : Int32)) from c_28)
            unfold mb_loads_53
            refine WP.ret ?_
            exact trivial
        · skip
          have q_35 := i_rng x3
          have l_36 : ((4 : Int32) - (1 : Int32)).toInt = 3 := by decide
          have e_37 := i_and x3 (m := ((4 : Int32) - (1 : Int32))) 2 (by decide) (by decide)
          have l_38 : (0 : Int32).toInt = 0 := rfl
          have h_40 : ¬ ((x3 &&& ((4 : Int32) - (1 : Int32))) = (0 : Int32)) := c_17
          have e_39 := mt i_eq.mpr (show ¬ ((x3 &&& ((4 : Int32) - (1 : Int32))) = (0 : Int32)) from c_17)
          unfold mb_loads_44
          refine WP.ret ?_
          exact trivial
      · skip
        have l_41 : (2 : Int32).toInt = 2 := rfl
        have h_43 : ¬ (x1 = (2 : Int32)) := c_13
        have e_42 := mt i_eq.mpr (show ¬ (x1 = (2 : Int32)) from c_13)
        unfold mb_loads_21
        refine WP.ite (fun c_44 => ?_) (fun c_44 => ?_)
        · skip
          have e_45 := i_and x1 (m := (3 : Int32)) 2 (by decide) (by decide)
          have l_46 : (1 : Int32).toInt = 1 := rfl
          have h_48 : (x1 &&& (3 : Int32)) = (1 : Int32) := c_44
          have e_47 := i_eq.mp (show (x1 &&& (3 : Int32)) = (1 : Int32) from c_44)
          unfold mb_loads_28
          unfold mb_loads_33
          refine WP.ite (fun c_49 => ?_) (fun c_49 => ?_)
          · skip
            have q_50 := i_rng x3
            have l_51 : ((2 : Int32) - (1 : Int32)).toInt = 1 := by decide
            have e_52 := i_and x3 (m := ((2 : Int32) - (1 : Int32))) 1 (by decide) (by decide)
            have l_53 : (0 : Int32).toInt = 0 := rfl
            have h_55 : (x3 &&& ((2 : Int32) - (1 : Int32))) = (0 : Int32) := c_49
            have e_56 := i_al (x := x3) (m := ((2 : Int32) - (1 : Int32))) 1 (by decide) (by decide) (show (x3 &&& ((2 : Int32) - (1 : Int32))) = (0 : Int32) from c_49)
            have e_54 := i_eq.mp (show (x3 &&& ((2 : Int32) - (1 : Int32))) = (0 : Int32) from c_49)
            unfold mb_loads_46
            refine WP.bind (ms_isOut x3 F G) ?_
            rintro r57 _ _ ⟨rfl, rfl, p57⟩
            dsimp only
            have q_58 := b_rng p57.1
            have q_59 := p57.2
            unfold mb_loads_50
            refine WP.ite (fun c_60 => ?_) (fun c_60 => ?_)
            · skip
              have h_62 : r57 = (0 : Int32) := c_60
              have e_61 := i_eq.mp (show r57 = (0 : Int32) from c_60)
              unfold mb_loads_55
              have q_63 := i_rng x2
              have q_64 := i_rng x4
              exact msz_loads_64 (F0 := F) (G0 := G) hfu fu x1 x2 x3 x4 (0 : Int32) ((2 : Int32) - (1 : Int32)) F G (show x2.toInt ≤ 32 by omega) (show 0 ≤ x3.toInt by omega) (show ((2 : Int32) - (1 : Int32)).toInt + x3.toInt ≤ 16383 by omega) (show ((2 : Int32) - (1 : Int32)).toInt ≤ 3 by omega) (show -1 ≤ ((2 : Int32) - (1 : Int32)).toInt by omega) (by omega)
            · skip
              have h_66 : ¬ (r57 = (0 : Int32)) := c_60
              have e_65 := mt i_eq.mpr (show ¬ (r57 = (0 : Int32)) from c_60)
              unfold mb_loads_53
              refine WP.ret ?_
              exact trivial
          · skip
            have q_67 := i_rng x3
            have l_68 : ((2 : Int32) - (1 : Int32)).toInt = 1 := by decide
            have e_69 := i_and x3 (m := ((2 : Int32) - (1 : Int32))) 1 (by decide) (by decide)
            have l_70 : (0 : Int32).toInt = 0 := rfl
            have h_72 : ¬ ((x3 &&& ((2 : Int32) - (1 : Int32))) = (0 : Int32)) := c_49
            have e_71 := mt i_eq.mpr (show ¬ ((x3 &&& ((2 : Int32) - (1 : Int32))) = (0 : Int32)) from c_49)
            unfold mb_loads_44
            refine WP.ret ?_
            exact trivial
        · skip
          have e_73 := i_and x1 (m := (3 : Int32)) 2 (by decide) (by decide)
          have l_74 : (1 : Int32).toInt = 1 := rfl
          have h_76 : ¬ ((x1 &&& (3 : Int32)) = (1 : Int32)) := c_44
          have e_75 := mt i_eq.mpr (show ¬ ((x1 &&& (3 : Int32)) = (1 : Int32)) from c_44)
          unfold mb_loads_32
          unfold mb_loads_33
          refine WP.ite (fun c_77 => ?_) (fun c_77 => ?_)
          · skip
            have q_78 := i_rng x3
            have l_79 : ((1 : Int32) - (1 : Int32)).toInt = 0 := by decide
            have e_80 := i_and x3 (m := ((1 : Int32) - (1 : Int32))) 0 (by decide) (by decide)
            have l_81 : (0 : Int32).toInt = 0 := rfl
            have h_83 : (x3 &&& ((1 : Int32) - (1 : Int32))) = (0 : Int32) := c_77
            have e_84 := i_al (x := x3) (m := ((1 : Int32) - (1 : Int32))) 0 (by decide) (by decide) (show (x3 &&& ((1 : Int32) - (1 : Int32))) = (0 : Int32) from c_77)
            have e_82 := i_eq.mp (show (x3 &&& ((1 : Int32) - (1 : Int32))) = (0 : Int32) from c_77)
            unfold mb_loads_46
            refine WP.bind (ms_isOut x3 F G) ?_
            rintro r85 _ _ ⟨rfl, rfl, p85⟩
            dsimp only
            have q_86 := b_rng p85.1
            have q_87 := p85.2
            unfold mb_loads_50
            refine WP.ite (fun c_88 => ?_) (fun c_88 => ?_)
            · skip
              have h_90 : r85 = (0 : Int32) := c_88
              have e_89 := i_eq.mp (show r85 = (0 : Int32) from c_88)
              unfold mb_loads_55
              have q_91 := i_rng x2
              have q_92 := i_rng x4
              exact msz_loads_64 (F0 := F) (G0 := G) hfu fu x1 x2 x3 x4 (0 : Int32) ((1 : Int32) - (1 : Int32)) F G (show x2.toInt ≤ 32 by omega) (show 0 ≤ x3.toInt by omega) (show ((1 : Int32) - (1 : Int32)).toInt + x3.toInt ≤ 16383 by omega) (show ((1 : Int32) - (1 : Int32)).toInt ≤ 3 by omega) (show -1 ≤ ((1 : Int32) - (1 : Int32)).toInt by omega) (by omega)
            · skip
              have h_94 : ¬ (r85 = (0 : Int32)) := c_88
              have e_93 := mt i_eq.mpr (show ¬ (r85 = (0 : Int32)) from c_88)
              unfold mb_loads_53
              refine WP.ret ?_
              exact trivial
          · skip
            have q_95 := i_rng x3
            have l_96 : ((1 : Int32) - (1 : Int32)).toInt = 0 := by decide
            have e_97 := i_and x3 (m := ((1 : Int32) - (1 : Int32))) 0 (by decide) (by decide)
            have l_98 : (0 : Int32).toInt = 0 := rfl
            have h_100 : ¬ ((x3 &&& ((1 : Int32) - (1 : Int32))) = (0 : Int32)) := c_77
            have e_99 := mt i_eq.mpr (show ¬ ((x3 &&& ((1 : Int32) - (1 : Int32))) = (0 : Int32)) from c_77)
            unfold mb_loads_44
            refine WP.ret ?_
            exact trivial
    · skip
      have l_101 : (5 : Int32).toInt = 5 := rfl
      have e_102 := mt i_le.mpr (show ¬ (x1 ≤ (5 : Int32)) from c_10)
      unfold mb_loads_10
      refine WP.ret ?_
      exact trivial
theorem msz_stores_35 {fu : Nat} {F0 : PF} {G0 : PG} (hfu : 8589934592 ≤ fu) : ∀ (n : Nat) (x2 : Int32) (x3 : Int32) (x4 : Int32) (x5 : Int32) (x6 : Int32) (F : PF) (G : PG) (i_0 : 0 ≤ x2.toInt) (i_1 : x2.toInt + x5.toInt ≤ 16384) (i_2 : x5.toInt ≤ 4) (i_3 : 0 ≤ x6.toInt) (hn : (4 - x6.toInt).toNat < n), WP (ml_stores_35 fu n x2 x3 x4 x5 x6 F G) (fun r' F' G' => True) := by
  intro n
  induction n with
  | zero =>
    intro x2 x3 x4 x5 x6 F G i_0 i_1 i_2 i_3 hn
    exact absurd hn (Nat.not_lt_zero _)
  | succ n ihn =>
    intro x2 x3 x4 x5 x6 F G i_0 i_1 i_2 i_3 hn
    show WP (mb_stores_35 fu (ml_stores_35 fu n) x2 x3 x4 x5 x6 F G) _
    unfold mb_stores_35
    refine WP.ite (fun c_1 => ?_) (fun c_1 => ?_)
    · skip
      have q_2 := i_rng x5
      have q_3 := i_rng x6
      have e_4 := i_le.mp (show x5 ≤ x6 from c_1)
      unfold mb_stores_63
      have q_6 := i_rng x4
      first | have e_7 : (x4 + (4 : Int32)).toInt = x4.toInt + (4) := i_addn x4 rfl (by omega) (by omega) | have e_8 := i_rng (x4 + (4 : Int32))
      refine WP.bind (ms_goesOn (x4 + (4 : Int32)) F G) ?_
      rintro r5 F5 G5 p5
      dsimp only
      unfold mb_stores_71
      refine WP.ret ?_
      exact trivial
    · skip
      have q_9 := i_rng x5
      have q_10 := i_rng x6
      have e_11 := mt i_le.mpr (show ¬ (x5 ≤ x6) from c_1)
      unfold mb_stores_42
      have q_13 := i_rng x2
      first | have e_14 : (x2 + x6).toInt = x2.toInt + (x6.toInt) := i_addn x2 rfl (by omega) (by omega) | have e_15 := i_rng (x2 + x6)
      have q_16 := i_rng x3
      have l_17 : (8 : Int32).toInt = 8 := rfl
      have q_18 := i_rng ((8 : Int32) * x6)
      have q_19 := i_rng (x3 >>> (((8 : Int32) * x6) &&& 31))
      refine WP.bind (ms_putByte (x2 + x6) (x3 >>> (((8 : Int32) * x6) &&& 31)) F G (show 0 ≤ (x2 + x6).toInt by omega) (show (x2 + x6).toInt ≤ 16383 by omega)) ?_
      rintro r12 F12 G12 p12
      dsimp only
      unfold mb_stores_57
      have q_20 := i_rng x4
      first | have e_21 : (x6 + (1 : Int32)).toInt = x6.toInt + (1) := i_addn x6 rfl (by omega) (by omega) | have e_22 := i_rng (x6 + (1 : Int32))
      exact ihn x2 x3 x4 x5 (x6 + (1 : Int32)) F12 G12 (show 0 ≤ x2.toInt by omega) (show x2.toInt + x5.toInt ≤ 16384 by omega) (show x5.toInt ≤ 4 by omega) (show 0 ≤ (x6 + (1 : Int32)).toInt by omega) (by omega)
theorem ms_stores {fu : Nat} (hfu : 8589934592 ≤ fu) (x1 : Int32) (x2 : Int32) (x3 : Int32) (x4 : Int32) (F : PF) (G : PG) (ha : 0 ≤ x1.toInt) : WP (mf_stores fu x1 x2 x3 x4 F G) (fun r' F' G' => True) := by
  unfold mf_stores
  by_cases s_0 : x1 = 0
  · subst s_0
    unfold mb_stores_0
    refine WP.ite (fun _ => ?_) (fun c_1 => absurd (by decide) c_1)
    unfold mb_stores_7
    refine WP.ite (fun c_2 => ?_) (fun c_2 => ?_)
    · skip
      have q_3 := i_rng x2
      have l_4 : (((1 : Int32) <<< ((0 : Int32) &&& 31)) - (1 : Int32)).toInt = 0 := by decide
      have e_5 := i_and x2 (m := (((1 : Int32) <<< ((0 : Int32) &&& 31)) - (1 : Int32))) 0 (by decide) (by decide)
      have l_6 : (0 : Int32).toInt = 0 := rfl
      have h_8 : (x2 &&& (((1 : Int32) <<< ((0 : Int32) &&& 31)) - (1 : Int32))) = (0 : Int32) := c_2
      have e_9 := i_al (x := x2) (m := (((1 : Int32) <<< ((0 : Int32) &&& 31)) - (1 : Int32))) 0 (by decide) (by decide) (show (x2 &&& (((1 : Int32) <<< ((0 : Int32) &&& 31)) - (1 : Int32))) = (0 : Int32) from c_2)
      have e_7 := i_eq.mp (show (x2 &&& (((1 : Int32) <<< ((0 : Int32) &&& 31)) - (1 : Int32))) = (0 : Int32) from c_2)
      unfold mb_stores_23
      refine WP.bind (ms_isOut x2 F G) ?_
      rintro r10 _ _ ⟨rfl, rfl, p10⟩
      dsimp only
      have q_11 := b_rng p10.1
      have q_12 := p10.2
      unfold mb_stores_27
      refine WP.ite (fun c_13 => ?_) (fun c_13 => ?_)
      · skip
        have h_15 : r10 = (0 : Int32) := c_13
        have e_14 := i_eq.mp (show r10 = (0 : Int32) from c_13)
        unfold mb_stores_32
        have q_16 := i_rng x3
        have q_17 := i_rng x4
        have l_18 : ((1 : Int32) <<< ((0 : Int32) &&& 31)).toInt = 1 := by decide
        exact msz_stores_35 (F0 := F) (G0 := G) hfu fu x2 x3 x4 ((1 : Int32) <<< ((0 : Int32) &&& 31)) (0 : Int32) F G (show 0 ≤ x2.toInt by omega) (show x2.toInt + ((1 : Int32) <<< ((0 : Int32) &&& 31)).toInt ≤ 16384 by omega) (show ((1 : Int32) <<< ((0 : Int32) &&& 31)).toInt ≤ 4 by omega) (show 0 ≤ (0 : Int32).toInt by omega) (by omega)
      · skip
        have h_20 : ¬ (r10 = (0 : Int32)) := c_13
        have e_19 := mt i_eq.mpr (show ¬ (r10 = (0 : Int32)) from c_13)
        unfold mb_stores_30
        refine WP.ret ?_
        exact trivial
    · skip
      have q_21 := i_rng x2
      have l_22 : (((1 : Int32) <<< ((0 : Int32) &&& 31)) - (1 : Int32)).toInt = 0 := by decide
      have e_23 := i_and x2 (m := (((1 : Int32) <<< ((0 : Int32) &&& 31)) - (1 : Int32))) 0 (by decide) (by decide)
      have l_24 : (0 : Int32).toInt = 0 := rfl
      have h_26 : ¬ ((x2 &&& (((1 : Int32) <<< ((0 : Int32) &&& 31)) - (1 : Int32))) = (0 : Int32)) := c_2
      have e_25 := mt i_eq.mpr (show ¬ ((x2 &&& (((1 : Int32) <<< ((0 : Int32) &&& 31)) - (1 : Int32))) = (0 : Int32)) from c_2)
      unfold mb_stores_21
      refine WP.ret ?_
      exact trivial
  by_cases s_1 : x1 = 1
  · subst s_1
    unfold mb_stores_0
    refine WP.ite (fun _ => ?_) (fun c_27 => absurd (by decide) c_27)
    unfold mb_stores_7
    refine WP.ite (fun c_28 => ?_) (fun c_28 => ?_)
    · skip
      have q_29 := i_rng x2
      have l_30 : (((1 : Int32) <<< ((1 : Int32) &&& 31)) - (1 : Int32)).toInt = 1 := by decide
      have e_31 := i_and x2 (m := (((1 : Int32) <<< ((1 : Int32) &&& 31)) - (1 : Int32))) 1 (by decide) (by decide)
      have l_32 : (0 : Int32).toInt = 0 := rfl
      have h_34 : (x2 &&& (((1 : Int32) <<< ((1 : Int32) &&& 31)) - (1 : Int32))) = (0 : Int32) := c_28
      have e_35 := i_al (x := x2) (m := (((1 : Int32) <<< ((1 : Int32) &&& 31)) - (1 : Int32))) 1 (by decide) (by decide) (show (x2 &&& (((1 : Int32) <<< ((1 : Int32) &&& 31)) - (1 : Int32))) = (0 : Int32) from c_28)
      have e_33 := i_eq.mp (show (x2 &&& (((1 : Int32) <<< ((1 : Int32) &&& 31)) - (1 : Int32))) = (0 : Int32) from c_28)
      unfold mb_stores_23
      refine WP.bind (ms_isOut x2 F G) ?_
      rintro r36 _ _ ⟨rfl, rfl, p36⟩
      dsimp only
      have q_37 := b_rng p36.1
      have q_38 := p36.2
      unfold mb_stores_27
      refine WP.ite (fun c_39 => ?_) (fun c_39 => ?_)
      · skip
        have h_41 : r36 = (0 : Int32) := c_39
        have e_40 := i_eq.mp (show r36 = (0 : Int32) from c_39)
        unfold mb_stores_32
        have q_42 := i_rng x3
        have q_43 := i_rng x4
        have l_44 : ((1 : Int32) <<< ((1 : Int32) &&& 31)).toInt = 2 := by decide
        exact msz_stores_35 (F0 := F) (G0 := G) hfu fu x2 x3 x4 ((1 : Int32) <<< ((1 : Int32) &&& 31)) (0 : Int32) F G (show 0 ≤ x2.toInt by omega) (show x2.toInt + ((1 : Int32) <<< ((1 : Int32) &&& 31)).toInt ≤ 16384 by omega) (show ((1 : Int32) <<< ((1 : Int32) &&& 31)).toInt ≤ 4 by omega) (show 0 ≤ (0 : Int32).toInt by omega) (by omega)
      · skip
        have h_46 : ¬ (r36 = (0 : Int32)) := c_39
        have e_45 := mt i_eq.mpr (show ¬ (r36 = (0 : Int32)) from c_39)
        unfold mb_stores_30
        refine WP.ret ?_
        exact trivial
    · skip
      have q_47 := i_rng x2
      have l_48 : (((1 : Int32) <<< ((1 : Int32) &&& 31)) - (1 : Int32)).toInt = 1 := by decide
      have e_49 := i_and x2 (m := (((1 : Int32) <<< ((1 : Int32) &&& 31)) - (1 : Int32))) 1 (by decide) (by decide)
      have l_50 : (0 : Int32).toInt = 0 := rfl
      have h_52 : ¬ ((x2 &&& (((1 : Int32) <<< ((1 : Int32) &&& 31)) - (1 : Int32))) = (0 : Int32)) := c_28
      have e_51 := mt i_eq.mpr (show ¬ ((x2 &&& (((1 : Int32) <<< ((1 : Int32) &&& 31)) - (1 : Int32))) = (0 : Int32)) from c_28)
      unfold mb_stores_21
      refine WP.ret ?_
      exact trivial
  by_cases s_2 : x1 = 2
  · subst s_2
    unfold mb_stores_0
    refine WP.ite (fun _ => ?_) (fun c_53 => absurd (by decide) c_53)
    unfold mb_stores_7
    refine WP.ite (fun c_54 => ?_) (fun c_54 => ?_)
    · skip
      have q_55 := i_rng x2
      have l_56 : (((1 : Int32) <<< ((2 : Int32) &&& 31)) - (1 : Int32)).toInt = 3 := by decide
      have e_57 := i_and x2 (m := (((1 : Int32) <<< ((2 : Int32) &&& 31)) - (1 : Int32))) 2 (by decide) (by decide)
      have l_58 : (0 : Int32).toInt = 0 := rfl
      have h_60 : (x2 &&& (((1 : Int32) <<< ((2 : Int32) &&& 31)) - (1 : Int32))) = (0 : Int32) := c_54
      have e_61 := i_al (x := x2) (m := (((1 : Int32) <<< ((2 : Int32) &&& 31)) - (1 : Int32))) 2 (by decide) (by decide) (show (x2 &&& (((1 : Int32) <<< ((2 : Int32) &&& 31)) - (1 : Int32))) = (0 : Int32) from c_54)
      have e_59 := i_eq.mp (show (x2 &&& (((1 : Int32) <<< ((2 : Int32) &&& 31)) - (1 : Int32))) = (0 : Int32) from c_54)
      unfold mb_stores_23
      refine WP.bind (ms_isOut x2 F G) ?_
      rintro r62 _ _ ⟨rfl, rfl, p62⟩
      dsimp only
      have q_63 := b_rng p62.1
      have q_64 := p62.2
      unfold mb_stores_27
      refine WP.ite (fun c_65 => ?_) (fun c_65 => ?_)
      · skip
        have h_67 : r62 = (0 : Int32) := c_65
        have e_66 := i_eq.mp (show r62 = (0 : Int32) from c_65)
        unfold mb_stores_32
        have q_68 := i_rng x3
        have q_69 := i_rng x4
        have l_70 : ((1 : Int32) <<< ((2 : Int32) &&& 31)).toInt = 4 := by decide
        exact msz_stores_35 (F0 := F) (G0 := G) hfu fu x2 x3 x4 ((1 : Int32) <<< ((2 : Int32) &&& 31)) (0 : Int32) F G (show 0 ≤ x2.toInt by omega) (show x2.toInt + ((1 : Int32) <<< ((2 : Int32) &&& 31)).toInt ≤ 16384 by omega) (show ((1 : Int32) <<< ((2 : Int32) &&& 31)).toInt ≤ 4 by omega) (show 0 ≤ (0 : Int32).toInt by omega) (by omega)
      · skip
        have h_72 : ¬ (r62 = (0 : Int32)) := c_65
        have e_71 := mt i_eq.mpr (show ¬ (r62 = (0 : Int32)) from c_65)
        unfold mb_stores_30
        refine WP.ret ?_
        exact trivial
    · skip
      have q_73 := i_rng x2
      have l_74 : (((1 : Int32) <<< ((2 : Int32) &&& 31)) - (1 : Int32)).toInt = 3 := by decide
      have e_75 := i_and x2 (m := (((1 : Int32) <<< ((2 : Int32) &&& 31)) - (1 : Int32))) 2 (by decide) (by decide)
      have l_76 : (0 : Int32).toInt = 0 := rfl
      have h_78 : ¬ ((x2 &&& (((1 : Int32) <<< ((2 : Int32) &&& 31)) - (1 : Int32))) = (0 : Int32)) := c_54
      have e_77 := mt i_eq.mpr (show ¬ ((x2 &&& (((1 : Int32) <<< ((2 : Int32) &&& 31)) - (1 : Int32))) = (0 : Int32)) from c_54)
      unfold mb_stores_21
      refine WP.ret ?_
      exact trivial
  have s_r : 2 < x1.toInt := by
    have := i_rng x1
    have q_0 : ¬ x1.toInt = 0 := fun q => s_0 (i_eq.mpr q)
    have q_1 : ¬ x1.toInt = 1 := fun q => s_1 (i_eq.mpr q)
    have q_2 : ¬ x1.toInt = 2 := fun q => s_2 (i_eq.mpr q)
    omega
  unfold mb_stores_0
  refine WP.ite (fun c_79 => ?_) (fun c_79 => ?_)
  · skip
    have q_80 := i_rng x1
    have l_81 : (2 : Int32).toInt = 2 := rfl
    have e_82 := i_le.mp (show x1 ≤ (2 : Int32) from c_79)
    unfold mb_stores_7
    refine WP.ite (fun c_83 => ?_) (fun c_83 => ?_)
    · skip
      have q_84 := i_rng x2
      have l_85 : (1 : Int32).toInt = 1 := rfl
      have q_86 := i_rng ((1 : Int32) <<< (x1 &&& 31))
      first | have e_87 : (((1 : Int32) <<< (x1 &&& 31)) - (1 : Int32)).toInt = ((1 : Int32) <<< (x1 &&& 31)).toInt - (1) := i_subn ((1 : Int32) <<< (x1 &&& 31)) rfl (by omega) (by omega) | have e_88 := i_rng (((1 : Int32) <<< (x1 &&& 31)) - (1 : Int32))
      have q_89 := i_rng (x2 &&& (((1 : Int32) <<< (x1 &&& 31)) - (1 : Int32)))
      have l_90 : (0 : Int32).toInt = 0 := rfl
      have h_92 : (x2 &&& (((1 : Int32) <<< (x1 &&& 31)) - (1 : Int32))) = (0 : Int32) := c_83
      have e_91 := i_eq.mp (show (x2 &&& (((1 : Int32) <<< (x1 &&& 31)) - (1 : Int32))) = (0 : Int32) from c_83)
      unfold mb_stores_23
      refine WP.bind (ms_isOut x2 F G) ?_
      rintro r93 _ _ ⟨rfl, rfl, p93⟩
      dsimp only
      have q_94 := b_rng p93.1
      have q_95 := p93.2
      unfold mb_stores_27
      refine WP.ite (fun c_96 => ?_) (fun c_96 => ?_)
      · skip
        have h_98 : r93 = (0 : Int32) := c_96
        have e_97 := i_eq.mp (show r93 = (0 : Int32) from c_96)
        unfold mb_stores_32
        have q_99 := i_rng x3
        have q_100 := i_rng x4
        exact msz_stores_35 (F0 := F) (G0 := G) hfu fu x2 x3 x4 ((1 : Int32) <<< (x1 &&& 31)) (0 : Int32) F G (show 0 ≤ x2.toInt by omega) (show x2.toInt + ((1 : Int32) <<< (x1 &&& 31)).toInt ≤ 16384 by omega) (show ((1 : Int32) <<< (x1 &&& 31)).toInt ≤ 4 by omega) (show 0 ≤ (0 : Int32).toInt by omega) (by omega)
      · skip
        have h_102 : ¬ (r93 = (0 : Int32)) := c_96
        have e_101 := mt i_eq.mpr (show ¬ (r93 = (0 : Int32)) from c_96)
        unfold mb_stores_30
        refine WP.ret ?_
        exact trivial
    · skip
      have q_103 := i_rng x2
      have l_104 : (1 : Int32).toInt = 1 := rfl
      have q_105 := i_rng ((1 : Int32) <<< (x1 &&& 31))
      first | have e_106 : (((1 : Int32) <<< (x1 &&& 31)) - (1 : Int32)).toInt = ((1 : Int32) <<< (x1 &&& 31)).toInt - (1) := i_subn ((1 : Int32) <<< (x1 &&& 31)) rfl (by omega) (by omega) | have e_107 := i_rng (((1 : Int32) <<< (x1 &&& 31)) - (1 : Int32))
      have q_108 := i_rng (x2 &&& (((1 : Int32) <<< (x1 &&& 31)) - (1 : Int32)))
      have l_109 : (0 : Int32).toInt = 0 := rfl
      have h_111 : ¬ ((x2 &&& (((1 : Int32) <<< (x1 &&& 31)) - (1 : Int32))) = (0 : Int32)) := c_83
      have e_110 := mt i_eq.mpr (show ¬ ((x2 &&& (((1 : Int32) <<< (x1 &&& 31)) - (1 : Int32))) = (0 : Int32)) from c_83)
      unfold mb_stores_21
      refine WP.ret ?_
      exact trivial
  · skip
    have q_112 := i_rng x1
    have l_113 : (2 : Int32).toInt = 2 := rfl
    have e_114 := mt i_le.mpr (show ¬ (x1 ≤ (2 : Int32)) from c_79)
    unfold mb_stores_5
    refine WP.ret ?_
    exact trivial
theorem ms_immediate {fu : Nat} (x1 : Int32) (x2 : Int32) (x3 : Int32) (x4 : Int32) (x5 : Int32) (x6 : Int32) (x7 : Int32) (F : PF) (G : PG) (ha : x3.toInt ≤ 32) : WP (mf_immediate fu x1 x2 x3 x4 x5 x6 x7 F G) (fun r' F' G' => True) := by
  unfold mf_immediate
  unfold mb_immediate_0
  refine WP.ite (fun c_1 => ?_) (fun c_1 => ?_)
  · skip
    have q_2 := i_rng x1
    have l_3 : (1 : Int32).toInt = 1 := rfl
    have h_5 : x1 = (1 : Int32) := c_1
    have e_4 := i_eq.mp (show x1 = (1 : Int32) from c_1)
    unfold mb_immediate_5
    refine WP.ite (fun c_6 => ?_) (fun c_6 => ?_)
    · skip
      have q_7 := i_rng x2
      have l_8 : (0 : Int32).toInt = 0 := rfl
      have h_10 : x2 = (0 : Int32) := c_6
      have e_9 := i_eq.mp (show x2 = (0 : Int32) from c_6)
      unfold mb_immediate_9
      refine WP.ite (fun c_11 => ?_) (fun c_11 => ?_)
      · skip
        have l_12 : (5 : Int32).toInt = 5 := rfl
        have h_14 : x1 = (5 : Int32) := c_11
        have e_13 := i_eq.mp (show x1 = (5 : Int32) from c_11)
        unfold mb_immediate_14
        refine WP.ite (fun c_15 => ?_) (fun c_15 => ?_)
        · skip
          have h_17 : x2 = (0 : Int32) := c_15
          have e_16 := i_eq.mp (show x2 = (0 : Int32) from c_15)
          unfold mb_immediate_26
          refine WP.ite (fun c_18 => ?_) (fun c_18 => ?_)
          · have e_19 : x1.toInt < 0 ∨ 6 < x1.toInt := c_18
            unfold mb_immediate_172
            unfold mb_immediate_179
            have q_21 := i_rng x3
            have q_22 := i_rng x4
            have q_23 := i_rng x5
            have q_24 := i_rng (x4 &&& x5)
            refine WP.bind (ms_gives x3 (x4 &&& x5) F G (show x3.toInt ≤ 32 by omega)) ?_
            rintro r20 F20 G20 p20
            dsimp only
            unfold mb_immediate_186
            have q_26 := i_rng x7
            first | have e_27 : (x7 + (4 : Int32)).toInt = x7.toInt + (4) := i_addn x7 rfl (by omega) (by omega) | have e_28 := i_rng (x7 + (4 : Int32))
            refine WP.bind (ms_goesOn (x7 + (4 : Int32)) F20 G20) ?_
            rintro r25 F25 G25 p25
            dsimp only
            unfold mb_immediate_194
            refine WP.ret ?_
            exact trivial
          have e_29 : ¬ (x1.toInt < 0 ∨ 6 < x1.toInt) := c_18
          refine WP.ite (fun c_30 => ?_) (fun c_30 => ?_)
          · skip
            have h_32 : x1 = (0 : Int32) := c_30
            have e_31 := i_eq.mp (show x1 = (0 : Int32) from c_30)
            unfold mb_immediate_68
            unfold mb_immediate_179
            have q_34 := i_rng x3
            have q_35 := i_rng x4
            have q_36 := i_rng x5
            first | have e_37 : (x4 + x5).toInt = x4.toInt + (x5.toInt) := i_addn x4 rfl (by omega) (by omega) | have e_38 := i_rng (x4 + x5)
            refine WP.bind (ms_gives x3 (x4 + x5) F G (show x3.toInt ≤ 32 by omega)) ?_
            rintro r33 F33 G33 p33
            dsimp only
            unfold mb_immediate_186
            have q_40 := i_rng x7
            first | have e_41 : (x7 + (4 : Int32)).toInt = x7.toInt + (4) := i_addn x7 rfl (by omega) (by omega) | have e_42 := i_rng (x7 + (4 : Int32))
            refine WP.bind (ms_goesOn (x7 + (4 : Int32)) F33 G33) ?_
            rintro r39 F39 G39 p39
            dsimp only
            unfold mb_immediate_194
            refine WP.ret ?_
            exact trivial
          have h_44 : ¬ (x1 = (0 : Int32)) := c_30
          have e_43 := mt i_eq.mpr (show ¬ (x1 = (0 : Int32)) from c_30)
          refine WP.ite (fun c_45 => ?_) (fun c_45 => ?_)
          · skip
            have h_47 : x1 = (1 : Int32) := c_45
            have e_46 := i_eq.mp (show x1 = (1 : Int32) from c_45)
            unfold mb_immediate_78
            unfold mb_immediate_179
            have q_49 := i_rng x3
            have q_50 := i_rng x4
            have q_51 := i_rng x6
            have q_52 := i_rng (x4 <<< (x6 &&& 31))
            refine WP.bind (ms_gives x3 (x4 <<< (x6 &&& 31)) F G (show x3.toInt ≤ 32 by omega)) ?_
            rintro r48 F48 G48 p48
            dsimp only
            unfold mb_immediate_186
            have q_54 := i_rng x7
            first | have e_55 : (x7 + (4 : Int32)).toInt = x7.toInt + (4) := i_addn x7 rfl (by omega) (by omega) | have e_56 := i_rng (x7 + (4 : Int32))
            refine WP.bind (ms_goesOn (x7 + (4 : Int32)) F48 G48) ?_
            rintro r53 F53 G53 p53
            dsimp only
            unfold mb_immediate_194
            refine WP.ret ?_
            exact trivial
          have h_58 : ¬ (x1 = (1 : Int32)) := c_45
          have e_57 := mt i_eq.mpr (show ¬ (x1 = (1 : Int32)) from c_45)
          refine WP.ite (fun c_59 => ?_) (fun c_59 => ?_)
          · skip
            have l_60 : (2 : Int32).toInt = 2 := rfl
            have h_62 : x1 = (2 : Int32) := c_59
            have e_61 := i_eq.mp (show x1 = (2 : Int32) from c_59)
            unfold mb_immediate_88
            refine WP.ite (fun c_63 => ?_) (fun c_63 => ?_)
            · skip
              have q_64 := i_rng x5
              have q_65 := i_rng x4
              have e_66 := i_le.mp (show x5 ≤ x4 from c_63)
              unfold mb_immediate_99
              unfold mb_immediate_100
              unfold mb_immediate_179
              have q_68 := i_rng x3
              refine WP.bind (ms_gives x3 (0 : Int32) F G (show x3.toInt ≤ 32 by omega)) ?_
              rintro r67 F67 G67 p67
              dsimp only
              unfold mb_immediate_186
              have q_70 := i_rng x7
              first | have e_71 : (x7 + (4 : Int32)).toInt = x7.toInt + (4) := i_addn x7 rfl (by omega) (by omega) | have e_72 := i_rng (x7 + (4 : Int32))
              refine WP.bind (ms_goesOn (x7 + (4 : Int32)) F67 G67) ?_
              rintro r69 F69 G69 p69
              dsimp only
              unfold mb_immediate_194
              refine WP.ret ?_
              exact trivial
            · skip
              have q_73 := i_rng x5
              have q_74 := i_rng x4
              have e_75 := mt i_le.mpr (show ¬ (x5 ≤ x4) from c_63)
              unfold mb_immediate_95
              unfold mb_immediate_100
              unfold mb_immediate_179
              have q_77 := i_rng x3
              refine WP.bind (ms_gives x3 (1 : Int32) F G (show x3.toInt ≤ 32 by omega)) ?_
              rintro r76 F76 G76 p76
              dsimp only
              unfold mb_immediate_186
              have q_79 := i_rng x7
              first | have e_80 : (x7 + (4 : Int32)).toInt = x7.toInt + (4) := i_addn x7 rfl (by omega) (by omega) | have e_81 := i_rng (x7 + (4 : Int32))
              refine WP.bind (ms_goesOn (x7 + (4 : Int32)) F76 G76) ?_
              rintro r78 F78 G78 p78
              dsimp only
              unfold mb_immediate_194
              refine WP.ret ?_
              exact trivial
          have l_82 : (2 : Int32).toInt = 2 := rfl
          have h_84 : ¬ (x1 = (2 : Int32)) := c_59
          have e_83 := mt i_eq.mpr (show ¬ (x1 = (2 : Int32)) from c_59)
          refine WP.ite (fun c_85 => ?_) (fun c_85 => ?_)
          · skip
            have l_86 : (3 : Int32).toInt = 3 := rfl
            have h_88 : x1 = (3 : Int32) := c_85
            have e_87 := i_eq.mp (show x1 = (3 : Int32) from c_85)
            unfold mb_immediate_105
            refine WP.ite (fun c_89 => ?_) (fun c_89 => ?_)
            · skip
              have q_90 := i_rng x5
              first | have e_91 : (x5 + (-2147483648 : Int32)).toInt = x5.toInt + (-2147483648) := i_addn x5 rfl (by omega) (by omega) | have e_92 := i_rng (x5 + (-2147483648 : Int32))
              have q_93 := i_rng x4
              first | have e_94 : (x4 + (-2147483648 : Int32)).toInt = x4.toInt + (-2147483648) := i_addn x4 rfl (by omega) (by omega) | have e_95 := i_rng (x4 + (-2147483648 : Int32))
              have e_96 := i_le.mp (show (x5 + (-2147483648 : Int32)) ≤ (x4 + (-2147483648 : Int32)) from c_89)
              unfold mb_immediate_124
              unfold mb_immediate_125
              unfold mb_immediate_179
              have q_98 := i_rng x3
              refine WP.bind (ms_gives x3 (0 : Int32) F G (show x3.toInt ≤ 32 by omega)) ?_
              rintro r97 F97 G97 p97
              dsimp only
              unfold mb_immediate_186
              have q_100 := i_rng x7
              first | have e_101 : (x7 + (4 : Int32)).toInt = x7.toInt + (4) := i_addn x7 rfl (by omega) (by omega) | have e_102 := i_rng (x7 + (4 : Int32))
              refine WP.bind (ms_goesOn (x7 + (4 : Int32)) F97 G97) ?_
              rintro r99 F99 G99 p99
              dsimp only
              unfold mb_immediate_194
              refine WP.ret ?_
              exact trivial
            · skip
              have q_103 := i_rng x5
              first | have e_104 : (x5 + (-2147483648 : Int32)).toInt = x5.toInt + (-2147483648) := i_addn x5 rfl (by omega) (by omega) | have e_105 := i_rng (x5 + (-2147483648 : Int32))
              have q_106 := i_rng x4
              first | have e_107 : (x4 + (-2147483648 : Int32)).toInt = x4.toInt + (-2147483648) := i_addn x4 rfl (by omega) (by omega) | have e_108 := i_rng (x4 + (-2147483648 : Int32))
              have e_109 := mt i_le.mpr (show ¬ ((x5 + (-2147483648 : Int32)) ≤ (x4 + (-2147483648 : Int32))) from c_89)
              unfold mb_immediate_120
              unfold mb_immediate_125
              unfold mb_immediate_179
              have q_111 := i_rng x3
              refine WP.bind (ms_gives x3 (1 : Int32) F G (show x3.toInt ≤ 32 by omega)) ?_
              rintro r110 F110 G110 p110
              dsimp only
              unfold mb_immediate_186
              have q_113 := i_rng x7
              first | have e_114 : (x7 + (4 : Int32)).toInt = x7.toInt + (4) := i_addn x7 rfl (by omega) (by omega) | have e_115 := i_rng (x7 + (4 : Int32))
              refine WP.bind (ms_goesOn (x7 + (4 : Int32)) F110 G110) ?_
              rintro r112 F112 G112 p112
              dsimp only
              unfold mb_immediate_194
              refine WP.ret ?_
              exact trivial
          have l_116 : (3 : Int32).toInt = 3 := rfl
          have h_118 : ¬ (x1 = (3 : Int32)) := c_85
          have e_117 := mt i_eq.mpr (show ¬ (x1 = (3 : Int32)) from c_85)
          refine WP.ite (fun c_119 => ?_) (fun c_119 => ?_)
          · skip
            have l_120 : (4 : Int32).toInt = 4 := rfl
            have h_122 : x1 = (4 : Int32) := c_119
            have e_121 := i_eq.mp (show x1 = (4 : Int32) from c_119)
            unfold mb_immediate_130
            unfold mb_immediate_179
            have q_124 := i_rng x3
            have q_125 := i_rng x4
            have q_126 := i_rng x5
            have q_127 := i_rng (x4 ^^^ x5)
            refine WP.bind (ms_gives x3 (x4 ^^^ x5) F G (show x3.toInt ≤ 32 by omega)) ?_
            rintro r123 F123 G123 p123
            dsimp only
            unfold mb_immediate_186
            have q_129 := i_rng x7
            first | have e_130 : (x7 + (4 : Int32)).toInt = x7.toInt + (4) := i_addn x7 rfl (by omega) (by omega) | have e_131 := i_rng (x7 + (4 : Int32))
            refine WP.bind (ms_goesOn (x7 + (4 : Int32)) F123 G123) ?_
            rintro r128 F128 G128 p128
            dsimp only
            unfold mb_immediate_194
            refine WP.ret ?_
            exact trivial
          have l_132 : (4 : Int32).toInt = 4 := rfl
          have h_134 : ¬ (x1 = (4 : Int32)) := c_119
          have e_133 := mt i_eq.mpr (show ¬ (x1 = (4 : Int32)) from c_119)
          refine WP.ite (fun c_135 => ?_) (fun c_135 => ?_)
          · skip
            have h_137 : x1 = (5 : Int32) := c_135
            have e_136 := i_eq.mp (show x1 = (5 : Int32) from c_135)
            unfold mb_immediate_140
            refine WP.ite (fun c_138 => ?_) (fun c_138 => ?_)
            · skip
              have h_140 : x2 = (0 : Int32) := c_138
              have e_139 := i_eq.mp (show x2 = (0 : Int32) from c_138)
              unfold mb_immediate_144
              unfold mb_immediate_157
              unfold mb_immediate_179
              have q_142 := i_rng x3
              have q_143 := i_rng x4
              have q_144 := i_rng x6
              have q_145 := i_rng ((x4.toUInt32 >>> (x6.toUInt32 &&& Int32.toUInt32 31)).toInt32)
              refine WP.bind (ms_gives x3 ((x4.toUInt32 >>> (x6.toUInt32 &&& Int32.toUInt32 31)).toInt32) F G (show x3.toInt ≤ 32 by omega)) ?_
              rintro r141 F141 G141 p141
              dsimp only
              unfold mb_immediate_186
              have q_147 := i_rng x7
              first | have e_148 : (x7 + (4 : Int32)).toInt = x7.toInt + (4) := i_addn x7 rfl (by omega) (by omega) | have e_149 := i_rng (x7 + (4 : Int32))
              refine WP.bind (ms_goesOn (x7 + (4 : Int32)) F141 G141) ?_
              rintro r146 F146 G146 p146
              dsimp only
              unfold mb_immediate_194
              refine WP.ret ?_
              exact trivial
            · skip
              have h_151 : ¬ (x2 = (0 : Int32)) := c_138
              have e_150 := mt i_eq.mpr (show ¬ (x2 = (0 : Int32)) from c_138)
              unfold mb_immediate_152
              unfold mb_immediate_157
              unfold mb_immediate_179
              have q_153 := i_rng x3
              have q_154 := i_rng x4
              have q_155 := i_rng x6
              have q_156 := i_rng (x4 >>> (x6 &&& 31))
              refine WP.bind (ms_gives x3 (x4 >>> (x6 &&& 31)) F G (show x3.toInt ≤ 32 by omega)) ?_
              rintro r152 F152 G152 p152
              dsimp only
              unfold mb_immediate_186
              have q_158 := i_rng x7
              first | have e_159 : (x7 + (4 : Int32)).toInt = x7.toInt + (4) := i_addn x7 rfl (by omega) (by omega) | have e_160 := i_rng (x7 + (4 : Int32))
              refine WP.bind (ms_goesOn (x7 + (4 : Int32)) F152 G152) ?_
              rintro r157 F157 G157 p157
              dsimp only
              unfold mb_immediate_194
              refine WP.ret ?_
              exact trivial
          have h_162 : ¬ (x1 = (5 : Int32)) := c_135
          have e_161 := mt i_eq.mpr (show ¬ (x1 = (5 : Int32)) from c_135)
          unfold mb_immediate_162
          unfold mb_immediate_179
          have q_164 := i_rng x3
          have q_165 := i_rng x4
          have q_166 := i_rng x5
          have q_167 := i_rng (x4 ||| x5)
          refine WP.bind (ms_gives x3 (x4 ||| x5) F G (show x3.toInt ≤ 32 by omega)) ?_
          rintro r163 F163 G163 p163
          dsimp only
          unfold mb_immediate_186
          have q_169 := i_rng x7
          first | have e_170 : (x7 + (4 : Int32)).toInt = x7.toInt + (4) := i_addn x7 rfl (by omega) (by omega) | have e_171 := i_rng (x7 + (4 : Int32))
          refine WP.bind (ms_goesOn (x7 + (4 : Int32)) F163 G163) ?_
          rintro r168 F168 G168 p168
          dsimp only
          unfold mb_immediate_194
          refine WP.ret ?_
          exact trivial
        · skip
          have h_173 : ¬ (x2 = (0 : Int32)) := c_15
          have e_172 := mt i_eq.mpr (show ¬ (x2 = (0 : Int32)) from c_15)
          unfold mb_immediate_18
          refine WP.ite (fun c_174 => ?_) (fun c_174 => ?_)
          · skip
            have l_175 : (32 : Int32).toInt = 32 := rfl
            have h_177 : x2 = (32 : Int32) := c_174
            have e_176 := i_eq.mp (show x2 = (32 : Int32) from c_174)
            unfold mb_immediate_26
            refine WP.ite (fun c_178 => ?_) (fun c_178 => ?_)
            · have e_179 : x1.toInt < 0 ∨ 6 < x1.toInt := c_178
              unfold mb_immediate_172
              unfold mb_immediate_179
              have q_181 := i_rng x3
              have q_182 := i_rng x4
              have q_183 := i_rng x5
              have q_184 := i_rng (x4 &&& x5)
              refine WP.bind (ms_gives x3 (x4 &&& x5) F G (show x3.toInt ≤ 32 by omega)) ?_
              rintro r180 F180 G180 p180
              dsimp only
              unfold mb_immediate_186
              have q_186 := i_rng x7
              first | have e_187 : (x7 + (4 : Int32)).toInt = x7.toInt + (4) := i_addn x7 rfl (by omega) (by omega) | have e_188 := i_rng (x7 + (4 : Int32))
              refine WP.bind (ms_goesOn (x7 + (4 : Int32)) F180 G180) ?_
              rintro r185 F185 G185 p185
              dsimp only
              unfold mb_immediate_194
              refine WP.ret ?_
              exact trivial
            have e_189 : ¬ (x1.toInt < 0 ∨ 6 < x1.toInt) := c_178
            refine WP.ite (fun c_190 => ?_) (fun c_190 => ?_)
            · skip
              have h_192 : x1 = (0 : Int32) := c_190
              have e_191 := i_eq.mp (show x1 = (0 : Int32) from c_190)
              unfold mb_immediate_68
              unfold mb_immediate_179
              have q_194 := i_rng x3
              have q_195 := i_rng x4
              have q_196 := i_rng x5
              first | have e_197 : (x4 + x5).toInt = x4.toInt + (x5.toInt) := i_addn x4 rfl (by omega) (by omega) | have e_198 := i_rng (x4 + x5)
              refine WP.bind (ms_gives x3 (x4 + x5) F G (show x3.toInt ≤ 32 by omega)) ?_
              rintro r193 F193 G193 p193
              dsimp only
              unfold mb_immediate_186
              have q_200 := i_rng x7
              first | have e_201 : (x7 + (4 : Int32)).toInt = x7.toInt + (4) := i_addn x7 rfl (by omega) (by omega) | have e_202 := i_rng (x7 + (4 : Int32))
              refine WP.bind (ms_goesOn (x7 + (4 : Int32)) F193 G193) ?_
              rintro r199 F199 G199 p199
              dsimp only
              unfold mb_immediate_194
              refine WP.ret ?_
              exact trivial
            have h_204 : ¬ (x1 = (0 : Int32)) := c_190
            have e_203 := mt i_eq.mpr (show ¬ (x1 = (0 : Int32)) from c_190)
            refine WP.ite (fun c_205 => ?_) (fun c_205 => ?_)
            · skip
              have h_207 : x1 = (1 : Int32) := c_205
              have e_206 := i_eq.mp (show x1 = (1 : Int32) from c_205)
              unfold mb_immediate_78
              unfold mb_immediate_179
              have q_209 := i_rng x3
              have q_210 := i_rng x4
              have q_211 := i_rng x6
              have q_212 := i_rng (x4 <<< (x6 &&& 31))
              refine WP.bind (ms_gives x3 (x4 <<< (x6 &&& 31)) F G (show x3.toInt ≤ 32 by omega)) ?_
              rintro r208 F208 G208 p208
              dsimp only
              unfold mb_immediate_186
              have q_214 := i_rng x7
              first | have e_215 : (x7 + (4 : Int32)).toInt = x7.toInt + (4) := i_addn x7 rfl (by omega) (by omega) | have e_216 := i_rng (x7 + (4 : Int32))
              refine WP.bind (ms_goesOn (x7 + (4 : Int32)) F208 G208) ?_
              rintro r213 F213 G213 p213
              dsimp only
              unfold mb_immediate_194
              refine WP.ret ?_
              exact trivial
            have h_218 : ¬ (x1 = (1 : Int32)) := c_205
            have e_217 := mt i_eq.mpr (show ¬ (x1 = (1 : Int32)) from c_205)
            refine WP.ite (fun c_219 => ?_) (fun c_219 => ?_)
            · skip
              have l_220 : (2 : Int32).toInt = 2 := rfl
              have h_222 : x1 = (2 : Int32) := c_219
              have e_221 := i_eq.mp (show x1 = (2 : Int32) from c_219)
              unfold mb_immediate_88
              refine WP.ite (fun c_223 => ?_) (fun c_223 => ?_)
              · skip
                have q_224 := i_rng x5
                have q_225 := i_rng x4
                have e_226 := i_le.mp (show x5 ≤ x4 from c_223)
                unfold mb_immediate_99
                unfold mb_immediate_100
                unfold mb_immediate_179
                have q_228 := i_rng x3
                refine WP.bind (ms_gives x3 (0 : Int32) F G (show x3.toInt ≤ 32 by omega)) ?_
                rintro r227 F227 G227 p227
                dsimp only
                unfold mb_immediate_186
                have q_230 := i_rng x7
                first | have e_231 : (x7 + (4 : Int32)).toInt = x7.toInt + (4) := i_addn x7 rfl (by omega) (by omega) | have e_232 := i_rng (x7 + (4 : Int32))
                refine WP.bind (ms_goesOn (x7 + (4 : Int32)) F227 G227) ?_
                rintro r229 F229 G229 p229
                dsimp only
                unfold mb_immediate_194
                refine WP.ret ?_
                exact trivial
              · skip
                have q_233 := i_rng x5
                have q_234 := i_rng x4
                have e_235 := mt i_le.mpr (show ¬ (x5 ≤ x4) from c_223)
                unfold mb_immediate_95
                unfold mb_immediate_100
                unfold mb_immediate_179
                have q_237 := i_rng x3
                refine WP.bind (ms_gives x3 (1 : Int32) F G (show x3.toInt ≤ 32 by omega)) ?_
                rintro r236 F236 G236 p236
                dsimp only
                unfold mb_immediate_186
                have q_239 := i_rng x7
                first | have e_240 : (x7 + (4 : Int32)).toInt = x7.toInt + (4) := i_addn x7 rfl (by omega) (by omega) | have e_241 := i_rng (x7 + (4 : Int32))
                refine WP.bind (ms_goesOn (x7 + (4 : Int32)) F236 G236) ?_
                rintro r238 F238 G238 p238
                dsimp only
                unfold mb_immediate_194
                refine WP.ret ?_
                exact trivial
            have l_242 : (2 : Int32).toInt = 2 := rfl
            have h_244 : ¬ (x1 = (2 : Int32)) := c_219
            have e_243 := mt i_eq.mpr (show ¬ (x1 = (2 : Int32)) from c_219)
            refine WP.ite (fun c_245 => ?_) (fun c_245 => ?_)
            · skip
              have l_246 : (3 : Int32).toInt = 3 := rfl
              have h_248 : x1 = (3 : Int32) := c_245
              have e_247 := i_eq.mp (show x1 = (3 : Int32) from c_245)
              unfold mb_immediate_105
              refine WP.ite (fun c_249 => ?_) (fun c_249 => ?_)
              · skip
                have q_250 := i_rng x5
                first | have e_251 : (x5 + (-2147483648 : Int32)).toInt = x5.toInt + (-2147483648) := i_addn x5 rfl (by omega) (by omega) | have e_252 := i_rng (x5 + (-2147483648 : Int32))
                have q_253 := i_rng x4
                first | have e_254 : (x4 + (-2147483648 : Int32)).toInt = x4.toInt + (-2147483648) := i_addn x4 rfl (by omega) (by omega) | have e_255 := i_rng (x4 + (-2147483648 : Int32))
                have e_256 := i_le.mp (show (x5 + (-2147483648 : Int32)) ≤ (x4 + (-2147483648 : Int32)) from c_249)
                unfold mb_immediate_124
                unfold mb_immediate_125
                unfold mb_immediate_179
                have q_258 := i_rng x3
                refine WP.bind (ms_gives x3 (0 : Int32) F G (show x3.toInt ≤ 32 by omega)) ?_
                rintro r257 F257 G257 p257
                dsimp only
                unfold mb_immediate_186
                have q_260 := i_rng x7
                first | have e_261 : (x7 + (4 : Int32)).toInt = x7.toInt + (4) := i_addn x7 rfl (by omega) (by omega) | have e_262 := i_rng (x7 + (4 : Int32))
                refine WP.bind (ms_goesOn (x7 + (4 : Int32)) F257 G257) ?_
                rintro r259 F259 G259 p259
                dsimp only
                unfold mb_immediate_194
                refine WP.ret ?_
                exact trivial
              · skip
                have q_263 := i_rng x5
                first | have e_264 : (x5 + (-2147483648 : Int32)).toInt = x5.toInt + (-2147483648) := i_addn x5 rfl (by omega) (by omega) | have e_265 := i_rng (x5 + (-2147483648 : Int32))
                have q_266 := i_rng x4
                first | have e_267 : (x4 + (-2147483648 : Int32)).toInt = x4.toInt + (-2147483648) := i_addn x4 rfl (by omega) (by omega) | have e_268 := i_rng (x4 + (-2147483648 : Int32))
                have e_269 := mt i_le.mpr (show ¬ ((x5 + (-2147483648 : Int32)) ≤ (x4 + (-2147483648 : Int32))) from c_249)
                unfold mb_immediate_120
                unfold mb_immediate_125
                unfold mb_immediate_179
                have q_271 := i_rng x3
                refine WP.bind (ms_gives x3 (1 : Int32) F G (show x3.toInt ≤ 32 by omega)) ?_
                rintro r270 F270 G270 p270
                dsimp only
                unfold mb_immediate_186
                have q_273 := i_rng x7
                first | have e_274 : (x7 + (4 : Int32)).toInt = x7.toInt + (4) := i_addn x7 rfl (by omega) (by omega) | have e_275 := i_rng (x7 + (4 : Int32))
                refine WP.bind (ms_goesOn (x7 + (4 : Int32)) F270 G270) ?_
                rintro r272 F272 G272 p272
                dsimp only
                unfold mb_immediate_194
                refine WP.ret ?_
                exact trivial
            have l_276 : (3 : Int32).toInt = 3 := rfl
            have h_278 : ¬ (x1 = (3 : Int32)) := c_245
            have e_277 := mt i_eq.mpr (show ¬ (x1 = (3 : Int32)) from c_245)
            refine WP.ite (fun c_279 => ?_) (fun c_279 => ?_)
            · skip
              have l_280 : (4 : Int32).toInt = 4 := rfl
              have h_282 : x1 = (4 : Int32) := c_279
              have e_281 := i_eq.mp (show x1 = (4 : Int32) from c_279)
              unfold mb_immediate_130
              unfold mb_immediate_179
              have q_284 := i_rng x3
              have q_285 := i_rng x4
              have q_286 := i_rng x5
              have q_287 := i_rng (x4 ^^^ x5)
              refine WP.bind (ms_gives x3 (x4 ^^^ x5) F G (show x3.toInt ≤ 32 by omega)) ?_
              rintro r283 F283 G283 p283
              dsimp only
              unfold mb_immediate_186
              have q_289 := i_rng x7
              first | have e_290 : (x7 + (4 : Int32)).toInt = x7.toInt + (4) := i_addn x7 rfl (by omega) (by omega) | have e_291 := i_rng (x7 + (4 : Int32))
              refine WP.bind (ms_goesOn (x7 + (4 : Int32)) F283 G283) ?_
              rintro r288 F288 G288 p288
              dsimp only
              unfold mb_immediate_194
              refine WP.ret ?_
              exact trivial
            have l_292 : (4 : Int32).toInt = 4 := rfl
            have h_294 : ¬ (x1 = (4 : Int32)) := c_279
            have e_293 := mt i_eq.mpr (show ¬ (x1 = (4 : Int32)) from c_279)
            refine WP.ite (fun c_295 => ?_) (fun c_295 => ?_)
            · skip
              have h_297 : x1 = (5 : Int32) := c_295
              have e_296 := i_eq.mp (show x1 = (5 : Int32) from c_295)
              unfold mb_immediate_140
              refine WP.ite (fun c_298 => ?_) (fun c_298 => ?_)
              · skip
                have h_300 : x2 = (0 : Int32) := c_298
                have e_299 := i_eq.mp (show x2 = (0 : Int32) from c_298)
                unfold mb_immediate_144
                unfold mb_immediate_157
                unfold mb_immediate_179
                have q_302 := i_rng x3
                have q_303 := i_rng x4
                have q_304 := i_rng x6
                have q_305 := i_rng ((x4.toUInt32 >>> (x6.toUInt32 &&& Int32.toUInt32 31)).toInt32)
                refine WP.bind (ms_gives x3 ((x4.toUInt32 >>> (x6.toUInt32 &&& Int32.toUInt32 31)).toInt32) F G (show x3.toInt ≤ 32 by omega)) ?_
                rintro r301 F301 G301 p301
                dsimp only
                unfold mb_immediate_186
                have q_307 := i_rng x7
                first | have e_308 : (x7 + (4 : Int32)).toInt = x7.toInt + (4) := i_addn x7 rfl (by omega) (by omega) | have e_309 := i_rng (x7 + (4 : Int32))
                refine WP.bind (ms_goesOn (x7 + (4 : Int32)) F301 G301) ?_
                rintro r306 F306 G306 p306
                dsimp only
                unfold mb_immediate_194
                refine WP.ret ?_
                exact trivial
              · skip
                have h_311 : ¬ (x2 = (0 : Int32)) := c_298
                have e_310 := mt i_eq.mpr (show ¬ (x2 = (0 : Int32)) from c_298)
                unfold mb_immediate_152
                unfold mb_immediate_157
                unfold mb_immediate_179
                have q_313 := i_rng x3
                have q_314 := i_rng x4
                have q_315 := i_rng x6
                have q_316 := i_rng (x4 >>> (x6 &&& 31))
                refine WP.bind (ms_gives x3 (x4 >>> (x6 &&& 31)) F G (show x3.toInt ≤ 32 by omega)) ?_
                rintro r312 F312 G312 p312
                dsimp only
                unfold mb_immediate_186
                have q_318 := i_rng x7
                first | have e_319 : (x7 + (4 : Int32)).toInt = x7.toInt + (4) := i_addn x7 rfl (by omega) (by omega) | have e_320 := i_rng (x7 + (4 : Int32))
                refine WP.bind (ms_goesOn (x7 + (4 : Int32)) F312 G312) ?_
                rintro r317 F317 G317 p317
                dsimp only
                unfold mb_immediate_194
                refine WP.ret ?_
                exact trivial
            have h_322 : ¬ (x1 = (5 : Int32)) := c_295
            have e_321 := mt i_eq.mpr (show ¬ (x1 = (5 : Int32)) from c_295)
            unfold mb_immediate_162
            unfold mb_immediate_179
            have q_324 := i_rng x3
            have q_325 := i_rng x4
            have q_326 := i_rng x5
            have q_327 := i_rng (x4 ||| x5)
            refine WP.bind (ms_gives x3 (x4 ||| x5) F G (show x3.toInt ≤ 32 by omega)) ?_
            rintro r323 F323 G323 p323
            dsimp only
            unfold mb_immediate_186
            have q_329 := i_rng x7
            first | have e_330 : (x7 + (4 : Int32)).toInt = x7.toInt + (4) := i_addn x7 rfl (by omega) (by omega) | have e_331 := i_rng (x7 + (4 : Int32))
            refine WP.bind (ms_goesOn (x7 + (4 : Int32)) F323 G323) ?_
            rintro r328 F328 G328 p328
            dsimp only
            unfold mb_immediate_194
            refine WP.ret ?_
            exact trivial
          · skip
            have l_332 : (32 : Int32).toInt = 32 := rfl
            have h_334 : ¬ (x2 = (32 : Int32)) := c_174
            have e_333 := mt i_eq.mpr (show ¬ (x2 = (32 : Int32)) from c_174)
            unfold mb_immediate_24
            refine WP.ret ?_
            exact trivial
      · skip
        have l_335 : (5 : Int32).toInt = 5 := rfl
        have h_337 : ¬ (x1 = (5 : Int32)) := c_11
        have e_336 := mt i_eq.mpr (show ¬ (x1 = (5 : Int32)) from c_11)
        unfold mb_immediate_26
        refine WP.ite (fun c_338 => ?_) (fun c_338 => ?_)
        · have e_339 : x1.toInt < 0 ∨ 6 < x1.toInt := c_338
          unfold mb_immediate_172
          unfold mb_immediate_179
          have q_341 := i_rng x3
          have q_342 := i_rng x4
          have q_343 := i_rng x5
          have q_344 := i_rng (x4 &&& x5)
          refine WP.bind (ms_gives x3 (x4 &&& x5) F G (show x3.toInt ≤ 32 by omega)) ?_
          rintro r340 F340 G340 p340
          dsimp only
          unfold mb_immediate_186
          have q_346 := i_rng x7
          first | have e_347 : (x7 + (4 : Int32)).toInt = x7.toInt + (4) := i_addn x7 rfl (by omega) (by omega) | have e_348 := i_rng (x7 + (4 : Int32))
          refine WP.bind (ms_goesOn (x7 + (4 : Int32)) F340 G340) ?_
          rintro r345 F345 G345 p345
          dsimp only
          unfold mb_immediate_194
          refine WP.ret ?_
          exact trivial
        have e_349 : ¬ (x1.toInt < 0 ∨ 6 < x1.toInt) := c_338
        refine WP.ite (fun c_350 => ?_) (fun c_350 => ?_)
        · skip
          have h_352 : x1 = (0 : Int32) := c_350
          have e_351 := i_eq.mp (show x1 = (0 : Int32) from c_350)
          unfold mb_immediate_68
          unfold mb_immediate_179
          have q_354 := i_rng x3
          have q_355 := i_rng x4
          have q_356 := i_rng x5
          first | have e_357 : (x4 + x5).toInt = x4.toInt + (x5.toInt) := i_addn x4 rfl (by omega) (by omega) | have e_358 := i_rng (x4 + x5)
          refine WP.bind (ms_gives x3 (x4 + x5) F G (show x3.toInt ≤ 32 by omega)) ?_
          rintro r353 F353 G353 p353
          dsimp only
          unfold mb_immediate_186
          have q_360 := i_rng x7
          first | have e_361 : (x7 + (4 : Int32)).toInt = x7.toInt + (4) := i_addn x7 rfl (by omega) (by omega) | have e_362 := i_rng (x7 + (4 : Int32))
          refine WP.bind (ms_goesOn (x7 + (4 : Int32)) F353 G353) ?_
          rintro r359 F359 G359 p359
          dsimp only
          unfold mb_immediate_194
          refine WP.ret ?_
          exact trivial
        have h_364 : ¬ (x1 = (0 : Int32)) := c_350
        have e_363 := mt i_eq.mpr (show ¬ (x1 = (0 : Int32)) from c_350)
        refine WP.ite (fun c_365 => ?_) (fun c_365 => ?_)
        · skip
          have h_367 : x1 = (1 : Int32) := c_365
          have e_366 := i_eq.mp (show x1 = (1 : Int32) from c_365)
          unfold mb_immediate_78
          unfold mb_immediate_179
          have q_369 := i_rng x3
          have q_370 := i_rng x4
          have q_371 := i_rng x6
          have q_372 := i_rng (x4 <<< (x6 &&& 31))
          refine WP.bind (ms_gives x3 (x4 <<< (x6 &&& 31)) F G (show x3.toInt ≤ 32 by omega)) ?_
          rintro r368 F368 G368 p368
          dsimp only
          unfold mb_immediate_186
          have q_374 := i_rng x7
          first | have e_375 : (x7 + (4 : Int32)).toInt = x7.toInt + (4) := i_addn x7 rfl (by omega) (by omega) | have e_376 := i_rng (x7 + (4 : Int32))
          refine WP.bind (ms_goesOn (x7 + (4 : Int32)) F368 G368) ?_
          rintro r373 F373 G373 p373
          dsimp only
          unfold mb_immediate_194
          refine WP.ret ?_
          exact trivial
        have h_378 : ¬ (x1 = (1 : Int32)) := c_365
        have e_377 := mt i_eq.mpr (show ¬ (x1 = (1 : Int32)) from c_365)
        refine WP.ite (fun c_379 => ?_) (fun c_379 => ?_)
        · skip
          have l_380 : (2 : Int32).toInt = 2 := rfl
          have h_382 : x1 = (2 : Int32) := c_379
          have e_381 := i_eq.mp (show x1 = (2 : Int32) from c_379)
          unfold mb_immediate_88
          refine WP.ite (fun c_383 => ?_) (fun c_383 => ?_)
          · skip
            have q_384 := i_rng x5
            have q_385 := i_rng x4
            have e_386 := i_le.mp (show x5 ≤ x4 from c_383)
            unfold mb_immediate_99
            unfold mb_immediate_100
            unfold mb_immediate_179
            have q_388 := i_rng x3
            refine WP.bind (ms_gives x3 (0 : Int32) F G (show x3.toInt ≤ 32 by omega)) ?_
            rintro r387 F387 G387 p387
            dsimp only
            unfold mb_immediate_186
            have q_390 := i_rng x7
            first | have e_391 : (x7 + (4 : Int32)).toInt = x7.toInt + (4) := i_addn x7 rfl (by omega) (by omega) | have e_392 := i_rng (x7 + (4 : Int32))
            refine WP.bind (ms_goesOn (x7 + (4 : Int32)) F387 G387) ?_
            rintro r389 F389 G389 p389
            dsimp only
            unfold mb_immediate_194
            refine WP.ret ?_
            exact trivial
          · skip
            have q_393 := i_rng x5
            have q_394 := i_rng x4
            have e_395 := mt i_le.mpr (show ¬ (x5 ≤ x4) from c_383)
            unfold mb_immediate_95
            unfold mb_immediate_100
            unfold mb_immediate_179
            have q_397 := i_rng x3
            refine WP.bind (ms_gives x3 (1 : Int32) F G (show x3.toInt ≤ 32 by omega)) ?_
            rintro r396 F396 G396 p396
            dsimp only
            unfold mb_immediate_186
            have q_399 := i_rng x7
            first | have e_400 : (x7 + (4 : Int32)).toInt = x7.toInt + (4) := i_addn x7 rfl (by omega) (by omega) | have e_401 := i_rng (x7 + (4 : Int32))
            refine WP.bind (ms_goesOn (x7 + (4 : Int32)) F396 G396) ?_
            rintro r398 F398 G398 p398
            dsimp only
            unfold mb_immediate_194
            refine WP.ret ?_
            exact trivial
        have l_402 : (2 : Int32).toInt = 2 := rfl
        have h_404 : ¬ (x1 = (2 : Int32)) := c_379
        have e_403 := mt i_eq.mpr (show ¬ (x1 = (2 : Int32)) from c_379)
        refine WP.ite (fun c_405 => ?_) (fun c_405 => ?_)
        · skip
          have l_406 : (3 : Int32).toInt = 3 := rfl
          have h_408 : x1 = (3 : Int32) := c_405
          have e_407 := i_eq.mp (show x1 = (3 : Int32) from c_405)
          unfold mb_immediate_105
          refine WP.ite (fun c_409 => ?_) (fun c_409 => ?_)
          · skip
            have q_410 := i_rng x5
            first | have e_411 : (x5 + (-2147483648 : Int32)).toInt = x5.toInt + (-2147483648) := i_addn x5 rfl (by omega) (by omega) | have e_412 := i_rng (x5 + (-2147483648 : Int32))
            have q_413 := i_rng x4
            first | have e_414 : (x4 + (-2147483648 : Int32)).toInt = x4.toInt + (-2147483648) := i_addn x4 rfl (by omega) (by omega) | have e_415 := i_rng (x4 + (-2147483648 : Int32))
            have e_416 := i_le.mp (show (x5 + (-2147483648 : Int32)) ≤ (x4 + (-2147483648 : Int32)) from c_409)
            unfold mb_immediate_124
            unfold mb_immediate_125
            unfold mb_immediate_179
            have q_418 := i_rng x3
            refine WP.bind (ms_gives x3 (0 : Int32) F G (show x3.toInt ≤ 32 by omega)) ?_
            rintro r417 F417 G417 p417
            dsimp only
            unfold mb_immediate_186
            have q_420 := i_rng x7
            first | have e_421 : (x7 + (4 : Int32)).toInt = x7.toInt + (4) := i_addn x7 rfl (by omega) (by omega) | have e_422 := i_rng (x7 + (4 : Int32))
            refine WP.bind (ms_goesOn (x7 + (4 : Int32)) F417 G417) ?_
            rintro r419 F419 G419 p419
            dsimp only
            unfold mb_immediate_194
            refine WP.ret ?_
            exact trivial
          · skip
            have q_423 := i_rng x5
            first | have e_424 : (x5 + (-2147483648 : Int32)).toInt = x5.toInt + (-2147483648) := i_addn x5 rfl (by omega) (by omega) | have e_425 := i_rng (x5 + (-2147483648 : Int32))
            have q_426 := i_rng x4
            first | have e_427 : (x4 + (-2147483648 : Int32)).toInt = x4.toInt + (-2147483648) := i_addn x4 rfl (by omega) (by omega) | have e_428 := i_rng (x4 + (-2147483648 : Int32))
            have e_429 := mt i_le.mpr (show ¬ ((x5 + (-2147483648 : Int32)) ≤ (x4 + (-2147483648 : Int32))) from c_409)
            unfold mb_immediate_120
            unfold mb_immediate_125
            unfold mb_immediate_179
            have q_431 := i_rng x3
            refine WP.bind (ms_gives x3 (1 : Int32) F G (show x3.toInt ≤ 32 by omega)) ?_
            rintro r430 F430 G430 p430
            dsimp only
            unfold mb_immediate_186
            have q_433 := i_rng x7
            first | have e_434 : (x7 + (4 : Int32)).toInt = x7.toInt + (4) := i_addn x7 rfl (by omega) (by omega) | have e_435 := i_rng (x7 + (4 : Int32))
            refine WP.bind (ms_goesOn (x7 + (4 : Int32)) F430 G430) ?_
            rintro r432 F432 G432 p432
            dsimp only
            unfold mb_immediate_194
            refine WP.ret ?_
            exact trivial
        have l_436 : (3 : Int32).toInt = 3 := rfl
        have h_438 : ¬ (x1 = (3 : Int32)) := c_405
        have e_437 := mt i_eq.mpr (show ¬ (x1 = (3 : Int32)) from c_405)
        refine WP.ite (fun c_439 => ?_) (fun c_439 => ?_)
        · skip
          have l_440 : (4 : Int32).toInt = 4 := rfl
          have h_442 : x1 = (4 : Int32) := c_439
          have e_441 := i_eq.mp (show x1 = (4 : Int32) from c_439)
          unfold mb_immediate_130
          unfold mb_immediate_179
          have q_444 := i_rng x3
          have q_445 := i_rng x4
          have q_446 := i_rng x5
          have q_447 := i_rng (x4 ^^^ x5)
          refine WP.bind (ms_gives x3 (x4 ^^^ x5) F G (show x3.toInt ≤ 32 by omega)) ?_
          rintro r443 F443 G443 p443
          dsimp only
          unfold mb_immediate_186
          have q_449 := i_rng x7
          first | have e_450 : (x7 + (4 : Int32)).toInt = x7.toInt + (4) := i_addn x7 rfl (by omega) (by omega) | have e_451 := i_rng (x7 + (4 : Int32))
          refine WP.bind (ms_goesOn (x7 + (4 : Int32)) F443 G443) ?_
          rintro r448 F448 G448 p448
          dsimp only
          unfold mb_immediate_194
          refine WP.ret ?_
          exact trivial
        have l_452 : (4 : Int32).toInt = 4 := rfl
        have h_454 : ¬ (x1 = (4 : Int32)) := c_439
        have e_453 := mt i_eq.mpr (show ¬ (x1 = (4 : Int32)) from c_439)
        refine WP.ite (fun c_455 => ?_) (fun c_455 => ?_)
        · skip
          have h_457 : x1 = (5 : Int32) := c_455
          have e_456 := i_eq.mp (show x1 = (5 : Int32) from c_455)
          unfold mb_immediate_140
          refine WP.ite (fun c_458 => ?_) (fun c_458 => ?_)
          · skip
            have h_460 : x2 = (0 : Int32) := c_458
            have e_459 := i_eq.mp (show x2 = (0 : Int32) from c_458)
            unfold mb_immediate_144
            unfold mb_immediate_157
            unfold mb_immediate_179
            have q_462 := i_rng x3
            have q_463 := i_rng x4
            have q_464 := i_rng x6
            have q_465 := i_rng ((x4.toUInt32 >>> (x6.toUInt32 &&& Int32.toUInt32 31)).toInt32)
            refine WP.bind (ms_gives x3 ((x4.toUInt32 >>> (x6.toUInt32 &&& Int32.toUInt32 31)).toInt32) F G (show x3.toInt ≤ 32 by omega)) ?_
            rintro r461 F461 G461 p461
            dsimp only
            unfold mb_immediate_186
            have q_467 := i_rng x7
            first | have e_468 : (x7 + (4 : Int32)).toInt = x7.toInt + (4) := i_addn x7 rfl (by omega) (by omega) | have e_469 := i_rng (x7 + (4 : Int32))
            refine WP.bind (ms_goesOn (x7 + (4 : Int32)) F461 G461) ?_
            rintro r466 F466 G466 p466
            dsimp only
            unfold mb_immediate_194
            refine WP.ret ?_
            exact trivial
          · skip
            have h_471 : ¬ (x2 = (0 : Int32)) := c_458
            have e_470 := mt i_eq.mpr (show ¬ (x2 = (0 : Int32)) from c_458)
            unfold mb_immediate_152
            unfold mb_immediate_157
            unfold mb_immediate_179
            have q_473 := i_rng x3
            have q_474 := i_rng x4
            have q_475 := i_rng x6
            have q_476 := i_rng (x4 >>> (x6 &&& 31))
            refine WP.bind (ms_gives x3 (x4 >>> (x6 &&& 31)) F G (show x3.toInt ≤ 32 by omega)) ?_
            rintro r472 F472 G472 p472
            dsimp only
            unfold mb_immediate_186
            have q_478 := i_rng x7
            first | have e_479 : (x7 + (4 : Int32)).toInt = x7.toInt + (4) := i_addn x7 rfl (by omega) (by omega) | have e_480 := i_rng (x7 + (4 : Int32))
            refine WP.bind (ms_goesOn (x7 + (4 : Int32)) F472 G472) ?_
            rintro r477 F477 G477 p477
            dsimp only
            unfold mb_immediate_194
            refine WP.ret ?_
            exact trivial
        have h_482 : ¬ (x1 = (5 : Int32)) := c_455
        have e_481 := mt i_eq.mpr (show ¬ (x1 = (5 : Int32)) from c_455)
        unfold mb_immediate_162
        unfold mb_immediate_179
        have q_484 := i_rng x3
        have q_485 := i_rng x4
        have q_486 := i_rng x5
        have q_487 := i_rng (x4 ||| x5)
        refine WP.bind (ms_gives x3 (x4 ||| x5) F G (show x3.toInt ≤ 32 by omega)) ?_
        rintro r483 F483 G483 p483
        dsimp only
        unfold mb_immediate_186
        have q_489 := i_rng x7
        first | have e_490 : (x7 + (4 : Int32)).toInt = x7.toInt + (4) := i_addn x7 rfl (by omega) (by omega) | have e_491 := i_rng (x7 + (4 : Int32))
        refine WP.bind (ms_goesOn (x7 + (4 : Int32)) F483 G483) ?_
        rintro r488 F488 G488 p488
        dsimp only
        unfold mb_immediate_194
        refine WP.ret ?_
        exact trivial
    · skip
      have q_492 := i_rng x2
      have l_493 : (0 : Int32).toInt = 0 := rfl
      have h_495 : ¬ (x2 = (0 : Int32)) := c_6
      have e_494 := mt i_eq.mpr (show ¬ (x2 = (0 : Int32)) from c_6)
      unfold mb_immediate_24
      refine WP.ret ?_
      exact trivial
  · skip
    have q_496 := i_rng x1
    have l_497 : (1 : Int32).toInt = 1 := rfl
    have h_499 : ¬ (x1 = (1 : Int32)) := c_1
    have e_498 := mt i_eq.mpr (show ¬ (x1 = (1 : Int32)) from c_1)
    unfold mb_immediate_9
    refine WP.ite (fun c_500 => ?_) (fun c_500 => ?_)
    · skip
      have l_501 : (5 : Int32).toInt = 5 := rfl
      have h_503 : x1 = (5 : Int32) := c_500
      have e_502 := i_eq.mp (show x1 = (5 : Int32) from c_500)
      unfold mb_immediate_14
      refine WP.ite (fun c_504 => ?_) (fun c_504 => ?_)
      · skip
        have q_505 := i_rng x2
        have l_506 : (0 : Int32).toInt = 0 := rfl
        have h_508 : x2 = (0 : Int32) := c_504
        have e_507 := i_eq.mp (show x2 = (0 : Int32) from c_504)
        unfold mb_immediate_26
        refine WP.ite (fun c_509 => ?_) (fun c_509 => ?_)
        · have e_510 : x1.toInt < 0 ∨ 6 < x1.toInt := c_509
          unfold mb_immediate_172
          unfold mb_immediate_179
          have q_512 := i_rng x3
          have q_513 := i_rng x4
          have q_514 := i_rng x5
          have q_515 := i_rng (x4 &&& x5)
          refine WP.bind (ms_gives x3 (x4 &&& x5) F G (show x3.toInt ≤ 32 by omega)) ?_
          rintro r511 F511 G511 p511
          dsimp only
          unfold mb_immediate_186
          have q_517 := i_rng x7
          first | have e_518 : (x7 + (4 : Int32)).toInt = x7.toInt + (4) := i_addn x7 rfl (by omega) (by omega) | have e_519 := i_rng (x7 + (4 : Int32))
          refine WP.bind (ms_goesOn (x7 + (4 : Int32)) F511 G511) ?_
          rintro r516 F516 G516 p516
          dsimp only
          unfold mb_immediate_194
          refine WP.ret ?_
          exact trivial
        have e_520 : ¬ (x1.toInt < 0 ∨ 6 < x1.toInt) := c_509
        refine WP.ite (fun c_521 => ?_) (fun c_521 => ?_)
        · skip
          have h_523 : x1 = (0 : Int32) := c_521
          have e_522 := i_eq.mp (show x1 = (0 : Int32) from c_521)
          unfold mb_immediate_68
          unfold mb_immediate_179
          have q_525 := i_rng x3
          have q_526 := i_rng x4
          have q_527 := i_rng x5
          first | have e_528 : (x4 + x5).toInt = x4.toInt + (x5.toInt) := i_addn x4 rfl (by omega) (by omega) | have e_529 := i_rng (x4 + x5)
          refine WP.bind (ms_gives x3 (x4 + x5) F G (show x3.toInt ≤ 32 by omega)) ?_
          rintro r524 F524 G524 p524
          dsimp only
          unfold mb_immediate_186
          have q_531 := i_rng x7
          first | have e_532 : (x7 + (4 : Int32)).toInt = x7.toInt + (4) := i_addn x7 rfl (by omega) (by omega) | have e_533 := i_rng (x7 + (4 : Int32))
          refine WP.bind (ms_goesOn (x7 + (4 : Int32)) F524 G524) ?_
          rintro r530 F530 G530 p530
          dsimp only
          unfold mb_immediate_194
          refine WP.ret ?_
          exact trivial
        have h_535 : ¬ (x1 = (0 : Int32)) := c_521
        have e_534 := mt i_eq.mpr (show ¬ (x1 = (0 : Int32)) from c_521)
        refine WP.ite (fun c_536 => ?_) (fun c_536 => ?_)
        · skip
          have h_538 : x1 = (1 : Int32) := c_536
          have e_537 := i_eq.mp (show x1 = (1 : Int32) from c_536)
          unfold mb_immediate_78
          unfold mb_immediate_179
          have q_540 := i_rng x3
          have q_541 := i_rng x4
          have q_542 := i_rng x6
          have q_543 := i_rng (x4 <<< (x6 &&& 31))
          refine WP.bind (ms_gives x3 (x4 <<< (x6 &&& 31)) F G (show x3.toInt ≤ 32 by omega)) ?_
          rintro r539 F539 G539 p539
          dsimp only
          unfold mb_immediate_186
          have q_545 := i_rng x7
          first | have e_546 : (x7 + (4 : Int32)).toInt = x7.toInt + (4) := i_addn x7 rfl (by omega) (by omega) | have e_547 := i_rng (x7 + (4 : Int32))
          refine WP.bind (ms_goesOn (x7 + (4 : Int32)) F539 G539) ?_
          rintro r544 F544 G544 p544
          dsimp only
          unfold mb_immediate_194
          refine WP.ret ?_
          exact trivial
        have h_549 : ¬ (x1 = (1 : Int32)) := c_536
        have e_548 := mt i_eq.mpr (show ¬ (x1 = (1 : Int32)) from c_536)
        refine WP.ite (fun c_550 => ?_) (fun c_550 => ?_)
        · skip
          have l_551 : (2 : Int32).toInt = 2 := rfl
          have h_553 : x1 = (2 : Int32) := c_550
          have e_552 := i_eq.mp (show x1 = (2 : Int32) from c_550)
          unfold mb_immediate_88
          refine WP.ite (fun c_554 => ?_) (fun c_554 => ?_)
          · skip
            have q_555 := i_rng x5
            have q_556 := i_rng x4
            have e_557 := i_le.mp (show x5 ≤ x4 from c_554)
            unfold mb_immediate_99
            unfold mb_immediate_100
            unfold mb_immediate_179
            have q_559 := i_rng x3
            refine WP.bind (ms_gives x3 (0 : Int32) F G (show x3.toInt ≤ 32 by omega)) ?_
            rintro r558 F558 G558 p558
            dsimp only
            unfold mb_immediate_186
            have q_561 := i_rng x7
            first | have e_562 : (x7 + (4 : Int32)).toInt = x7.toInt + (4) := i_addn x7 rfl (by omega) (by omega) | have e_563 := i_rng (x7 + (4 : Int32))
            refine WP.bind (ms_goesOn (x7 + (4 : Int32)) F558 G558) ?_
            rintro r560 F560 G560 p560
            dsimp only
            unfold mb_immediate_194
            refine WP.ret ?_
            exact trivial
          · skip
            have q_564 := i_rng x5
            have q_565 := i_rng x4
            have e_566 := mt i_le.mpr (show ¬ (x5 ≤ x4) from c_554)
            unfold mb_immediate_95
            unfold mb_immediate_100
            unfold mb_immediate_179
            have q_568 := i_rng x3
            refine WP.bind (ms_gives x3 (1 : Int32) F G (show x3.toInt ≤ 32 by omega)) ?_
            rintro r567 F567 G567 p567
            dsimp only
            unfold mb_immediate_186
            have q_570 := i_rng x7
            first | have e_571 : (x7 + (4 : Int32)).toInt = x7.toInt + (4) := i_addn x7 rfl (by omega) (by omega) | have e_572 := i_rng (x7 + (4 : Int32))
            refine WP.bind (ms_goesOn (x7 + (4 : Int32)) F567 G567) ?_
            rintro r569 F569 G569 p569
            dsimp only
            unfold mb_immediate_194
            refine WP.ret ?_
            exact trivial
        have l_573 : (2 : Int32).toInt = 2 := rfl
        have h_575 : ¬ (x1 = (2 : Int32)) := c_550
        have e_574 := mt i_eq.mpr (show ¬ (x1 = (2 : Int32)) from c_550)
        refine WP.ite (fun c_576 => ?_) (fun c_576 => ?_)
        · skip
          have l_577 : (3 : Int32).toInt = 3 := rfl
          have h_579 : x1 = (3 : Int32) := c_576
          have e_578 := i_eq.mp (show x1 = (3 : Int32) from c_576)
          unfold mb_immediate_105
          refine WP.ite (fun c_580 => ?_) (fun c_580 => ?_)
          · skip
            have q_581 := i_rng x5
            first | have e_582 : (x5 + (-2147483648 : Int32)).toInt = x5.toInt + (-2147483648) := i_addn x5 rfl (by omega) (by omega) | have e_583 := i_rng (x5 + (-2147483648 : Int32))
            have q_584 := i_rng x4
            first | have e_585 : (x4 + (-2147483648 : Int32)).toInt = x4.toInt + (-2147483648) := i_addn x4 rfl (by omega) (by omega) | have e_586 := i_rng (x4 + (-2147483648 : Int32))
            have e_587 := i_le.mp (show (x5 + (-2147483648 : Int32)) ≤ (x4 + (-2147483648 : Int32)) from c_580)
            unfold mb_immediate_124
            unfold mb_immediate_125
            unfold mb_immediate_179
            have q_589 := i_rng x3
            refine WP.bind (ms_gives x3 (0 : Int32) F G (show x3.toInt ≤ 32 by omega)) ?_
            rintro r588 F588 G588 p588
            dsimp only
            unfold mb_immediate_186
            have q_591 := i_rng x7
            first | have e_592 : (x7 + (4 : Int32)).toInt = x7.toInt + (4) := i_addn x7 rfl (by omega) (by omega) | have e_593 := i_rng (x7 + (4 : Int32))
            refine WP.bind (ms_goesOn (x7 + (4 : Int32)) F588 G588) ?_
            rintro r590 F590 G590 p590
            dsimp only
            unfold mb_immediate_194
            refine WP.ret ?_
            exact trivial
          · skip
            have q_594 := i_rng x5
            first | have e_595 : (x5 + (-2147483648 : Int32)).toInt = x5.toInt + (-2147483648) := i_addn x5 rfl (by omega) (by omega) | have e_596 := i_rng (x5 + (-2147483648 : Int32))
            have q_597 := i_rng x4
            first | have e_598 : (x4 + (-2147483648 : Int32)).toInt = x4.toInt + (-2147483648) := i_addn x4 rfl (by omega) (by omega) | have e_599 := i_rng (x4 + (-2147483648 : Int32))
            have e_600 := mt i_le.mpr (show ¬ ((x5 + (-2147483648 : Int32)) ≤ (x4 + (-2147483648 : Int32))) from c_580)
            unfold mb_immediate_120
            unfold mb_immediate_125
            unfold mb_immediate_179
            have q_602 := i_rng x3
            refine WP.bind (ms_gives x3 (1 : Int32) F G (show x3.toInt ≤ 32 by omega)) ?_
            rintro r601 F601 G601 p601
            dsimp only
            unfold mb_immediate_186
            have q_604 := i_rng x7
            first | have e_605 : (x7 + (4 : Int32)).toInt = x7.toInt + (4) := i_addn x7 rfl (by omega) (by omega) | have e_606 := i_rng (x7 + (4 : Int32))
            refine WP.bind (ms_goesOn (x7 + (4 : Int32)) F601 G601) ?_
            rintro r603 F603 G603 p603
            dsimp only
            unfold mb_immediate_194
            refine WP.ret ?_
            exact trivial
        have l_607 : (3 : Int32).toInt = 3 := rfl
        have h_609 : ¬ (x1 = (3 : Int32)) := c_576
        have e_608 := mt i_eq.mpr (show ¬ (x1 = (3 : Int32)) from c_576)
        refine WP.ite (fun c_610 => ?_) (fun c_610 => ?_)
        · skip
          have l_611 : (4 : Int32).toInt = 4 := rfl
          have h_613 : x1 = (4 : Int32) := c_610
          have e_612 := i_eq.mp (show x1 = (4 : Int32) from c_610)
          unfold mb_immediate_130
          unfold mb_immediate_179
          have q_615 := i_rng x3
          have q_616 := i_rng x4
          have q_617 := i_rng x5
          have q_618 := i_rng (x4 ^^^ x5)
          refine WP.bind (ms_gives x3 (x4 ^^^ x5) F G (show x3.toInt ≤ 32 by omega)) ?_
          rintro r614 F614 G614 p614
          dsimp only
          unfold mb_immediate_186
          have q_620 := i_rng x7
          first | have e_621 : (x7 + (4 : Int32)).toInt = x7.toInt + (4) := i_addn x7 rfl (by omega) (by omega) | have e_622 := i_rng (x7 + (4 : Int32))
          refine WP.bind (ms_goesOn (x7 + (4 : Int32)) F614 G614) ?_
          rintro r619 F619 G619 p619
          dsimp only
          unfold mb_immediate_194
          refine WP.ret ?_
          exact trivial
        have l_623 : (4 : Int32).toInt = 4 := rfl
        have h_625 : ¬ (x1 = (4 : Int32)) := c_610
        have e_624 := mt i_eq.mpr (show ¬ (x1 = (4 : Int32)) from c_610)
        refine WP.ite (fun c_626 => ?_) (fun c_626 => ?_)
        · skip
          have h_628 : x1 = (5 : Int32) := c_626
          have e_627 := i_eq.mp (show x1 = (5 : Int32) from c_626)
          unfold mb_immediate_140
          refine WP.ite (fun c_629 => ?_) (fun c_629 => ?_)
          · skip
            have h_631 : x2 = (0 : Int32) := c_629
            have e_630 := i_eq.mp (show x2 = (0 : Int32) from c_629)
            unfold mb_immediate_144
            unfold mb_immediate_157
            unfold mb_immediate_179
            have q_633 := i_rng x3
            have q_634 := i_rng x4
            have q_635 := i_rng x6
            have q_636 := i_rng ((x4.toUInt32 >>> (x6.toUInt32 &&& Int32.toUInt32 31)).toInt32)
            refine WP.bind (ms_gives x3 ((x4.toUInt32 >>> (x6.toUInt32 &&& Int32.toUInt32 31)).toInt32) F G (show x3.toInt ≤ 32 by omega)) ?_
            rintro r632 F632 G632 p632
            dsimp only
            unfold mb_immediate_186
            have q_638 := i_rng x7
            first | have e_639 : (x7 + (4 : Int32)).toInt = x7.toInt + (4) := i_addn x7 rfl (by omega) (by omega) | have e_640 := i_rng (x7 + (4 : Int32))
            refine WP.bind (ms_goesOn (x7 + (4 : Int32)) F632 G632) ?_
            rintro r637 F637 G637 p637
            dsimp only
            unfold mb_immediate_194
            refine WP.ret ?_
            exact trivial
          · skip
            have h_642 : ¬ (x2 = (0 : Int32)) := c_629
            have e_641 := mt i_eq.mpr (show ¬ (x2 = (0 : Int32)) from c_629)
            unfold mb_immediate_152
            unfold mb_immediate_157
            unfold mb_immediate_179
            have q_644 := i_rng x3
            have q_645 := i_rng x4
            have q_646 := i_rng x6
            have q_647 := i_rng (x4 >>> (x6 &&& 31))
            refine WP.bind (ms_gives x3 (x4 >>> (x6 &&& 31)) F G (show x3.toInt ≤ 32 by omega)) ?_
            rintro r643 F643 G643 p643
            dsimp only
            unfold mb_immediate_186
            have q_649 := i_rng x7
            first | have e_650 : (x7 + (4 : Int32)).toInt = x7.toInt + (4) := i_addn x7 rfl (by omega) (by omega) | have e_651 := i_rng (x7 + (4 : Int32))
            refine WP.bind (ms_goesOn (x7 + (4 : Int32)) F643 G643) ?_
            rintro r648 F648 G648 p648
            dsimp only
            unfold mb_immediate_194
            refine WP.ret ?_
            exact trivial
        have h_653 : ¬ (x1 = (5 : Int32)) := c_626
        have e_652 := mt i_eq.mpr (show ¬ (x1 = (5 : Int32)) from c_626)
        unfold mb_immediate_162
        unfold mb_immediate_179
        have q_655 := i_rng x3
        have q_656 := i_rng x4
        have q_657 := i_rng x5
        have q_658 := i_rng (x4 ||| x5)
        refine WP.bind (ms_gives x3 (x4 ||| x5) F G (show x3.toInt ≤ 32 by omega)) ?_
        rintro r654 F654 G654 p654
        dsimp only
        unfold mb_immediate_186
        have q_660 := i_rng x7
        first | have e_661 : (x7 + (4 : Int32)).toInt = x7.toInt + (4) := i_addn x7 rfl (by omega) (by omega) | have e_662 := i_rng (x7 + (4 : Int32))
        refine WP.bind (ms_goesOn (x7 + (4 : Int32)) F654 G654) ?_
        rintro r659 F659 G659 p659
        dsimp only
        unfold mb_immediate_194
        refine WP.ret ?_
        exact trivial
      · skip
        have q_663 := i_rng x2
        have l_664 : (0 : Int32).toInt = 0 := rfl
        have h_666 : ¬ (x2 = (0 : Int32)) := c_504
        have e_665 := mt i_eq.mpr (show ¬ (x2 = (0 : Int32)) from c_504)
        unfold mb_immediate_18
        refine WP.ite (fun c_667 => ?_) (fun c_667 => ?_)
        · skip
          have l_668 : (32 : Int32).toInt = 32 := rfl
          have h_670 : x2 = (32 : Int32) := c_667
          have e_669 := i_eq.mp (show x2 = (32 : Int32) from c_667)
          unfold mb_immediate_26
          refine WP.ite (fun c_671 => ?_) (fun c_671 => ?_)
          · have e_672 : x1.toInt < 0 ∨ 6 < x1.toInt := c_671
            unfold mb_immediate_172
            unfold mb_immediate_179
            have q_674 := i_rng x3
            have q_675 := i_rng x4
            have q_676 := i_rng x5
            have q_677 := i_rng (x4 &&& x5)
            refine WP.bind (ms_gives x3 (x4 &&& x5) F G (show x3.toInt ≤ 32 by omega)) ?_
            rintro r673 F673 G673 p673
            dsimp only
            unfold mb_immediate_186
            have q_679 := i_rng x7
            first | have e_680 : (x7 + (4 : Int32)).toInt = x7.toInt + (4) := i_addn x7 rfl (by omega) (by omega) | have e_681 := i_rng (x7 + (4 : Int32))
            refine WP.bind (ms_goesOn (x7 + (4 : Int32)) F673 G673) ?_
            rintro r678 F678 G678 p678
            dsimp only
            unfold mb_immediate_194
            refine WP.ret ?_
            exact trivial
          have e_682 : ¬ (x1.toInt < 0 ∨ 6 < x1.toInt) := c_671
          refine WP.ite (fun c_683 => ?_) (fun c_683 => ?_)
          · skip
            have h_685 : x1 = (0 : Int32) := c_683
            have e_684 := i_eq.mp (show x1 = (0 : Int32) from c_683)
            unfold mb_immediate_68
            unfold mb_immediate_179
            have q_687 := i_rng x3
            have q_688 := i_rng x4
            have q_689 := i_rng x5
            first | have e_690 : (x4 + x5).toInt = x4.toInt + (x5.toInt) := i_addn x4 rfl (by omega) (by omega) | have e_691 := i_rng (x4 + x5)
            refine WP.bind (ms_gives x3 (x4 + x5) F G (show x3.toInt ≤ 32 by omega)) ?_
            rintro r686 F686 G686 p686
            dsimp only
            unfold mb_immediate_186
            have q_693 := i_rng x7
            first | have e_694 : (x7 + (4 : Int32)).toInt = x7.toInt + (4) := i_addn x7 rfl (by omega) (by omega) | have e_695 := i_rng (x7 + (4 : Int32))
            refine WP.bind (ms_goesOn (x7 + (4 : Int32)) F686 G686) ?_
            rintro r692 F692 G692 p692
            dsimp only
            unfold mb_immediate_194
            refine WP.ret ?_
            exact trivial
          have h_697 : ¬ (x1 = (0 : Int32)) := c_683
          have e_696 := mt i_eq.mpr (show ¬ (x1 = (0 : Int32)) from c_683)
          refine WP.ite (fun c_698 => ?_) (fun c_698 => ?_)
          · skip
            have h_700 : x1 = (1 : Int32) := c_698
            have e_699 := i_eq.mp (show x1 = (1 : Int32) from c_698)
            unfold mb_immediate_78
            unfold mb_immediate_179
            have q_702 := i_rng x3
            have q_703 := i_rng x4
            have q_704 := i_rng x6
            have q_705 := i_rng (x4 <<< (x6 &&& 31))
            refine WP.bind (ms_gives x3 (x4 <<< (x6 &&& 31)) F G (show x3.toInt ≤ 32 by omega)) ?_
            rintro r701 F701 G701 p701
            dsimp only
            unfold mb_immediate_186
            have q_707 := i_rng x7
            first | have e_708 : (x7 + (4 : Int32)).toInt = x7.toInt + (4) := i_addn x7 rfl (by omega) (by omega) | have e_709 := i_rng (x7 + (4 : Int32))
            refine WP.bind (ms_goesOn (x7 + (4 : Int32)) F701 G701) ?_
            rintro r706 F706 G706 p706
            dsimp only
            unfold mb_immediate_194
            refine WP.ret ?_
            exact trivial
          have h_711 : ¬ (x1 = (1 : Int32)) := c_698
          have e_710 := mt i_eq.mpr (show ¬ (x1 = (1 : Int32)) from c_698)
          refine WP.ite (fun c_712 => ?_) (fun c_712 => ?_)
          · skip
            have l_713 : (2 : Int32).toInt = 2 := rfl
            have h_715 : x1 = (2 : Int32) := c_712
            have e_714 := i_eq.mp (show x1 = (2 : Int32) from c_712)
            unfold mb_immediate_88
            refine WP.ite (fun c_716 => ?_) (fun c_716 => ?_)
            · skip
              have q_717 := i_rng x5
              have q_718 := i_rng x4
              have e_719 := i_le.mp (show x5 ≤ x4 from c_716)
              unfold mb_immediate_99
              unfold mb_immediate_100
              unfold mb_immediate_179
              have q_721 := i_rng x3
              refine WP.bind (ms_gives x3 (0 : Int32) F G (show x3.toInt ≤ 32 by omega)) ?_
              rintro r720 F720 G720 p720
              dsimp only
              unfold mb_immediate_186
              have q_723 := i_rng x7
              first | have e_724 : (x7 + (4 : Int32)).toInt = x7.toInt + (4) := i_addn x7 rfl (by omega) (by omega) | have e_725 := i_rng (x7 + (4 : Int32))
              refine WP.bind (ms_goesOn (x7 + (4 : Int32)) F720 G720) ?_
              rintro r722 F722 G722 p722
              dsimp only
              unfold mb_immediate_194
              refine WP.ret ?_
              exact trivial
            · skip
              have q_726 := i_rng x5
              have q_727 := i_rng x4
              have e_728 := mt i_le.mpr (show ¬ (x5 ≤ x4) from c_716)
              unfold mb_immediate_95
              unfold mb_immediate_100
              unfold mb_immediate_179
              have q_730 := i_rng x3
              refine WP.bind (ms_gives x3 (1 : Int32) F G (show x3.toInt ≤ 32 by omega)) ?_
              rintro r729 F729 G729 p729
              dsimp only
              unfold mb_immediate_186
              have q_732 := i_rng x7
              first | have e_733 : (x7 + (4 : Int32)).toInt = x7.toInt + (4) := i_addn x7 rfl (by omega) (by omega) | have e_734 := i_rng (x7 + (4 : Int32))
              refine WP.bind (ms_goesOn (x7 + (4 : Int32)) F729 G729) ?_
              rintro r731 F731 G731 p731
              dsimp only
              unfold mb_immediate_194
              refine WP.ret ?_
              exact trivial
          have l_735 : (2 : Int32).toInt = 2 := rfl
          have h_737 : ¬ (x1 = (2 : Int32)) := c_712
          have e_736 := mt i_eq.mpr (show ¬ (x1 = (2 : Int32)) from c_712)
          refine WP.ite (fun c_738 => ?_) (fun c_738 => ?_)
          · skip
            have l_739 : (3 : Int32).toInt = 3 := rfl
            have h_741 : x1 = (3 : Int32) := c_738
            have e_740 := i_eq.mp (show x1 = (3 : Int32) from c_738)
            unfold mb_immediate_105
            refine WP.ite (fun c_742 => ?_) (fun c_742 => ?_)
            · skip
              have q_743 := i_rng x5
              first | have e_744 : (x5 + (-2147483648 : Int32)).toInt = x5.toInt + (-2147483648) := i_addn x5 rfl (by omega) (by omega) | have e_745 := i_rng (x5 + (-2147483648 : Int32))
              have q_746 := i_rng x4
              first | have e_747 : (x4 + (-2147483648 : Int32)).toInt = x4.toInt + (-2147483648) := i_addn x4 rfl (by omega) (by omega) | have e_748 := i_rng (x4 + (-2147483648 : Int32))
              have e_749 := i_le.mp (show (x5 + (-2147483648 : Int32)) ≤ (x4 + (-2147483648 : Int32)) from c_742)
              unfold mb_immediate_124
              unfold mb_immediate_125
              unfold mb_immediate_179
              have q_751 := i_rng x3
              refine WP.bind (ms_gives x3 (0 : Int32) F G (show x3.toInt ≤ 32 by omega)) ?_
              rintro r750 F750 G750 p750
              dsimp only
              unfold mb_immediate_186
              have q_753 := i_rng x7
              first | have e_754 : (x7 + (4 : Int32)).toInt = x7.toInt + (4) := i_addn x7 rfl (by omega) (by omega) | have e_755 := i_rng (x7 + (4 : Int32))
              refine WP.bind (ms_goesOn (x7 + (4 : Int32)) F750 G750) ?_
              rintro r752 F752 G752 p752
              dsimp only
              unfold mb_immediate_194
              refine WP.ret ?_
              exact trivial
            · skip
              have q_756 := i_rng x5
              first | have e_757 : (x5 + (-2147483648 : Int32)).toInt = x5.toInt + (-2147483648) := i_addn x5 rfl (by omega) (by omega) | have e_758 := i_rng (x5 + (-2147483648 : Int32))
              have q_759 := i_rng x4
              first | have e_760 : (x4 + (-2147483648 : Int32)).toInt = x4.toInt + (-2147483648) := i_addn x4 rfl (by omega) (by omega) | have e_761 := i_rng (x4 + (-2147483648 : Int32))
              have e_762 := mt i_le.mpr (show ¬ ((x5 + (-2147483648 : Int32)) ≤ (x4 + (-2147483648 : Int32))) from c_742)
              unfold mb_immediate_120
              unfold mb_immediate_125
              unfold mb_immediate_179
              have q_764 := i_rng x3
              refine WP.bind (ms_gives x3 (1 : Int32) F G (show x3.toInt ≤ 32 by omega)) ?_
              rintro r763 F763 G763 p763
              dsimp only
              unfold mb_immediate_186
              have q_766 := i_rng x7
              first | have e_767 : (x7 + (4 : Int32)).toInt = x7.toInt + (4) := i_addn x7 rfl (by omega) (by omega) | have e_768 := i_rng (x7 + (4 : Int32))
              refine WP.bind (ms_goesOn (x7 + (4 : Int32)) F763 G763) ?_
              rintro r765 F765 G765 p765
              dsimp only
              unfold mb_immediate_194
              refine WP.ret ?_
              exact trivial
          have l_769 : (3 : Int32).toInt = 3 := rfl
          have h_771 : ¬ (x1 = (3 : Int32)) := c_738
          have e_770 := mt i_eq.mpr (show ¬ (x1 = (3 : Int32)) from c_738)
          refine WP.ite (fun c_772 => ?_) (fun c_772 => ?_)
          · skip
            have l_773 : (4 : Int32).toInt = 4 := rfl
            have h_775 : x1 = (4 : Int32) := c_772
            have e_774 := i_eq.mp (show x1 = (4 : Int32) from c_772)
            unfold mb_immediate_130
            unfold mb_immediate_179
            have q_777 := i_rng x3
            have q_778 := i_rng x4
            have q_779 := i_rng x5
            have q_780 := i_rng (x4 ^^^ x5)
            refine WP.bind (ms_gives x3 (x4 ^^^ x5) F G (show x3.toInt ≤ 32 by omega)) ?_
            rintro r776 F776 G776 p776
            dsimp only
            unfold mb_immediate_186
            have q_782 := i_rng x7
            first | have e_783 : (x7 + (4 : Int32)).toInt = x7.toInt + (4) := i_addn x7 rfl (by omega) (by omega) | have e_784 := i_rng (x7 + (4 : Int32))
            refine WP.bind (ms_goesOn (x7 + (4 : Int32)) F776 G776) ?_
            rintro r781 F781 G781 p781
            dsimp only
            unfold mb_immediate_194
            refine WP.ret ?_
            exact trivial
          have l_785 : (4 : Int32).toInt = 4 := rfl
          have h_787 : ¬ (x1 = (4 : Int32)) := c_772
          have e_786 := mt i_eq.mpr (show ¬ (x1 = (4 : Int32)) from c_772)
          refine WP.ite (fun c_788 => ?_) (fun c_788 => ?_)
          · skip
            have h_790 : x1 = (5 : Int32) := c_788
            have e_789 := i_eq.mp (show x1 = (5 : Int32) from c_788)
            unfold mb_immediate_140
            refine WP.ite (fun c_791 => ?_) (fun c_791 => ?_)
            · skip
              have h_793 : x2 = (0 : Int32) := c_791
              have e_792 := i_eq.mp (show x2 = (0 : Int32) from c_791)
              unfold mb_immediate_144
              unfold mb_immediate_157
              unfold mb_immediate_179
              have q_795 := i_rng x3
              have q_796 := i_rng x4
              have q_797 := i_rng x6
              have q_798 := i_rng ((x4.toUInt32 >>> (x6.toUInt32 &&& Int32.toUInt32 31)).toInt32)
              refine WP.bind (ms_gives x3 ((x4.toUInt32 >>> (x6.toUInt32 &&& Int32.toUInt32 31)).toInt32) F G (show x3.toInt ≤ 32 by omega)) ?_
              rintro r794 F794 G794 p794
              dsimp only
              unfold mb_immediate_186
              have q_800 := i_rng x7
              first | have e_801 : (x7 + (4 : Int32)).toInt = x7.toInt + (4) := i_addn x7 rfl (by omega) (by omega) | have e_802 := i_rng (x7 + (4 : Int32))
              refine WP.bind (ms_goesOn (x7 + (4 : Int32)) F794 G794) ?_
              rintro r799 F799 G799 p799
              dsimp only
              unfold mb_immediate_194
              refine WP.ret ?_
              exact trivial
            · skip
              have h_804 : ¬ (x2 = (0 : Int32)) := c_791
              have e_803 := mt i_eq.mpr (show ¬ (x2 = (0 : Int32)) from c_791)
              unfold mb_immediate_152
              unfold mb_immediate_157
              unfold mb_immediate_179
              have q_806 := i_rng x3
              have q_807 := i_rng x4
              have q_808 := i_rng x6
              have q_809 := i_rng (x4 >>> (x6 &&& 31))
              refine WP.bind (ms_gives x3 (x4 >>> (x6 &&& 31)) F G (show x3.toInt ≤ 32 by omega)) ?_
              rintro r805 F805 G805 p805
              dsimp only
              unfold mb_immediate_186
              have q_811 := i_rng x7
              first | have e_812 : (x7 + (4 : Int32)).toInt = x7.toInt + (4) := i_addn x7 rfl (by omega) (by omega) | have e_813 := i_rng (x7 + (4 : Int32))
              refine WP.bind (ms_goesOn (x7 + (4 : Int32)) F805 G805) ?_
              rintro r810 F810 G810 p810
              dsimp only
              unfold mb_immediate_194
              refine WP.ret ?_
              exact trivial
          have h_815 : ¬ (x1 = (5 : Int32)) := c_788
          have e_814 := mt i_eq.mpr (show ¬ (x1 = (5 : Int32)) from c_788)
          unfold mb_immediate_162
          unfold mb_immediate_179
          have q_817 := i_rng x3
          have q_818 := i_rng x4
          have q_819 := i_rng x5
          have q_820 := i_rng (x4 ||| x5)
          refine WP.bind (ms_gives x3 (x4 ||| x5) F G (show x3.toInt ≤ 32 by omega)) ?_
          rintro r816 F816 G816 p816
          dsimp only
          unfold mb_immediate_186
          have q_822 := i_rng x7
          first | have e_823 : (x7 + (4 : Int32)).toInt = x7.toInt + (4) := i_addn x7 rfl (by omega) (by omega) | have e_824 := i_rng (x7 + (4 : Int32))
          refine WP.bind (ms_goesOn (x7 + (4 : Int32)) F816 G816) ?_
          rintro r821 F821 G821 p821
          dsimp only
          unfold mb_immediate_194
          refine WP.ret ?_
          exact trivial
        · skip
          have l_825 : (32 : Int32).toInt = 32 := rfl
          have h_827 : ¬ (x2 = (32 : Int32)) := c_667
          have e_826 := mt i_eq.mpr (show ¬ (x2 = (32 : Int32)) from c_667)
          unfold mb_immediate_24
          refine WP.ret ?_
          exact trivial
    · skip
      have l_828 : (5 : Int32).toInt = 5 := rfl
      have h_830 : ¬ (x1 = (5 : Int32)) := c_500
      have e_829 := mt i_eq.mpr (show ¬ (x1 = (5 : Int32)) from c_500)
      unfold mb_immediate_26
      refine WP.ite (fun c_831 => ?_) (fun c_831 => ?_)
      · have e_832 : x1.toInt < 0 ∨ 6 < x1.toInt := c_831
        unfold mb_immediate_172
        unfold mb_immediate_179
        have q_834 := i_rng x3
        have q_835 := i_rng x4
        have q_836 := i_rng x5
        have q_837 := i_rng (x4 &&& x5)
        refine WP.bind (ms_gives x3 (x4 &&& x5) F G (show x3.toInt ≤ 32 by omega)) ?_
        rintro r833 F833 G833 p833
        dsimp only
        unfold mb_immediate_186
        have q_839 := i_rng x7
        first | have e_840 : (x7 + (4 : Int32)).toInt = x7.toInt + (4) := i_addn x7 rfl (by omega) (by omega) | have e_841 := i_rng (x7 + (4 : Int32))
        refine WP.bind (ms_goesOn (x7 + (4 : Int32)) F833 G833) ?_
        rintro r838 F838 G838 p838
        dsimp only
        unfold mb_immediate_194
        refine WP.ret ?_
        exact trivial
      have e_842 : ¬ (x1.toInt < 0 ∨ 6 < x1.toInt) := c_831
      refine WP.ite (fun c_843 => ?_) (fun c_843 => ?_)
      · skip
        have l_844 : (0 : Int32).toInt = 0 := rfl
        have h_846 : x1 = (0 : Int32) := c_843
        have e_845 := i_eq.mp (show x1 = (0 : Int32) from c_843)
        unfold mb_immediate_68
        unfold mb_immediate_179
        have q_848 := i_rng x3
        have q_849 := i_rng x4
        have q_850 := i_rng x5
        first | have e_851 : (x4 + x5).toInt = x4.toInt + (x5.toInt) := i_addn x4 rfl (by omega) (by omega) | have e_852 := i_rng (x4 + x5)
        refine WP.bind (ms_gives x3 (x4 + x5) F G (show x3.toInt ≤ 32 by omega)) ?_
        rintro r847 F847 G847 p847
        dsimp only
        unfold mb_immediate_186
        have q_854 := i_rng x7
        first | have e_855 : (x7 + (4 : Int32)).toInt = x7.toInt + (4) := i_addn x7 rfl (by omega) (by omega) | have e_856 := i_rng (x7 + (4 : Int32))
        refine WP.bind (ms_goesOn (x7 + (4 : Int32)) F847 G847) ?_
        rintro r853 F853 G853 p853
        dsimp only
        unfold mb_immediate_194
        refine WP.ret ?_
        exact trivial
      have l_857 : (0 : Int32).toInt = 0 := rfl
      have h_859 : ¬ (x1 = (0 : Int32)) := c_843
      have e_858 := mt i_eq.mpr (show ¬ (x1 = (0 : Int32)) from c_843)
      refine WP.ite (fun c_860 => ?_) (fun c_860 => ?_)
      · skip
        have h_862 : x1 = (1 : Int32) := c_860
        have e_861 := i_eq.mp (show x1 = (1 : Int32) from c_860)
        unfold mb_immediate_78
        unfold mb_immediate_179
        have q_864 := i_rng x3
        have q_865 := i_rng x4
        have q_866 := i_rng x6
        have q_867 := i_rng (x4 <<< (x6 &&& 31))
        refine WP.bind (ms_gives x3 (x4 <<< (x6 &&& 31)) F G (show x3.toInt ≤ 32 by omega)) ?_
        rintro r863 F863 G863 p863
        dsimp only
        unfold mb_immediate_186
        have q_869 := i_rng x7
        first | have e_870 : (x7 + (4 : Int32)).toInt = x7.toInt + (4) := i_addn x7 rfl (by omega) (by omega) | have e_871 := i_rng (x7 + (4 : Int32))
        refine WP.bind (ms_goesOn (x7 + (4 : Int32)) F863 G863) ?_
        rintro r868 F868 G868 p868
        dsimp only
        unfold mb_immediate_194
        refine WP.ret ?_
        exact trivial
      have h_873 : ¬ (x1 = (1 : Int32)) := c_860
      have e_872 := mt i_eq.mpr (show ¬ (x1 = (1 : Int32)) from c_860)
      refine WP.ite (fun c_874 => ?_) (fun c_874 => ?_)
      · skip
        have l_875 : (2 : Int32).toInt = 2 := rfl
        have h_877 : x1 = (2 : Int32) := c_874
        have e_876 := i_eq.mp (show x1 = (2 : Int32) from c_874)
        unfold mb_immediate_88
        refine WP.ite (fun c_878 => ?_) (fun c_878 => ?_)
        · skip
          have q_879 := i_rng x5
          have q_880 := i_rng x4
          have e_881 := i_le.mp (show x5 ≤ x4 from c_878)
          unfold mb_immediate_99
          unfold mb_immediate_100
          unfold mb_immediate_179
          have q_883 := i_rng x3
          refine WP.bind (ms_gives x3 (0 : Int32) F G (show x3.toInt ≤ 32 by omega)) ?_
          rintro r882 F882 G882 p882
          dsimp only
          unfold mb_immediate_186
          have q_885 := i_rng x7
          first | have e_886 : (x7 + (4 : Int32)).toInt = x7.toInt + (4) := i_addn x7 rfl (by omega) (by omega) | have e_887 := i_rng (x7 + (4 : Int32))
          refine WP.bind (ms_goesOn (x7 + (4 : Int32)) F882 G882) ?_
          rintro r884 F884 G884 p884
          dsimp only
          unfold mb_immediate_194
          refine WP.ret ?_
          exact trivial
        · skip
          have q_888 := i_rng x5
          have q_889 := i_rng x4
          have e_890 := mt i_le.mpr (show ¬ (x5 ≤ x4) from c_878)
          unfold mb_immediate_95
          unfold mb_immediate_100
          unfold mb_immediate_179
          have q_892 := i_rng x3
          refine WP.bind (ms_gives x3 (1 : Int32) F G (show x3.toInt ≤ 32 by omega)) ?_
          rintro r891 F891 G891 p891
          dsimp only
          unfold mb_immediate_186
          have q_894 := i_rng x7
          first | have e_895 : (x7 + (4 : Int32)).toInt = x7.toInt + (4) := i_addn x7 rfl (by omega) (by omega) | have e_896 := i_rng (x7 + (4 : Int32))
          refine WP.bind (ms_goesOn (x7 + (4 : Int32)) F891 G891) ?_
          rintro r893 F893 G893 p893
          dsimp only
          unfold mb_immediate_194
          refine WP.ret ?_
          exact trivial
      have l_897 : (2 : Int32).toInt = 2 := rfl
      have h_899 : ¬ (x1 = (2 : Int32)) := c_874
      have e_898 := mt i_eq.mpr (show ¬ (x1 = (2 : Int32)) from c_874)
      refine WP.ite (fun c_900 => ?_) (fun c_900 => ?_)
      · skip
        have l_901 : (3 : Int32).toInt = 3 := rfl
        have h_903 : x1 = (3 : Int32) := c_900
        have e_902 := i_eq.mp (show x1 = (3 : Int32) from c_900)
        unfold mb_immediate_105
        refine WP.ite (fun c_904 => ?_) (fun c_904 => ?_)
        · skip
          have q_905 := i_rng x5
          first | have e_906 : (x5 + (-2147483648 : Int32)).toInt = x5.toInt + (-2147483648) := i_addn x5 rfl (by omega) (by omega) | have e_907 := i_rng (x5 + (-2147483648 : Int32))
          have q_908 := i_rng x4
          first | have e_909 : (x4 + (-2147483648 : Int32)).toInt = x4.toInt + (-2147483648) := i_addn x4 rfl (by omega) (by omega) | have e_910 := i_rng (x4 + (-2147483648 : Int32))
          have e_911 := i_le.mp (show (x5 + (-2147483648 : Int32)) ≤ (x4 + (-2147483648 : Int32)) from c_904)
          unfold mb_immediate_124
          unfold mb_immediate_125
          unfold mb_immediate_179
          have q_913 := i_rng x3
          refine WP.bind (ms_gives x3 (0 : Int32) F G (show x3.toInt ≤ 32 by omega)) ?_
          rintro r912 F912 G912 p912
          dsimp only
          unfold mb_immediate_186
          have q_915 := i_rng x7
          first | have e_916 : (x7 + (4 : Int32)).toInt = x7.toInt + (4) := i_addn x7 rfl (by omega) (by omega) | have e_917 := i_rng (x7 + (4 : Int32))
          refine WP.bind (ms_goesOn (x7 + (4 : Int32)) F912 G912) ?_
          rintro r914 F914 G914 p914
          dsimp only
          unfold mb_immediate_194
          refine WP.ret ?_
          exact trivial
        · skip
          have q_918 := i_rng x5
          first | have e_919 : (x5 + (-2147483648 : Int32)).toInt = x5.toInt + (-2147483648) := i_addn x5 rfl (by omega) (by omega) | have e_920 := i_rng (x5 + (-2147483648 : Int32))
          have q_921 := i_rng x4
          first | have e_922 : (x4 + (-2147483648 : Int32)).toInt = x4.toInt + (-2147483648) := i_addn x4 rfl (by omega) (by omega) | have e_923 := i_rng (x4 + (-2147483648 : Int32))
          have e_924 := mt i_le.mpr (show ¬ ((x5 + (-2147483648 : Int32)) ≤ (x4 + (-2147483648 : Int32))) from c_904)
          unfold mb_immediate_120
          unfold mb_immediate_125
          unfold mb_immediate_179
          have q_926 := i_rng x3
          refine WP.bind (ms_gives x3 (1 : Int32) F G (show x3.toInt ≤ 32 by omega)) ?_
          rintro r925 F925 G925 p925
          dsimp only
          unfold mb_immediate_186
          have q_928 := i_rng x7
          first | have e_929 : (x7 + (4 : Int32)).toInt = x7.toInt + (4) := i_addn x7 rfl (by omega) (by omega) | have e_930 := i_rng (x7 + (4 : Int32))
          refine WP.bind (ms_goesOn (x7 + (4 : Int32)) F925 G925) ?_
          rintro r927 F927 G927 p927
          dsimp only
          unfold mb_immediate_194
          refine WP.ret ?_
          exact trivial
      have l_931 : (3 : Int32).toInt = 3 := rfl
      have h_933 : ¬ (x1 = (3 : Int32)) := c_900
      have e_932 := mt i_eq.mpr (show ¬ (x1 = (3 : Int32)) from c_900)
      refine WP.ite (fun c_934 => ?_) (fun c_934 => ?_)
      · skip
        have l_935 : (4 : Int32).toInt = 4 := rfl
        have h_937 : x1 = (4 : Int32) := c_934
        have e_936 := i_eq.mp (show x1 = (4 : Int32) from c_934)
        unfold mb_immediate_130
        unfold mb_immediate_179
        have q_939 := i_rng x3
        have q_940 := i_rng x4
        have q_941 := i_rng x5
        have q_942 := i_rng (x4 ^^^ x5)
        refine WP.bind (ms_gives x3 (x4 ^^^ x5) F G (show x3.toInt ≤ 32 by omega)) ?_
        rintro r938 F938 G938 p938
        dsimp only
        unfold mb_immediate_186
        have q_944 := i_rng x7
        first | have e_945 : (x7 + (4 : Int32)).toInt = x7.toInt + (4) := i_addn x7 rfl (by omega) (by omega) | have e_946 := i_rng (x7 + (4 : Int32))
        refine WP.bind (ms_goesOn (x7 + (4 : Int32)) F938 G938) ?_
        rintro r943 F943 G943 p943
        dsimp only
        unfold mb_immediate_194
        refine WP.ret ?_
        exact trivial
      have l_947 : (4 : Int32).toInt = 4 := rfl
      have h_949 : ¬ (x1 = (4 : Int32)) := c_934
      have e_948 := mt i_eq.mpr (show ¬ (x1 = (4 : Int32)) from c_934)
      refine WP.ite (fun c_950 => ?_) (fun c_950 => ?_)
      · skip
        have h_952 : x1 = (5 : Int32) := c_950
        have e_951 := i_eq.mp (show x1 = (5 : Int32) from c_950)
        unfold mb_immediate_140
        refine WP.ite (fun c_953 => ?_) (fun c_953 => ?_)
        · skip
          have q_954 := i_rng x2
          have h_956 : x2 = (0 : Int32) := c_953
          have e_955 := i_eq.mp (show x2 = (0 : Int32) from c_953)
          unfold mb_immediate_144
          unfold mb_immediate_157
          unfold mb_immediate_179
          have q_958 := i_rng x3
          have q_959 := i_rng x4
          have q_960 := i_rng x6
          have q_961 := i_rng ((x4.toUInt32 >>> (x6.toUInt32 &&& Int32.toUInt32 31)).toInt32)
          refine WP.bind (ms_gives x3 ((x4.toUInt32 >>> (x6.toUInt32 &&& Int32.toUInt32 31)).toInt32) F G (show x3.toInt ≤ 32 by omega)) ?_
          rintro r957 F957 G957 p957
          dsimp only
          unfold mb_immediate_186
          have q_963 := i_rng x7
          first | have e_964 : (x7 + (4 : Int32)).toInt = x7.toInt + (4) := i_addn x7 rfl (by omega) (by omega) | have e_965 := i_rng (x7 + (4 : Int32))
          refine WP.bind (ms_goesOn (x7 + (4 : Int32)) F957 G957) ?_
          rintro r962 F962 G962 p962
          dsimp only
          unfold mb_immediate_194
          refine WP.ret ?_
          exact trivial
        · skip
          have q_966 := i_rng x2
          have h_968 : ¬ (x2 = (0 : Int32)) := c_953
          have e_967 := mt i_eq.mpr (show ¬ (x2 = (0 : Int32)) from c_953)
          unfold mb_immediate_152
          unfold mb_immediate_157
          unfold mb_immediate_179
          have q_970 := i_rng x3
          have q_971 := i_rng x4
          have q_972 := i_rng x6
          have q_973 := i_rng (x4 >>> (x6 &&& 31))
          refine WP.bind (ms_gives x3 (x4 >>> (x6 &&& 31)) F G (show x3.toInt ≤ 32 by omega)) ?_
          rintro r969 F969 G969 p969
          dsimp only
          unfold mb_immediate_186
          have q_975 := i_rng x7
          first | have e_976 : (x7 + (4 : Int32)).toInt = x7.toInt + (4) := i_addn x7 rfl (by omega) (by omega) | have e_977 := i_rng (x7 + (4 : Int32))
          refine WP.bind (ms_goesOn (x7 + (4 : Int32)) F969 G969) ?_
          rintro r974 F974 G974 p974
          dsimp only
          unfold mb_immediate_194
          refine WP.ret ?_
          exact trivial
      have h_979 : ¬ (x1 = (5 : Int32)) := c_950
      have e_978 := mt i_eq.mpr (show ¬ (x1 = (5 : Int32)) from c_950)
      unfold mb_immediate_162
      unfold mb_immediate_179
      have q_981 := i_rng x3
      have q_982 := i_rng x4
      have q_983 := i_rng x5
      have q_984 := i_rng (x4 ||| x5)
      refine WP.bind (ms_gives x3 (x4 ||| x5) F G (show x3.toInt ≤ 32 by omega)) ?_
      rintro r980 F980 G980 p980
      dsimp only
      unfold mb_immediate_186
      have q_986 := i_rng x7
      first | have e_987 : (x7 + (4 : Int32)).toInt = x7.toInt + (4) := i_addn x7 rfl (by omega) (by omega) | have e_988 := i_rng (x7 + (4 : Int32))
      refine WP.bind (ms_goesOn (x7 + (4 : Int32)) F980 G980) ?_
      rintro r985 F985 G985 p985
      dsimp only
      unfold mb_immediate_194
      refine WP.ret ?_
      exact trivial
theorem ms_both {fu : Nat} (x1 : Int32) (x2 : Int32) (x3 : Int32) (x4 : Int32) (x5 : Int32) (x6 : Int32) (F : PF) (G : PG) (ha : x3.toInt ≤ 32) : WP (mf_both fu x1 x2 x3 x4 x5 x6 F G) (fun r' F' G' => True) := by
  unfold mf_both
  unfold mb_both_0
  refine WP.ite (fun c_1 => ?_) (fun c_1 => ?_)
  · skip
    have q_2 := i_rng x2
    have l_3 : (0 : Int32).toInt = 0 := rfl
    have h_5 : x2 = (0 : Int32) := c_1
    have e_4 := i_eq.mp (show x2 = (0 : Int32) from c_1)
    unfold mb_both_26
    refine WP.ite (fun c_6 => ?_) (fun c_6 => ?_)
    · skip
      have l_7 : (1 : Int32).toInt = 1 := rfl
      have h_9 : x2 = (1 : Int32) := c_6
      have e_8 := i_eq.mp (show x2 = (1 : Int32) from c_6)
      unfold mb_both_33
      have q_11 := i_rng x1
      have q_12 := i_rng x4
      have q_13 := i_rng x5
      refine WP.bind (ms_product x1 x4 x5 F G) ?_
      rintro r10 _ _ ⟨rfl, rfl⟩
      dsimp only
      unfold mb_both_41
      unfold mb_both_191
      have q_15 := i_rng x3
      have q_16 := i_rng r10
      refine WP.bind (ms_gives x3 r10 F G (show x3.toInt ≤ 32 by omega)) ?_
      rintro r14 F14 G14 p14
      dsimp only
      unfold mb_both_194
      have q_18 := i_rng x6
      first | have e_19 : (x6 + (4 : Int32)).toInt = x6.toInt + (4) := i_addn x6 rfl (by omega) (by omega) | have e_20 := i_rng (x6 + (4 : Int32))
      refine WP.bind (ms_goesOn (x6 + (4 : Int32)) F14 G14) ?_
      rintro r17 F17 G17 p17
      dsimp only
      unfold mb_both_202
      refine WP.ret ?_
      exact trivial
    · skip
      have l_21 : (1 : Int32).toInt = 1 := rfl
      have h_23 : ¬ (x2 = (1 : Int32)) := c_6
      have e_22 := mt i_eq.mpr (show ¬ (x2 = (1 : Int32)) from c_6)
      unfold mb_both_44
      refine WP.ite (fun c_24 => ?_) (fun c_24 => ?_)
      · skip
        have l_25 : (32 : Int32).toInt = 32 := rfl
        have h_27 : x2 = (32 : Int32) := c_24
        have e_26 := i_eq.mp (show x2 = (32 : Int32) from c_24)
        unfold mb_both_50
        refine WP.ite (fun c_28 => ?_) (fun c_28 => ?_)
        · skip
          have q_29 := i_rng x1
          have h_31 : x1 = (0 : Int32) := c_28
          have e_30 := i_eq.mp (show x1 = (0 : Int32) from c_28)
          unfold mb_both_54
          unfold mb_both_191
          have q_33 := i_rng x3
          have q_34 := i_rng x4
          have q_35 := i_rng x5
          first | have e_36 : (x4 - x5).toInt = x4.toInt - (x5.toInt) := i_subn x4 rfl (by omega) (by omega) | have e_37 := i_rng (x4 - x5)
          refine WP.bind (ms_gives x3 (x4 - x5) F G (show x3.toInt ≤ 32 by omega)) ?_
          rintro r32 F32 G32 p32
          dsimp only
          unfold mb_both_194
          have q_39 := i_rng x6
          first | have e_40 : (x6 + (4 : Int32)).toInt = x6.toInt + (4) := i_addn x6 rfl (by omega) (by omega) | have e_41 := i_rng (x6 + (4 : Int32))
          refine WP.bind (ms_goesOn (x6 + (4 : Int32)) F32 G32) ?_
          rintro r38 F38 G38 p38
          dsimp only
          unfold mb_both_202
          refine WP.ret ?_
          exact trivial
        · skip
          have q_42 := i_rng x1
          have h_44 : ¬ (x1 = (0 : Int32)) := c_28
          have e_43 := mt i_eq.mpr (show ¬ (x1 = (0 : Int32)) from c_28)
          unfold mb_both_62
          unfold mb_both_191
          have q_46 := i_rng x3
          have q_47 := i_rng x4
          have q_48 := i_rng x5
          have l_49 : (31 : Int32).toInt = 31 := rfl
          have e_50 := i_and x5 (m := (31 : Int32)) 5 (by decide) (by decide)
          have q_51 := i_rng (x4 >>> ((x5 &&& (31 : Int32)) &&& 31))
          refine WP.bind (ms_gives x3 (x4 >>> ((x5 &&& (31 : Int32)) &&& 31)) F G (show x3.toInt ≤ 32 by omega)) ?_
          rintro r45 F45 G45 p45
          dsimp only
          unfold mb_both_194
          have q_53 := i_rng x6
          first | have e_54 : (x6 + (4 : Int32)).toInt = x6.toInt + (4) := i_addn x6 rfl (by omega) (by omega) | have e_55 := i_rng (x6 + (4 : Int32))
          refine WP.bind (ms_goesOn (x6 + (4 : Int32)) F45 G45) ?_
          rintro r52 F52 G52 p52
          dsimp only
          unfold mb_both_202
          refine WP.ret ?_
          exact trivial
      · skip
        have l_56 : (32 : Int32).toInt = 32 := rfl
        have h_58 : ¬ (x2 = (32 : Int32)) := c_24
        have e_57 := mt i_eq.mpr (show ¬ (x2 = (32 : Int32)) from c_24)
        unfold mb_both_73
        refine WP.ite (fun c_59 => ?_) (fun c_59 => ?_)
        · skip
          have q_60 := i_rng x1
          have h_62 : x1 = (0 : Int32) := c_59
          have e_61 := i_eq.mp (show x1 = (0 : Int32) from c_59)
          unfold mb_both_77
          unfold mb_both_191
          have q_64 := i_rng x3
          have q_65 := i_rng x4
          have q_66 := i_rng x5
          first | have e_67 : (x4 + x5).toInt = x4.toInt + (x5.toInt) := i_addn x4 rfl (by omega) (by omega) | have e_68 := i_rng (x4 + x5)
          refine WP.bind (ms_gives x3 (x4 + x5) F G (show x3.toInt ≤ 32 by omega)) ?_
          rintro r63 F63 G63 p63
          dsimp only
          unfold mb_both_194
          have q_70 := i_rng x6
          first | have e_71 : (x6 + (4 : Int32)).toInt = x6.toInt + (4) := i_addn x6 rfl (by omega) (by omega) | have e_72 := i_rng (x6 + (4 : Int32))
          refine WP.bind (ms_goesOn (x6 + (4 : Int32)) F63 G63) ?_
          rintro r69 F69 G69 p69
          dsimp only
          unfold mb_both_202
          refine WP.ret ?_
          exact trivial
        · skip
          have q_73 := i_rng x1
          have h_75 : ¬ (x1 = (0 : Int32)) := c_59
          have e_74 := mt i_eq.mpr (show ¬ (x1 = (0 : Int32)) from c_59)
          unfold mb_both_85
          refine WP.ite (fun c_76 => ?_) (fun c_76 => ?_)
          · skip
            have h_78 : x1 = (1 : Int32) := c_76
            have e_77 := i_eq.mp (show x1 = (1 : Int32) from c_76)
            unfold mb_both_90
            unfold mb_both_191
            have q_80 := i_rng x3
            have q_81 := i_rng x4
            have q_82 := i_rng x5
            have l_83 : (31 : Int32).toInt = 31 := rfl
            have e_84 := i_and x5 (m := (31 : Int32)) 5 (by decide) (by decide)
            have q_85 := i_rng (x4 <<< ((x5 &&& (31 : Int32)) &&& 31))
            refine WP.bind (ms_gives x3 (x4 <<< ((x5 &&& (31 : Int32)) &&& 31)) F G (show x3.toInt ≤ 32 by omega)) ?_
            rintro r79 F79 G79 p79
            dsimp only
            unfold mb_both_194
            have q_87 := i_rng x6
            first | have e_88 : (x6 + (4 : Int32)).toInt = x6.toInt + (4) := i_addn x6 rfl (by omega) (by omega) | have e_89 := i_rng (x6 + (4 : Int32))
            refine WP.bind (ms_goesOn (x6 + (4 : Int32)) F79 G79) ?_
            rintro r86 F86 G86 p86
            dsimp only
            unfold mb_both_202
            refine WP.ret ?_
            exact trivial
          · skip
            have h_91 : ¬ (x1 = (1 : Int32)) := c_76
            have e_90 := mt i_eq.mpr (show ¬ (x1 = (1 : Int32)) from c_76)
            unfold mb_both_101
            refine WP.ite (fun c_92 => ?_) (fun c_92 => ?_)
            · skip
              have l_93 : (2 : Int32).toInt = 2 := rfl
              have h_95 : x1 = (2 : Int32) := c_92
              have e_94 := i_eq.mp (show x1 = (2 : Int32) from c_92)
              unfold mb_both_106
              have l_97 : (36 : Int32).toInt = 36 := rfl
              have q_98 := i_rng x4
              have q_99 := i_rng x5
              refine WP.bind (ms_doing (36 : Int32) x4 x5 F G) ?_
              rintro r96 _ _ ⟨rfl, rfl⟩
              dsimp only
              unfold mb_both_115
              unfold mb_both_191
              have q_101 := i_rng x3
              have q_102 := i_rng r96
              refine WP.bind (ms_gives x3 r96 F G (show x3.toInt ≤ 32 by omega)) ?_
              rintro r100 F100 G100 p100
              dsimp only
              unfold mb_both_194
              have q_104 := i_rng x6
              first | have e_105 : (x6 + (4 : Int32)).toInt = x6.toInt + (4) := i_addn x6 rfl (by omega) (by omega) | have e_106 := i_rng (x6 + (4 : Int32))
              refine WP.bind (ms_goesOn (x6 + (4 : Int32)) F100 G100) ?_
              rintro r103 F103 G103 p103
              dsimp only
              unfold mb_both_202
              refine WP.ret ?_
              exact trivial
            · skip
              have l_107 : (2 : Int32).toInt = 2 := rfl
              have h_109 : ¬ (x1 = (2 : Int32)) := c_92
              have e_108 := mt i_eq.mpr (show ¬ (x1 = (2 : Int32)) from c_92)
              unfold mb_both_118
              refine WP.ite (fun c_110 => ?_) (fun c_110 => ?_)
              · skip
                have l_111 : (3 : Int32).toInt = 3 := rfl
                have h_113 : x1 = (3 : Int32) := c_110
                have e_112 := i_eq.mp (show x1 = (3 : Int32) from c_110)
                unfold mb_both_123
                have l_115 : (36 : Int32).toInt = 36 := rfl
                have q_116 := i_rng x4
                first | have e_117 : (x4 + (-2147483648 : Int32)).toInt = x4.toInt + (-2147483648) := i_addn x4 rfl (by omega) (by omega) | have e_118 := i_rng (x4 + (-2147483648 : Int32))
                have q_119 := i_rng x5
                first | have e_120 : (x5 + (-2147483648 : Int32)).toInt = x5.toInt + (-2147483648) := i_addn x5 rfl (by omega) (by omega) | have e_121 := i_rng (x5 + (-2147483648 : Int32))
                refine WP.bind (ms_doing (36 : Int32) (x4 + (-2147483648 : Int32)) (x5 + (-2147483648 : Int32)) F G) ?_
                rintro r114 _ _ ⟨rfl, rfl⟩
                dsimp only
                unfold mb_both_140
                unfold mb_both_191
                have q_123 := i_rng x3
                have q_124 := i_rng r114
                refine WP.bind (ms_gives x3 r114 F G (show x3.toInt ≤ 32 by omega)) ?_
                rintro r122 F122 G122 p122
                dsimp only
                unfold mb_both_194
                have q_126 := i_rng x6
                first | have e_127 : (x6 + (4 : Int32)).toInt = x6.toInt + (4) := i_addn x6 rfl (by omega) (by omega) | have e_128 := i_rng (x6 + (4 : Int32))
                refine WP.bind (ms_goesOn (x6 + (4 : Int32)) F122 G122) ?_
                rintro r125 F125 G125 p125
                dsimp only
                unfold mb_both_202
                refine WP.ret ?_
                exact trivial
              · skip
                have l_129 : (3 : Int32).toInt = 3 := rfl
                have h_131 : ¬ (x1 = (3 : Int32)) := c_110
                have e_130 := mt i_eq.mpr (show ¬ (x1 = (3 : Int32)) from c_110)
                unfold mb_both_143
                refine WP.ite (fun c_132 => ?_) (fun c_132 => ?_)
                · skip
                  have l_133 : (4 : Int32).toInt = 4 := rfl
                  have h_135 : x1 = (4 : Int32) := c_132
                  have e_134 := i_eq.mp (show x1 = (4 : Int32) from c_132)
                  unfold mb_both_148
                  unfold mb_both_191
                  have q_137 := i_rng x3
                  have q_138 := i_rng x4
                  have q_139 := i_rng x5
                  have q_140 := i_rng (x4 ^^^ x5)
                  refine WP.bind (ms_gives x3 (x4 ^^^ x5) F G (show x3.toInt ≤ 32 by omega)) ?_
                  rintro r136 F136 G136 p136
                  dsimp only
                  unfold mb_both_194
                  have q_142 := i_rng x6
                  first | have e_143 : (x6 + (4 : Int32)).toInt = x6.toInt + (4) := i_addn x6 rfl (by omega) (by omega) | have e_144 := i_rng (x6 + (4 : Int32))
                  refine WP.bind (ms_goesOn (x6 + (4 : Int32)) F136 G136) ?_
                  rintro r141 F141 G141 p141
                  dsimp only
                  unfold mb_both_202
                  refine WP.ret ?_
                  exact trivial
                · skip
                  have l_145 : (4 : Int32).toInt = 4 := rfl
                  have h_147 : ¬ (x1 = (4 : Int32)) := c_132
                  have e_146 := mt i_eq.mpr (show ¬ (x1 = (4 : Int32)) from c_132)
                  unfold mb_both_156
                  refine WP.ite (fun c_148 => ?_) (fun c_148 => ?_)
                  · skip
                    have l_149 : (5 : Int32).toInt = 5 := rfl
                    have h_151 : x1 = (5 : Int32) := c_148
                    have e_150 := i_eq.mp (show x1 = (5 : Int32) from c_148)
                    unfold mb_both_161
                    unfold mb_both_191
                    have q_153 := i_rng x3
                    have q_154 := i_rng x4
                    have q_155 := i_rng x5
                    have l_156 : (31 : Int32).toInt = 31 := rfl
                    have e_157 := i_and x5 (m := (31 : Int32)) 5 (by decide) (by decide)
                    have q_158 := i_rng ((x4.toUInt32 >>> ((x5 &&& (31 : Int32)).toUInt32 &&& Int32.toUInt32 31)).toInt32)
                    refine WP.bind (ms_gives x3 ((x4.toUInt32 >>> ((x5 &&& (31 : Int32)).toUInt32 &&& Int32.toUInt32 31)).toInt32) F G (show x3.toInt ≤ 32 by omega)) ?_
                    rintro r152 F152 G152 p152
                    dsimp only
                    unfold mb_both_194
                    have q_160 := i_rng x6
                    first | have e_161 : (x6 + (4 : Int32)).toInt = x6.toInt + (4) := i_addn x6 rfl (by omega) (by omega) | have e_162 := i_rng (x6 + (4 : Int32))
                    refine WP.bind (ms_goesOn (x6 + (4 : Int32)) F152 G152) ?_
                    rintro r159 F159 G159 p159
                    dsimp only
                    unfold mb_both_202
                    refine WP.ret ?_
                    exact trivial
                  · skip
                    have l_163 : (5 : Int32).toInt = 5 := rfl
                    have h_165 : ¬ (x1 = (5 : Int32)) := c_148
                    have e_164 := mt i_eq.mpr (show ¬ (x1 = (5 : Int32)) from c_148)
                    unfold mb_both_172
                    refine WP.ite (fun c_166 => ?_) (fun c_166 => ?_)
                    · skip
                      have l_167 : (6 : Int32).toInt = 6 := rfl
                      have h_169 : x1 = (6 : Int32) := c_166
                      have e_168 := i_eq.mp (show x1 = (6 : Int32) from c_166)
                      unfold mb_both_178
                      unfold mb_both_191
                      have q_171 := i_rng x3
                      have q_172 := i_rng x4
                      have q_173 := i_rng x5
                      have q_174 := i_rng (x4 ||| x5)
                      refine WP.bind (ms_gives x3 (x4 ||| x5) F G (show x3.toInt ≤ 32 by omega)) ?_
                      rintro r170 F170 G170 p170
                      dsimp only
                      unfold mb_both_194
                      have q_176 := i_rng x6
                      first | have e_177 : (x6 + (4 : Int32)).toInt = x6.toInt + (4) := i_addn x6 rfl (by omega) (by omega) | have e_178 := i_rng (x6 + (4 : Int32))
                      refine WP.bind (ms_goesOn (x6 + (4 : Int32)) F170 G170) ?_
                      rintro r175 F175 G175 p175
                      dsimp only
                      unfold mb_both_202
                      refine WP.ret ?_
                      exact trivial
                    · skip
                      have l_179 : (6 : Int32).toInt = 6 := rfl
                      have h_181 : ¬ (x1 = (6 : Int32)) := c_166
                      have e_180 := mt i_eq.mpr (show ¬ (x1 = (6 : Int32)) from c_166)
                      unfold mb_both_186
                      unfold mb_both_191
                      have q_183 := i_rng x3
                      have q_184 := i_rng x4
                      have q_185 := i_rng x5
                      have q_186 := i_rng (x4 &&& x5)
                      refine WP.bind (ms_gives x3 (x4 &&& x5) F G (show x3.toInt ≤ 32 by omega)) ?_
                      rintro r182 F182 G182 p182
                      dsimp only
                      unfold mb_both_194
                      have q_188 := i_rng x6
                      first | have e_189 : (x6 + (4 : Int32)).toInt = x6.toInt + (4) := i_addn x6 rfl (by omega) (by omega) | have e_190 := i_rng (x6 + (4 : Int32))
                      refine WP.bind (ms_goesOn (x6 + (4 : Int32)) F182 G182) ?_
                      rintro r187 F187 G187 p187
                      dsimp only
                      unfold mb_both_202
                      refine WP.ret ?_
                      exact trivial
  · skip
    have q_191 := i_rng x2
    have l_192 : (0 : Int32).toInt = 0 := rfl
    have h_194 : ¬ (x2 = (0 : Int32)) := c_1
    have e_193 := mt i_eq.mpr (show ¬ (x2 = (0 : Int32)) from c_1)
    unfold mb_both_4
    refine WP.ite (fun c_195 => ?_) (fun c_195 => ?_)
    · skip
      have l_196 : (1 : Int32).toInt = 1 := rfl
      have h_198 : x2 = (1 : Int32) := c_195
      have e_197 := i_eq.mp (show x2 = (1 : Int32) from c_195)
      unfold mb_both_26
      refine WP.ite (fun c_199 => ?_) (fun c_199 => ?_)
      · skip
        have h_201 : x2 = (1 : Int32) := c_199
        have e_200 := i_eq.mp (show x2 = (1 : Int32) from c_199)
        unfold mb_both_33
        have q_203 := i_rng x1
        have q_204 := i_rng x4
        have q_205 := i_rng x5
        refine WP.bind (ms_product x1 x4 x5 F G) ?_
        rintro r202 _ _ ⟨rfl, rfl⟩
        dsimp only
        unfold mb_both_41
        unfold mb_both_191
        have q_207 := i_rng x3
        have q_208 := i_rng r202
        refine WP.bind (ms_gives x3 r202 F G (show x3.toInt ≤ 32 by omega)) ?_
        rintro r206 F206 G206 p206
        dsimp only
        unfold mb_both_194
        have q_210 := i_rng x6
        first | have e_211 : (x6 + (4 : Int32)).toInt = x6.toInt + (4) := i_addn x6 rfl (by omega) (by omega) | have e_212 := i_rng (x6 + (4 : Int32))
        refine WP.bind (ms_goesOn (x6 + (4 : Int32)) F206 G206) ?_
        rintro r209 F209 G209 p209
        dsimp only
        unfold mb_both_202
        refine WP.ret ?_
        exact trivial
      · skip
        have h_214 : ¬ (x2 = (1 : Int32)) := c_199
        have e_213 := mt i_eq.mpr (show ¬ (x2 = (1 : Int32)) from c_199)
        unfold mb_both_44
        refine WP.ite (fun c_215 => ?_) (fun c_215 => ?_)
        · skip
          have l_216 : (32 : Int32).toInt = 32 := rfl
          have h_218 : x2 = (32 : Int32) := c_215
          have e_217 := i_eq.mp (show x2 = (32 : Int32) from c_215)
          unfold mb_both_50
          refine WP.ite (fun c_219 => ?_) (fun c_219 => ?_)
          · skip
            have q_220 := i_rng x1
            have h_222 : x1 = (0 : Int32) := c_219
            have e_221 := i_eq.mp (show x1 = (0 : Int32) from c_219)
            unfold mb_both_54
            unfold mb_both_191
            have q_224 := i_rng x3
            have q_225 := i_rng x4
            have q_226 := i_rng x5
            first | have e_227 : (x4 - x5).toInt = x4.toInt - (x5.toInt) := i_subn x4 rfl (by omega) (by omega) | have e_228 := i_rng (x4 - x5)
            refine WP.bind (ms_gives x3 (x4 - x5) F G (show x3.toInt ≤ 32 by omega)) ?_
            rintro r223 F223 G223 p223
            dsimp only
            unfold mb_both_194
            have q_230 := i_rng x6
            first | have e_231 : (x6 + (4 : Int32)).toInt = x6.toInt + (4) := i_addn x6 rfl (by omega) (by omega) | have e_232 := i_rng (x6 + (4 : Int32))
            refine WP.bind (ms_goesOn (x6 + (4 : Int32)) F223 G223) ?_
            rintro r229 F229 G229 p229
            dsimp only
            unfold mb_both_202
            refine WP.ret ?_
            exact trivial
          · skip
            have q_233 := i_rng x1
            have h_235 : ¬ (x1 = (0 : Int32)) := c_219
            have e_234 := mt i_eq.mpr (show ¬ (x1 = (0 : Int32)) from c_219)
            unfold mb_both_62
            unfold mb_both_191
            have q_237 := i_rng x3
            have q_238 := i_rng x4
            have q_239 := i_rng x5
            have l_240 : (31 : Int32).toInt = 31 := rfl
            have e_241 := i_and x5 (m := (31 : Int32)) 5 (by decide) (by decide)
            have q_242 := i_rng (x4 >>> ((x5 &&& (31 : Int32)) &&& 31))
            refine WP.bind (ms_gives x3 (x4 >>> ((x5 &&& (31 : Int32)) &&& 31)) F G (show x3.toInt ≤ 32 by omega)) ?_
            rintro r236 F236 G236 p236
            dsimp only
            unfold mb_both_194
            have q_244 := i_rng x6
            first | have e_245 : (x6 + (4 : Int32)).toInt = x6.toInt + (4) := i_addn x6 rfl (by omega) (by omega) | have e_246 := i_rng (x6 + (4 : Int32))
            refine WP.bind (ms_goesOn (x6 + (4 : Int32)) F236 G236) ?_
            rintro r243 F243 G243 p243
            dsimp only
            unfold mb_both_202
            refine WP.ret ?_
            exact trivial
        · skip
          have l_247 : (32 : Int32).toInt = 32 := rfl
          have h_249 : ¬ (x2 = (32 : Int32)) := c_215
          have e_248 := mt i_eq.mpr (show ¬ (x2 = (32 : Int32)) from c_215)
          unfold mb_both_73
          refine WP.ite (fun c_250 => ?_) (fun c_250 => ?_)
          · skip
            have q_251 := i_rng x1
            have h_253 : x1 = (0 : Int32) := c_250
            have e_252 := i_eq.mp (show x1 = (0 : Int32) from c_250)
            unfold mb_both_77
            unfold mb_both_191
            have q_255 := i_rng x3
            have q_256 := i_rng x4
            have q_257 := i_rng x5
            first | have e_258 : (x4 + x5).toInt = x4.toInt + (x5.toInt) := i_addn x4 rfl (by omega) (by omega) | have e_259 := i_rng (x4 + x5)
            refine WP.bind (ms_gives x3 (x4 + x5) F G (show x3.toInt ≤ 32 by omega)) ?_
            rintro r254 F254 G254 p254
            dsimp only
            unfold mb_both_194
            have q_261 := i_rng x6
            first | have e_262 : (x6 + (4 : Int32)).toInt = x6.toInt + (4) := i_addn x6 rfl (by omega) (by omega) | have e_263 := i_rng (x6 + (4 : Int32))
            refine WP.bind (ms_goesOn (x6 + (4 : Int32)) F254 G254) ?_
            rintro r260 F260 G260 p260
            dsimp only
            unfold mb_both_202
            refine WP.ret ?_
            exact trivial
          · skip
            have q_264 := i_rng x1
            have h_266 : ¬ (x1 = (0 : Int32)) := c_250
            have e_265 := mt i_eq.mpr (show ¬ (x1 = (0 : Int32)) from c_250)
            unfold mb_both_85
            refine WP.ite (fun c_267 => ?_) (fun c_267 => ?_)
            · skip
              have h_269 : x1 = (1 : Int32) := c_267
              have e_268 := i_eq.mp (show x1 = (1 : Int32) from c_267)
              unfold mb_both_90
              unfold mb_both_191
              have q_271 := i_rng x3
              have q_272 := i_rng x4
              have q_273 := i_rng x5
              have l_274 : (31 : Int32).toInt = 31 := rfl
              have e_275 := i_and x5 (m := (31 : Int32)) 5 (by decide) (by decide)
              have q_276 := i_rng (x4 <<< ((x5 &&& (31 : Int32)) &&& 31))
              refine WP.bind (ms_gives x3 (x4 <<< ((x5 &&& (31 : Int32)) &&& 31)) F G (show x3.toInt ≤ 32 by omega)) ?_
              rintro r270 F270 G270 p270
              dsimp only
              unfold mb_both_194
              have q_278 := i_rng x6
              first | have e_279 : (x6 + (4 : Int32)).toInt = x6.toInt + (4) := i_addn x6 rfl (by omega) (by omega) | have e_280 := i_rng (x6 + (4 : Int32))
              refine WP.bind (ms_goesOn (x6 + (4 : Int32)) F270 G270) ?_
              rintro r277 F277 G277 p277
              dsimp only
              unfold mb_both_202
              refine WP.ret ?_
              exact trivial
            · skip
              have h_282 : ¬ (x1 = (1 : Int32)) := c_267
              have e_281 := mt i_eq.mpr (show ¬ (x1 = (1 : Int32)) from c_267)
              unfold mb_both_101
              refine WP.ite (fun c_283 => ?_) (fun c_283 => ?_)
              · skip
                have l_284 : (2 : Int32).toInt = 2 := rfl
                have h_286 : x1 = (2 : Int32) := c_283
                have e_285 := i_eq.mp (show x1 = (2 : Int32) from c_283)
                unfold mb_both_106
                have l_288 : (36 : Int32).toInt = 36 := rfl
                have q_289 := i_rng x4
                have q_290 := i_rng x5
                refine WP.bind (ms_doing (36 : Int32) x4 x5 F G) ?_
                rintro r287 _ _ ⟨rfl, rfl⟩
                dsimp only
                unfold mb_both_115
                unfold mb_both_191
                have q_292 := i_rng x3
                have q_293 := i_rng r287
                refine WP.bind (ms_gives x3 r287 F G (show x3.toInt ≤ 32 by omega)) ?_
                rintro r291 F291 G291 p291
                dsimp only
                unfold mb_both_194
                have q_295 := i_rng x6
                first | have e_296 : (x6 + (4 : Int32)).toInt = x6.toInt + (4) := i_addn x6 rfl (by omega) (by omega) | have e_297 := i_rng (x6 + (4 : Int32))
                refine WP.bind (ms_goesOn (x6 + (4 : Int32)) F291 G291) ?_
                rintro r294 F294 G294 p294
                dsimp only
                unfold mb_both_202
                refine WP.ret ?_
                exact trivial
              · skip
                have l_298 : (2 : Int32).toInt = 2 := rfl
                have h_300 : ¬ (x1 = (2 : Int32)) := c_283
                have e_299 := mt i_eq.mpr (show ¬ (x1 = (2 : Int32)) from c_283)
                unfold mb_both_118
                refine WP.ite (fun c_301 => ?_) (fun c_301 => ?_)
                · skip
                  have l_302 : (3 : Int32).toInt = 3 := rfl
                  have h_304 : x1 = (3 : Int32) := c_301
                  have e_303 := i_eq.mp (show x1 = (3 : Int32) from c_301)
                  unfold mb_both_123
                  have l_306 : (36 : Int32).toInt = 36 := rfl
                  have q_307 := i_rng x4
                  first | have e_308 : (x4 + (-2147483648 : Int32)).toInt = x4.toInt + (-2147483648) := i_addn x4 rfl (by omega) (by omega) | have e_309 := i_rng (x4 + (-2147483648 : Int32))
                  have q_310 := i_rng x5
                  first | have e_311 : (x5 + (-2147483648 : Int32)).toInt = x5.toInt + (-2147483648) := i_addn x5 rfl (by omega) (by omega) | have e_312 := i_rng (x5 + (-2147483648 : Int32))
                  refine WP.bind (ms_doing (36 : Int32) (x4 + (-2147483648 : Int32)) (x5 + (-2147483648 : Int32)) F G) ?_
                  rintro r305 _ _ ⟨rfl, rfl⟩
                  dsimp only
                  unfold mb_both_140
                  unfold mb_both_191
                  have q_314 := i_rng x3
                  have q_315 := i_rng r305
                  refine WP.bind (ms_gives x3 r305 F G (show x3.toInt ≤ 32 by omega)) ?_
                  rintro r313 F313 G313 p313
                  dsimp only
                  unfold mb_both_194
                  have q_317 := i_rng x6
                  first | have e_318 : (x6 + (4 : Int32)).toInt = x6.toInt + (4) := i_addn x6 rfl (by omega) (by omega) | have e_319 := i_rng (x6 + (4 : Int32))
                  refine WP.bind (ms_goesOn (x6 + (4 : Int32)) F313 G313) ?_
                  rintro r316 F316 G316 p316
                  dsimp only
                  unfold mb_both_202
                  refine WP.ret ?_
                  exact trivial
                · skip
                  have l_320 : (3 : Int32).toInt = 3 := rfl
                  have h_322 : ¬ (x1 = (3 : Int32)) := c_301
                  have e_321 := mt i_eq.mpr (show ¬ (x1 = (3 : Int32)) from c_301)
                  unfold mb_both_143
                  refine WP.ite (fun c_323 => ?_) (fun c_323 => ?_)
                  · skip
                    have l_324 : (4 : Int32).toInt = 4 := rfl
                    have h_326 : x1 = (4 : Int32) := c_323
                    have e_325 := i_eq.mp (show x1 = (4 : Int32) from c_323)
                    unfold mb_both_148
                    unfold mb_both_191
                    have q_328 := i_rng x3
                    have q_329 := i_rng x4
                    have q_330 := i_rng x5
                    have q_331 := i_rng (x4 ^^^ x5)
                    refine WP.bind (ms_gives x3 (x4 ^^^ x5) F G (show x3.toInt ≤ 32 by omega)) ?_
                    rintro r327 F327 G327 p327
                    dsimp only
                    unfold mb_both_194
                    have q_333 := i_rng x6
                    first | have e_334 : (x6 + (4 : Int32)).toInt = x6.toInt + (4) := i_addn x6 rfl (by omega) (by omega) | have e_335 := i_rng (x6 + (4 : Int32))
                    refine WP.bind (ms_goesOn (x6 + (4 : Int32)) F327 G327) ?_
                    rintro r332 F332 G332 p332
                    dsimp only
                    unfold mb_both_202
                    refine WP.ret ?_
                    exact trivial
                  · skip
                    have l_336 : (4 : Int32).toInt = 4 := rfl
                    have h_338 : ¬ (x1 = (4 : Int32)) := c_323
                    have e_337 := mt i_eq.mpr (show ¬ (x1 = (4 : Int32)) from c_323)
                    unfold mb_both_156
                    refine WP.ite (fun c_339 => ?_) (fun c_339 => ?_)
                    · skip
                      have l_340 : (5 : Int32).toInt = 5 := rfl
                      have h_342 : x1 = (5 : Int32) := c_339
                      have e_341 := i_eq.mp (show x1 = (5 : Int32) from c_339)
                      unfold mb_both_161
                      unfold mb_both_191
                      have q_344 := i_rng x3
                      have q_345 := i_rng x4
                      have q_346 := i_rng x5
                      have l_347 : (31 : Int32).toInt = 31 := rfl
                      have e_348 := i_and x5 (m := (31 : Int32)) 5 (by decide) (by decide)
                      have q_349 := i_rng ((x4.toUInt32 >>> ((x5 &&& (31 : Int32)).toUInt32 &&& Int32.toUInt32 31)).toInt32)
                      refine WP.bind (ms_gives x3 ((x4.toUInt32 >>> ((x5 &&& (31 : Int32)).toUInt32 &&& Int32.toUInt32 31)).toInt32) F G (show x3.toInt ≤ 32 by omega)) ?_
                      rintro r343 F343 G343 p343
                      dsimp only
                      unfold mb_both_194
                      have q_351 := i_rng x6
                      first | have e_352 : (x6 + (4 : Int32)).toInt = x6.toInt + (4) := i_addn x6 rfl (by omega) (by omega) | have e_353 := i_rng (x6 + (4 : Int32))
                      refine WP.bind (ms_goesOn (x6 + (4 : Int32)) F343 G343) ?_
                      rintro r350 F350 G350 p350
                      dsimp only
                      unfold mb_both_202
                      refine WP.ret ?_
                      exact trivial
                    · skip
                      have l_354 : (5 : Int32).toInt = 5 := rfl
                      have h_356 : ¬ (x1 = (5 : Int32)) := c_339
                      have e_355 := mt i_eq.mpr (show ¬ (x1 = (5 : Int32)) from c_339)
                      unfold mb_both_172
                      refine WP.ite (fun c_357 => ?_) (fun c_357 => ?_)
                      · skip
                        have l_358 : (6 : Int32).toInt = 6 := rfl
                        have h_360 : x1 = (6 : Int32) := c_357
                        have e_359 := i_eq.mp (show x1 = (6 : Int32) from c_357)
                        unfold mb_both_178
                        unfold mb_both_191
                        have q_362 := i_rng x3
                        have q_363 := i_rng x4
                        have q_364 := i_rng x5
                        have q_365 := i_rng (x4 ||| x5)
                        refine WP.bind (ms_gives x3 (x4 ||| x5) F G (show x3.toInt ≤ 32 by omega)) ?_
                        rintro r361 F361 G361 p361
                        dsimp only
                        unfold mb_both_194
                        have q_367 := i_rng x6
                        first | have e_368 : (x6 + (4 : Int32)).toInt = x6.toInt + (4) := i_addn x6 rfl (by omega) (by omega) | have e_369 := i_rng (x6 + (4 : Int32))
                        refine WP.bind (ms_goesOn (x6 + (4 : Int32)) F361 G361) ?_
                        rintro r366 F366 G366 p366
                        dsimp only
                        unfold mb_both_202
                        refine WP.ret ?_
                        exact trivial
                      · skip
                        have l_370 : (6 : Int32).toInt = 6 := rfl
                        have h_372 : ¬ (x1 = (6 : Int32)) := c_357
                        have e_371 := mt i_eq.mpr (show ¬ (x1 = (6 : Int32)) from c_357)
                        unfold mb_both_186
                        unfold mb_both_191
                        have q_374 := i_rng x3
                        have q_375 := i_rng x4
                        have q_376 := i_rng x5
                        have q_377 := i_rng (x4 &&& x5)
                        refine WP.bind (ms_gives x3 (x4 &&& x5) F G (show x3.toInt ≤ 32 by omega)) ?_
                        rintro r373 F373 G373 p373
                        dsimp only
                        unfold mb_both_194
                        have q_379 := i_rng x6
                        first | have e_380 : (x6 + (4 : Int32)).toInt = x6.toInt + (4) := i_addn x6 rfl (by omega) (by omega) | have e_381 := i_rng (x6 + (4 : Int32))
                        refine WP.bind (ms_goesOn (x6 + (4 : Int32)) F373 G373) ?_
                        rintro r378 F378 G378 p378
                        dsimp only
                        unfold mb_both_202
                        refine WP.ret ?_
                        exact trivial
    · skip
      have l_382 : (1 : Int32).toInt = 1 := rfl
      have h_384 : ¬ (x2 = (1 : Int32)) := c_195
      have e_383 := mt i_eq.mpr (show ¬ (x2 = (1 : Int32)) from c_195)
      unfold mb_both_9
      refine WP.ite (fun c_385 => ?_) (fun c_385 => ?_)
      · skip
        have l_386 : (32 : Int32).toInt = 32 := rfl
        have h_388 : x2 = (32 : Int32) := c_385
        have e_387 := i_eq.mp (show x2 = (32 : Int32) from c_385)
        unfold mb_both_15
        refine WP.ite (fun c_389 => ?_) (fun c_389 => ?_)
        · skip
          have q_390 := i_rng x1
          have h_392 : x1 = (0 : Int32) := c_389
          have e_391 := i_eq.mp (show x1 = (0 : Int32) from c_389)
          unfold mb_both_26
          refine WP.ite (fun c_393 => ?_) (fun c_393 => ?_)
          · skip
            have h_395 : x2 = (1 : Int32) := c_393
            have e_394 := i_eq.mp (show x2 = (1 : Int32) from c_393)
            unfold mb_both_33
            have q_397 := i_rng x4
            have q_398 := i_rng x5
            refine WP.bind (ms_product x1 x4 x5 F G) ?_
            rintro r396 _ _ ⟨rfl, rfl⟩
            dsimp only
            unfold mb_both_41
            unfold mb_both_191
            have q_400 := i_rng x3
            have q_401 := i_rng r396
            refine WP.bind (ms_gives x3 r396 F G (show x3.toInt ≤ 32 by omega)) ?_
            rintro r399 F399 G399 p399
            dsimp only
            unfold mb_both_194
            have q_403 := i_rng x6
            first | have e_404 : (x6 + (4 : Int32)).toInt = x6.toInt + (4) := i_addn x6 rfl (by omega) (by omega) | have e_405 := i_rng (x6 + (4 : Int32))
            refine WP.bind (ms_goesOn (x6 + (4 : Int32)) F399 G399) ?_
            rintro r402 F402 G402 p402
            dsimp only
            unfold mb_both_202
            refine WP.ret ?_
            exact trivial
          · skip
            have h_407 : ¬ (x2 = (1 : Int32)) := c_393
            have e_406 := mt i_eq.mpr (show ¬ (x2 = (1 : Int32)) from c_393)
            unfold mb_both_44
            refine WP.ite (fun c_408 => ?_) (fun c_408 => ?_)
            · skip
              have h_410 : x2 = (32 : Int32) := c_408
              have e_409 := i_eq.mp (show x2 = (32 : Int32) from c_408)
              unfold mb_both_50
              refine WP.ite (fun c_411 => ?_) (fun c_411 => ?_)
              · skip
                have h_413 : x1 = (0 : Int32) := c_411
                have e_412 := i_eq.mp (show x1 = (0 : Int32) from c_411)
                unfold mb_both_54
                unfold mb_both_191
                have q_415 := i_rng x3
                have q_416 := i_rng x4
                have q_417 := i_rng x5
                first | have e_418 : (x4 - x5).toInt = x4.toInt - (x5.toInt) := i_subn x4 rfl (by omega) (by omega) | have e_419 := i_rng (x4 - x5)
                refine WP.bind (ms_gives x3 (x4 - x5) F G (show x3.toInt ≤ 32 by omega)) ?_
                rintro r414 F414 G414 p414
                dsimp only
                unfold mb_both_194
                have q_421 := i_rng x6
                first | have e_422 : (x6 + (4 : Int32)).toInt = x6.toInt + (4) := i_addn x6 rfl (by omega) (by omega) | have e_423 := i_rng (x6 + (4 : Int32))
                refine WP.bind (ms_goesOn (x6 + (4 : Int32)) F414 G414) ?_
                rintro r420 F420 G420 p420
                dsimp only
                unfold mb_both_202
                refine WP.ret ?_
                exact trivial
              · skip
                have h_425 : ¬ (x1 = (0 : Int32)) := c_411
                have e_424 := mt i_eq.mpr (show ¬ (x1 = (0 : Int32)) from c_411)
                unfold mb_both_62
                unfold mb_both_191
                have q_427 := i_rng x3
                have q_428 := i_rng x4
                have q_429 := i_rng x5
                have l_430 : (31 : Int32).toInt = 31 := rfl
                have e_431 := i_and x5 (m := (31 : Int32)) 5 (by decide) (by decide)
                have q_432 := i_rng (x4 >>> ((x5 &&& (31 : Int32)) &&& 31))
                refine WP.bind (ms_gives x3 (x4 >>> ((x5 &&& (31 : Int32)) &&& 31)) F G (show x3.toInt ≤ 32 by omega)) ?_
                rintro r426 F426 G426 p426
                dsimp only
                unfold mb_both_194
                have q_434 := i_rng x6
                first | have e_435 : (x6 + (4 : Int32)).toInt = x6.toInt + (4) := i_addn x6 rfl (by omega) (by omega) | have e_436 := i_rng (x6 + (4 : Int32))
                refine WP.bind (ms_goesOn (x6 + (4 : Int32)) F426 G426) ?_
                rintro r433 F433 G433 p433
                dsimp only
                unfold mb_both_202
                refine WP.ret ?_
                exact trivial
            · skip
              have h_438 : ¬ (x2 = (32 : Int32)) := c_408
              have e_437 := mt i_eq.mpr (show ¬ (x2 = (32 : Int32)) from c_408)
              unfold mb_both_73
              refine WP.ite (fun c_439 => ?_) (fun c_439 => ?_)
              · skip
                have h_441 : x1 = (0 : Int32) := c_439
                have e_440 := i_eq.mp (show x1 = (0 : Int32) from c_439)
                unfold mb_both_77
                unfold mb_both_191
                have q_443 := i_rng x3
                have q_444 := i_rng x4
                have q_445 := i_rng x5
                first | have e_446 : (x4 + x5).toInt = x4.toInt + (x5.toInt) := i_addn x4 rfl (by omega) (by omega) | have e_447 := i_rng (x4 + x5)
                refine WP.bind (ms_gives x3 (x4 + x5) F G (show x3.toInt ≤ 32 by omega)) ?_
                rintro r442 F442 G442 p442
                dsimp only
                unfold mb_both_194
                have q_449 := i_rng x6
                first | have e_450 : (x6 + (4 : Int32)).toInt = x6.toInt + (4) := i_addn x6 rfl (by omega) (by omega) | have e_451 := i_rng (x6 + (4 : Int32))
                refine WP.bind (ms_goesOn (x6 + (4 : Int32)) F442 G442) ?_
                rintro r448 F448 G448 p448
                dsimp only
                unfold mb_both_202
                refine WP.ret ?_
                exact trivial
              · skip
                have h_453 : ¬ (x1 = (0 : Int32)) := c_439
                have e_452 := mt i_eq.mpr (show ¬ (x1 = (0 : Int32)) from c_439)
                unfold mb_both_85
                refine WP.ite (fun c_454 => ?_) (fun c_454 => ?_)
                · skip
                  have h_456 : x1 = (1 : Int32) := c_454
                  have e_455 := i_eq.mp (show x1 = (1 : Int32) from c_454)
                  unfold mb_both_90
                  unfold mb_both_191
                  have q_458 := i_rng x3
                  have q_459 := i_rng x4
                  have q_460 := i_rng x5
                  have l_461 : (31 : Int32).toInt = 31 := rfl
                  have e_462 := i_and x5 (m := (31 : Int32)) 5 (by decide) (by decide)
                  have q_463 := i_rng (x4 <<< ((x5 &&& (31 : Int32)) &&& 31))
                  refine WP.bind (ms_gives x3 (x4 <<< ((x5 &&& (31 : Int32)) &&& 31)) F G (show x3.toInt ≤ 32 by omega)) ?_
                  rintro r457 F457 G457 p457
                  dsimp only
                  unfold mb_both_194
                  have q_465 := i_rng x6
                  first | have e_466 : (x6 + (4 : Int32)).toInt = x6.toInt + (4) := i_addn x6 rfl (by omega) (by omega) | have e_467 := i_rng (x6 + (4 : Int32))
                  refine WP.bind (ms_goesOn (x6 + (4 : Int32)) F457 G457) ?_
                  rintro r464 F464 G464 p464
                  dsimp only
                  unfold mb_both_202
                  refine WP.ret ?_
                  exact trivial
                · skip
                  have h_469 : ¬ (x1 = (1 : Int32)) := c_454
                  have e_468 := mt i_eq.mpr (show ¬ (x1 = (1 : Int32)) from c_454)
                  unfold mb_both_101
                  refine WP.ite (fun c_470 => ?_) (fun c_470 => ?_)
                  · skip
                    have l_471 : (2 : Int32).toInt = 2 := rfl
                    have h_473 : x1 = (2 : Int32) := c_470
                    have e_472 := i_eq.mp (show x1 = (2 : Int32) from c_470)
                    unfold mb_both_106
                    have l_475 : (36 : Int32).toInt = 36 := rfl
                    have q_476 := i_rng x4
                    have q_477 := i_rng x5
                    refine WP.bind (ms_doing (36 : Int32) x4 x5 F G) ?_
                    rintro r474 _ _ ⟨rfl, rfl⟩
                    dsimp only
                    unfold mb_both_115
                    unfold mb_both_191
                    have q_479 := i_rng x3
                    have q_480 := i_rng r474
                    refine WP.bind (ms_gives x3 r474 F G (show x3.toInt ≤ 32 by omega)) ?_
                    rintro r478 F478 G478 p478
                    dsimp only
                    unfold mb_both_194
                    have q_482 := i_rng x6
                    first | have e_483 : (x6 + (4 : Int32)).toInt = x6.toInt + (4) := i_addn x6 rfl (by omega) (by omega) | have e_484 := i_rng (x6 + (4 : Int32))
                    refine WP.bind (ms_goesOn (x6 + (4 : Int32)) F478 G478) ?_
                    rintro r481 F481 G481 p481
                    dsimp only
                    unfold mb_both_202
                    refine WP.ret ?_
                    exact trivial
                  · skip
                    have l_485 : (2 : Int32).toInt = 2 := rfl
                    have h_487 : ¬ (x1 = (2 : Int32)) := c_470
                    have e_486 := mt i_eq.mpr (show ¬ (x1 = (2 : Int32)) from c_470)
                    unfold mb_both_118
                    refine WP.ite (fun c_488 => ?_) (fun c_488 => ?_)
                    · skip
                      have l_489 : (3 : Int32).toInt = 3 := rfl
                      have h_491 : x1 = (3 : Int32) := c_488
                      have e_490 := i_eq.mp (show x1 = (3 : Int32) from c_488)
                      unfold mb_both_123
                      have l_493 : (36 : Int32).toInt = 36 := rfl
                      have q_494 := i_rng x4
                      first | have e_495 : (x4 + (-2147483648 : Int32)).toInt = x4.toInt + (-2147483648) := i_addn x4 rfl (by omega) (by omega) | have e_496 := i_rng (x4 + (-2147483648 : Int32))
                      have q_497 := i_rng x5
                      first | have e_498 : (x5 + (-2147483648 : Int32)).toInt = x5.toInt + (-2147483648) := i_addn x5 rfl (by omega) (by omega) | have e_499 := i_rng (x5 + (-2147483648 : Int32))
                      refine WP.bind (ms_doing (36 : Int32) (x4 + (-2147483648 : Int32)) (x5 + (-2147483648 : Int32)) F G) ?_
                      rintro r492 _ _ ⟨rfl, rfl⟩
                      dsimp only
                      unfold mb_both_140
                      unfold mb_both_191
                      have q_501 := i_rng x3
                      have q_502 := i_rng r492
                      refine WP.bind (ms_gives x3 r492 F G (show x3.toInt ≤ 32 by omega)) ?_
                      rintro r500 F500 G500 p500
                      dsimp only
                      unfold mb_both_194
                      have q_504 := i_rng x6
                      first | have e_505 : (x6 + (4 : Int32)).toInt = x6.toInt + (4) := i_addn x6 rfl (by omega) (by omega) | have e_506 := i_rng (x6 + (4 : Int32))
                      refine WP.bind (ms_goesOn (x6 + (4 : Int32)) F500 G500) ?_
                      rintro r503 F503 G503 p503
                      dsimp only
                      unfold mb_both_202
                      refine WP.ret ?_
                      exact trivial
                    · skip
                      have l_507 : (3 : Int32).toInt = 3 := rfl
                      have h_509 : ¬ (x1 = (3 : Int32)) := c_488
                      have e_508 := mt i_eq.mpr (show ¬ (x1 = (3 : Int32)) from c_488)
                      unfold mb_both_143
                      refine WP.ite (fun c_510 => ?_) (fun c_510 => ?_)
                      · skip
                        have l_511 : (4 : Int32).toInt = 4 := rfl
                        have h_513 : x1 = (4 : Int32) := c_510
                        have e_512 := i_eq.mp (show x1 = (4 : Int32) from c_510)
                        unfold mb_both_148
                        unfold mb_both_191
                        have q_515 := i_rng x3
                        have q_516 := i_rng x4
                        have q_517 := i_rng x5
                        have q_518 := i_rng (x4 ^^^ x5)
                        refine WP.bind (ms_gives x3 (x4 ^^^ x5) F G (show x3.toInt ≤ 32 by omega)) ?_
                        rintro r514 F514 G514 p514
                        dsimp only
                        unfold mb_both_194
                        have q_520 := i_rng x6
                        first | have e_521 : (x6 + (4 : Int32)).toInt = x6.toInt + (4) := i_addn x6 rfl (by omega) (by omega) | have e_522 := i_rng (x6 + (4 : Int32))
                        refine WP.bind (ms_goesOn (x6 + (4 : Int32)) F514 G514) ?_
                        rintro r519 F519 G519 p519
                        dsimp only
                        unfold mb_both_202
                        refine WP.ret ?_
                        exact trivial
                      · skip
                        have l_523 : (4 : Int32).toInt = 4 := rfl
                        have h_525 : ¬ (x1 = (4 : Int32)) := c_510
                        have e_524 := mt i_eq.mpr (show ¬ (x1 = (4 : Int32)) from c_510)
                        unfold mb_both_156
                        refine WP.ite (fun c_526 => ?_) (fun c_526 => ?_)
                        · skip
                          have l_527 : (5 : Int32).toInt = 5 := rfl
                          have h_529 : x1 = (5 : Int32) := c_526
                          have e_528 := i_eq.mp (show x1 = (5 : Int32) from c_526)
                          unfold mb_both_161
                          unfold mb_both_191
                          have q_531 := i_rng x3
                          have q_532 := i_rng x4
                          have q_533 := i_rng x5
                          have l_534 : (31 : Int32).toInt = 31 := rfl
                          have e_535 := i_and x5 (m := (31 : Int32)) 5 (by decide) (by decide)
                          have q_536 := i_rng ((x4.toUInt32 >>> ((x5 &&& (31 : Int32)).toUInt32 &&& Int32.toUInt32 31)).toInt32)
                          refine WP.bind (ms_gives x3 ((x4.toUInt32 >>> ((x5 &&& (31 : Int32)).toUInt32 &&& Int32.toUInt32 31)).toInt32) F G (show x3.toInt ≤ 32 by omega)) ?_
                          rintro r530 F530 G530 p530
                          dsimp only
                          unfold mb_both_194
                          have q_538 := i_rng x6
                          first | have e_539 : (x6 + (4 : Int32)).toInt = x6.toInt + (4) := i_addn x6 rfl (by omega) (by omega) | have e_540 := i_rng (x6 + (4 : Int32))
                          refine WP.bind (ms_goesOn (x6 + (4 : Int32)) F530 G530) ?_
                          rintro r537 F537 G537 p537
                          dsimp only
                          unfold mb_both_202
                          refine WP.ret ?_
                          exact trivial
                        · skip
                          have l_541 : (5 : Int32).toInt = 5 := rfl
                          have h_543 : ¬ (x1 = (5 : Int32)) := c_526
                          have e_542 := mt i_eq.mpr (show ¬ (x1 = (5 : Int32)) from c_526)
                          unfold mb_both_172
                          refine WP.ite (fun c_544 => ?_) (fun c_544 => ?_)
                          · skip
                            have l_545 : (6 : Int32).toInt = 6 := rfl
                            have h_547 : x1 = (6 : Int32) := c_544
                            have e_546 := i_eq.mp (show x1 = (6 : Int32) from c_544)
                            unfold mb_both_178
                            unfold mb_both_191
                            have q_549 := i_rng x3
                            have q_550 := i_rng x4
                            have q_551 := i_rng x5
                            have q_552 := i_rng (x4 ||| x5)
                            refine WP.bind (ms_gives x3 (x4 ||| x5) F G (show x3.toInt ≤ 32 by omega)) ?_
                            rintro r548 F548 G548 p548
                            dsimp only
                            unfold mb_both_194
                            have q_554 := i_rng x6
                            first | have e_555 : (x6 + (4 : Int32)).toInt = x6.toInt + (4) := i_addn x6 rfl (by omega) (by omega) | have e_556 := i_rng (x6 + (4 : Int32))
                            refine WP.bind (ms_goesOn (x6 + (4 : Int32)) F548 G548) ?_
                            rintro r553 F553 G553 p553
                            dsimp only
                            unfold mb_both_202
                            refine WP.ret ?_
                            exact trivial
                          · skip
                            have l_557 : (6 : Int32).toInt = 6 := rfl
                            have h_559 : ¬ (x1 = (6 : Int32)) := c_544
                            have e_558 := mt i_eq.mpr (show ¬ (x1 = (6 : Int32)) from c_544)
                            unfold mb_both_186
                            unfold mb_both_191
                            have q_561 := i_rng x3
                            have q_562 := i_rng x4
                            have q_563 := i_rng x5
                            have q_564 := i_rng (x4 &&& x5)
                            refine WP.bind (ms_gives x3 (x4 &&& x5) F G (show x3.toInt ≤ 32 by omega)) ?_
                            rintro r560 F560 G560 p560
                            dsimp only
                            unfold mb_both_194
                            have q_566 := i_rng x6
                            first | have e_567 : (x6 + (4 : Int32)).toInt = x6.toInt + (4) := i_addn x6 rfl (by omega) (by omega) | have e_568 := i_rng (x6 + (4 : Int32))
                            refine WP.bind (ms_goesOn (x6 + (4 : Int32)) F560 G560) ?_
                            rintro r565 F565 G565 p565
                            dsimp only
                            unfold mb_both_202
                            refine WP.ret ?_
                            exact trivial
        · skip
          have q_569 := i_rng x1
          have h_571 : ¬ (x1 = (0 : Int32)) := c_389
          have e_570 := mt i_eq.mpr (show ¬ (x1 = (0 : Int32)) from c_389)
          unfold mb_both_19
          refine WP.ite (fun c_572 => ?_) (fun c_572 => ?_)
          · skip
            have l_573 : (5 : Int32).toInt = 5 := rfl
            have h_575 : x1 = (5 : Int32) := c_572
            have e_574 := i_eq.mp (show x1 = (5 : Int32) from c_572)
            unfold mb_both_26
            refine WP.ite (fun c_576 => ?_) (fun c_576 => ?_)
            · skip
              have h_578 : x2 = (1 : Int32) := c_576
              have e_577 := i_eq.mp (show x2 = (1 : Int32) from c_576)
              unfold mb_both_33
              have q_580 := i_rng x4
              have q_581 := i_rng x5
              refine WP.bind (ms_product x1 x4 x5 F G) ?_
              rintro r579 _ _ ⟨rfl, rfl⟩
              dsimp only
              unfold mb_both_41
              unfold mb_both_191
              have q_583 := i_rng x3
              have q_584 := i_rng r579
              refine WP.bind (ms_gives x3 r579 F G (show x3.toInt ≤ 32 by omega)) ?_
              rintro r582 F582 G582 p582
              dsimp only
              unfold mb_both_194
              have q_586 := i_rng x6
              first | have e_587 : (x6 + (4 : Int32)).toInt = x6.toInt + (4) := i_addn x6 rfl (by omega) (by omega) | have e_588 := i_rng (x6 + (4 : Int32))
              refine WP.bind (ms_goesOn (x6 + (4 : Int32)) F582 G582) ?_
              rintro r585 F585 G585 p585
              dsimp only
              unfold mb_both_202
              refine WP.ret ?_
              exact trivial
            · skip
              have h_590 : ¬ (x2 = (1 : Int32)) := c_576
              have e_589 := mt i_eq.mpr (show ¬ (x2 = (1 : Int32)) from c_576)
              unfold mb_both_44
              refine WP.ite (fun c_591 => ?_) (fun c_591 => ?_)
              · skip
                have h_593 : x2 = (32 : Int32) := c_591
                have e_592 := i_eq.mp (show x2 = (32 : Int32) from c_591)
                unfold mb_both_50
                refine WP.ite (fun c_594 => ?_) (fun c_594 => ?_)
                · skip
                  have h_596 : x1 = (0 : Int32) := c_594
                  have e_595 := i_eq.mp (show x1 = (0 : Int32) from c_594)
                  unfold mb_both_54
                  unfold mb_both_191
                  have q_598 := i_rng x3
                  have q_599 := i_rng x4
                  have q_600 := i_rng x5
                  first | have e_601 : (x4 - x5).toInt = x4.toInt - (x5.toInt) := i_subn x4 rfl (by omega) (by omega) | have e_602 := i_rng (x4 - x5)
                  refine WP.bind (ms_gives x3 (x4 - x5) F G (show x3.toInt ≤ 32 by omega)) ?_
                  rintro r597 F597 G597 p597
                  dsimp only
                  unfold mb_both_194
                  have q_604 := i_rng x6
                  first | have e_605 : (x6 + (4 : Int32)).toInt = x6.toInt + (4) := i_addn x6 rfl (by omega) (by omega) | have e_606 := i_rng (x6 + (4 : Int32))
                  refine WP.bind (ms_goesOn (x6 + (4 : Int32)) F597 G597) ?_
                  rintro r603 F603 G603 p603
                  dsimp only
                  unfold mb_both_202
                  refine WP.ret ?_
                  exact trivial
                · skip
                  have h_608 : ¬ (x1 = (0 : Int32)) := c_594
                  have e_607 := mt i_eq.mpr (show ¬ (x1 = (0 : Int32)) from c_594)
                  unfold mb_both_62
                  unfold mb_both_191
                  have q_610 := i_rng x3
                  have q_611 := i_rng x4
                  have q_612 := i_rng x5
                  have l_613 : (31 : Int32).toInt = 31 := rfl
                  have e_614 := i_and x5 (m := (31 : Int32)) 5 (by decide) (by decide)
                  have q_615 := i_rng (x4 >>> ((x5 &&& (31 : Int32)) &&& 31))
                  refine WP.bind (ms_gives x3 (x4 >>> ((x5 &&& (31 : Int32)) &&& 31)) F G (show x3.toInt ≤ 32 by omega)) ?_
                  rintro r609 F609 G609 p609
                  dsimp only
                  unfold mb_both_194
                  have q_617 := i_rng x6
                  first | have e_618 : (x6 + (4 : Int32)).toInt = x6.toInt + (4) := i_addn x6 rfl (by omega) (by omega) | have e_619 := i_rng (x6 + (4 : Int32))
                  refine WP.bind (ms_goesOn (x6 + (4 : Int32)) F609 G609) ?_
                  rintro r616 F616 G616 p616
                  dsimp only
                  unfold mb_both_202
                  refine WP.ret ?_
                  exact trivial
              · skip
                have h_621 : ¬ (x2 = (32 : Int32)) := c_591
                have e_620 := mt i_eq.mpr (show ¬ (x2 = (32 : Int32)) from c_591)
                unfold mb_both_73
                refine WP.ite (fun c_622 => ?_) (fun c_622 => ?_)
                · skip
                  have h_624 : x1 = (0 : Int32) := c_622
                  have e_623 := i_eq.mp (show x1 = (0 : Int32) from c_622)
                  unfold mb_both_77
                  unfold mb_both_191
                  have q_626 := i_rng x3
                  have q_627 := i_rng x4
                  have q_628 := i_rng x5
                  first | have e_629 : (x4 + x5).toInt = x4.toInt + (x5.toInt) := i_addn x4 rfl (by omega) (by omega) | have e_630 := i_rng (x4 + x5)
                  refine WP.bind (ms_gives x3 (x4 + x5) F G (show x3.toInt ≤ 32 by omega)) ?_
                  rintro r625 F625 G625 p625
                  dsimp only
                  unfold mb_both_194
                  have q_632 := i_rng x6
                  first | have e_633 : (x6 + (4 : Int32)).toInt = x6.toInt + (4) := i_addn x6 rfl (by omega) (by omega) | have e_634 := i_rng (x6 + (4 : Int32))
                  refine WP.bind (ms_goesOn (x6 + (4 : Int32)) F625 G625) ?_
                  rintro r631 F631 G631 p631
                  dsimp only
                  unfold mb_both_202
                  refine WP.ret ?_
                  exact trivial
                · skip
                  have h_636 : ¬ (x1 = (0 : Int32)) := c_622
                  have e_635 := mt i_eq.mpr (show ¬ (x1 = (0 : Int32)) from c_622)
                  unfold mb_both_85
                  refine WP.ite (fun c_637 => ?_) (fun c_637 => ?_)
                  · skip
                    have h_639 : x1 = (1 : Int32) := c_637
                    have e_638 := i_eq.mp (show x1 = (1 : Int32) from c_637)
                    unfold mb_both_90
                    unfold mb_both_191
                    have q_641 := i_rng x3
                    have q_642 := i_rng x4
                    have q_643 := i_rng x5
                    have l_644 : (31 : Int32).toInt = 31 := rfl
                    have e_645 := i_and x5 (m := (31 : Int32)) 5 (by decide) (by decide)
                    have q_646 := i_rng (x4 <<< ((x5 &&& (31 : Int32)) &&& 31))
                    refine WP.bind (ms_gives x3 (x4 <<< ((x5 &&& (31 : Int32)) &&& 31)) F G (show x3.toInt ≤ 32 by omega)) ?_
                    rintro r640 F640 G640 p640
                    dsimp only
                    unfold mb_both_194
                    have q_648 := i_rng x6
                    first | have e_649 : (x6 + (4 : Int32)).toInt = x6.toInt + (4) := i_addn x6 rfl (by omega) (by omega) | have e_650 := i_rng (x6 + (4 : Int32))
                    refine WP.bind (ms_goesOn (x6 + (4 : Int32)) F640 G640) ?_
                    rintro r647 F647 G647 p647
                    dsimp only
                    unfold mb_both_202
                    refine WP.ret ?_
                    exact trivial
                  · skip
                    have h_652 : ¬ (x1 = (1 : Int32)) := c_637
                    have e_651 := mt i_eq.mpr (show ¬ (x1 = (1 : Int32)) from c_637)
                    unfold mb_both_101
                    refine WP.ite (fun c_653 => ?_) (fun c_653 => ?_)
                    · skip
                      have l_654 : (2 : Int32).toInt = 2 := rfl
                      have h_656 : x1 = (2 : Int32) := c_653
                      have e_655 := i_eq.mp (show x1 = (2 : Int32) from c_653)
                      unfold mb_both_106
                      have l_658 : (36 : Int32).toInt = 36 := rfl
                      have q_659 := i_rng x4
                      have q_660 := i_rng x5
                      refine WP.bind (ms_doing (36 : Int32) x4 x5 F G) ?_
                      rintro r657 _ _ ⟨rfl, rfl⟩
                      dsimp only
                      unfold mb_both_115
                      unfold mb_both_191
                      have q_662 := i_rng x3
                      have q_663 := i_rng r657
                      refine WP.bind (ms_gives x3 r657 F G (show x3.toInt ≤ 32 by omega)) ?_
                      rintro r661 F661 G661 p661
                      dsimp only
                      unfold mb_both_194
                      have q_665 := i_rng x6
                      first | have e_666 : (x6 + (4 : Int32)).toInt = x6.toInt + (4) := i_addn x6 rfl (by omega) (by omega) | have e_667 := i_rng (x6 + (4 : Int32))
                      refine WP.bind (ms_goesOn (x6 + (4 : Int32)) F661 G661) ?_
                      rintro r664 F664 G664 p664
                      dsimp only
                      unfold mb_both_202
                      refine WP.ret ?_
                      exact trivial
                    · skip
                      have l_668 : (2 : Int32).toInt = 2 := rfl
                      have h_670 : ¬ (x1 = (2 : Int32)) := c_653
                      have e_669 := mt i_eq.mpr (show ¬ (x1 = (2 : Int32)) from c_653)
                      unfold mb_both_118
                      refine WP.ite (fun c_671 => ?_) (fun c_671 => ?_)
                      · skip
                        have l_672 : (3 : Int32).toInt = 3 := rfl
                        have h_674 : x1 = (3 : Int32) := c_671
                        have e_673 := i_eq.mp (show x1 = (3 : Int32) from c_671)
                        unfold mb_both_123
                        have l_676 : (36 : Int32).toInt = 36 := rfl
                        have q_677 := i_rng x4
                        first | have e_678 : (x4 + (-2147483648 : Int32)).toInt = x4.toInt + (-2147483648) := i_addn x4 rfl (by omega) (by omega) | have e_679 := i_rng (x4 + (-2147483648 : Int32))
                        have q_680 := i_rng x5
                        first | have e_681 : (x5 + (-2147483648 : Int32)).toInt = x5.toInt + (-2147483648) := i_addn x5 rfl (by omega) (by omega) | have e_682 := i_rng (x5 + (-2147483648 : Int32))
                        refine WP.bind (ms_doing (36 : Int32) (x4 + (-2147483648 : Int32)) (x5 + (-2147483648 : Int32)) F G) ?_
                        rintro r675 _ _ ⟨rfl, rfl⟩
                        dsimp only
                        unfold mb_both_140
                        unfold mb_both_191
                        have q_684 := i_rng x3
                        have q_685 := i_rng r675
                        refine WP.bind (ms_gives x3 r675 F G (show x3.toInt ≤ 32 by omega)) ?_
                        rintro r683 F683 G683 p683
                        dsimp only
                        unfold mb_both_194
                        have q_687 := i_rng x6
                        first | have e_688 : (x6 + (4 : Int32)).toInt = x6.toInt + (4) := i_addn x6 rfl (by omega) (by omega) | have e_689 := i_rng (x6 + (4 : Int32))
                        refine WP.bind (ms_goesOn (x6 + (4 : Int32)) F683 G683) ?_
                        rintro r686 F686 G686 p686
                        dsimp only
                        unfold mb_both_202
                        refine WP.ret ?_
                        exact trivial
                      · skip
                        have l_690 : (3 : Int32).toInt = 3 := rfl
                        have h_692 : ¬ (x1 = (3 : Int32)) := c_671
                        have e_691 := mt i_eq.mpr (show ¬ (x1 = (3 : Int32)) from c_671)
                        unfold mb_both_143
                        refine WP.ite (fun c_693 => ?_) (fun c_693 => ?_)
                        · skip
                          have l_694 : (4 : Int32).toInt = 4 := rfl
                          have h_696 : x1 = (4 : Int32) := c_693
                          have e_695 := i_eq.mp (show x1 = (4 : Int32) from c_693)
                          unfold mb_both_148
                          unfold mb_both_191
                          have q_698 := i_rng x3
                          have q_699 := i_rng x4
                          have q_700 := i_rng x5
                          have q_701 := i_rng (x4 ^^^ x5)
                          refine WP.bind (ms_gives x3 (x4 ^^^ x5) F G (show x3.toInt ≤ 32 by omega)) ?_
                          rintro r697 F697 G697 p697
                          dsimp only
                          unfold mb_both_194
                          have q_703 := i_rng x6
                          first | have e_704 : (x6 + (4 : Int32)).toInt = x6.toInt + (4) := i_addn x6 rfl (by omega) (by omega) | have e_705 := i_rng (x6 + (4 : Int32))
                          refine WP.bind (ms_goesOn (x6 + (4 : Int32)) F697 G697) ?_
                          rintro r702 F702 G702 p702
                          dsimp only
                          unfold mb_both_202
                          refine WP.ret ?_
                          exact trivial
                        · skip
                          have l_706 : (4 : Int32).toInt = 4 := rfl
                          have h_708 : ¬ (x1 = (4 : Int32)) := c_693
                          have e_707 := mt i_eq.mpr (show ¬ (x1 = (4 : Int32)) from c_693)
                          unfold mb_both_156
                          refine WP.ite (fun c_709 => ?_) (fun c_709 => ?_)
                          · skip
                            have h_711 : x1 = (5 : Int32) := c_709
                            have e_710 := i_eq.mp (show x1 = (5 : Int32) from c_709)
                            unfold mb_both_161
                            unfold mb_both_191
                            have q_713 := i_rng x3
                            have q_714 := i_rng x4
                            have q_715 := i_rng x5
                            have l_716 : (31 : Int32).toInt = 31 := rfl
                            have e_717 := i_and x5 (m := (31 : Int32)) 5 (by decide) (by decide)
                            have q_718 := i_rng ((x4.toUInt32 >>> ((x5 &&& (31 : Int32)).toUInt32 &&& Int32.toUInt32 31)).toInt32)
                            refine WP.bind (ms_gives x3 ((x4.toUInt32 >>> ((x5 &&& (31 : Int32)).toUInt32 &&& Int32.toUInt32 31)).toInt32) F G (show x3.toInt ≤ 32 by omega)) ?_
                            rintro r712 F712 G712 p712
                            dsimp only
                            unfold mb_both_194
                            have q_720 := i_rng x6
                            first | have e_721 : (x6 + (4 : Int32)).toInt = x6.toInt + (4) := i_addn x6 rfl (by omega) (by omega) | have e_722 := i_rng (x6 + (4 : Int32))
                            refine WP.bind (ms_goesOn (x6 + (4 : Int32)) F712 G712) ?_
                            rintro r719 F719 G719 p719
                            dsimp only
                            unfold mb_both_202
                            refine WP.ret ?_
                            exact trivial
                          · skip
                            have h_724 : ¬ (x1 = (5 : Int32)) := c_709
                            have e_723 := mt i_eq.mpr (show ¬ (x1 = (5 : Int32)) from c_709)
                            unfold mb_both_172
                            refine WP.ite (fun c_725 => ?_) (fun c_725 => ?_)
                            · skip
                              have l_726 : (6 : Int32).toInt = 6 := rfl
                              have h_728 : x1 = (6 : Int32) := c_725
                              have e_727 := i_eq.mp (show x1 = (6 : Int32) from c_725)
                              unfold mb_both_178
                              unfold mb_both_191
                              have q_730 := i_rng x3
                              have q_731 := i_rng x4
                              have q_732 := i_rng x5
                              have q_733 := i_rng (x4 ||| x5)
                              refine WP.bind (ms_gives x3 (x4 ||| x5) F G (show x3.toInt ≤ 32 by omega)) ?_
                              rintro r729 F729 G729 p729
                              dsimp only
                              unfold mb_both_194
                              have q_735 := i_rng x6
                              first | have e_736 : (x6 + (4 : Int32)).toInt = x6.toInt + (4) := i_addn x6 rfl (by omega) (by omega) | have e_737 := i_rng (x6 + (4 : Int32))
                              refine WP.bind (ms_goesOn (x6 + (4 : Int32)) F729 G729) ?_
                              rintro r734 F734 G734 p734
                              dsimp only
                              unfold mb_both_202
                              refine WP.ret ?_
                              exact trivial
                            · skip
                              have l_738 : (6 : Int32).toInt = 6 := rfl
                              have h_740 : ¬ (x1 = (6 : Int32)) := c_725
                              have e_739 := mt i_eq.mpr (show ¬ (x1 = (6 : Int32)) from c_725)
                              unfold mb_both_186
                              unfold mb_both_191
                              have q_742 := i_rng x3
                              have q_743 := i_rng x4
                              have q_744 := i_rng x5
                              have q_745 := i_rng (x4 &&& x5)
                              refine WP.bind (ms_gives x3 (x4 &&& x5) F G (show x3.toInt ≤ 32 by omega)) ?_
                              rintro r741 F741 G741 p741
                              dsimp only
                              unfold mb_both_194
                              have q_747 := i_rng x6
                              first | have e_748 : (x6 + (4 : Int32)).toInt = x6.toInt + (4) := i_addn x6 rfl (by omega) (by omega) | have e_749 := i_rng (x6 + (4 : Int32))
                              refine WP.bind (ms_goesOn (x6 + (4 : Int32)) F741 G741) ?_
                              rintro r746 F746 G746 p746
                              dsimp only
                              unfold mb_both_202
                              refine WP.ret ?_
                              exact trivial
          · skip
            have l_750 : (5 : Int32).toInt = 5 := rfl
            have h_752 : ¬ (x1 = (5 : Int32)) := c_572
            have e_751 := mt i_eq.mpr (show ¬ (x1 = (5 : Int32)) from c_572)
            unfold mb_both_24
            refine WP.ret ?_
            exact trivial
      · skip
        have l_753 : (32 : Int32).toInt = 32 := rfl
        have h_755 : ¬ (x2 = (32 : Int32)) := c_385
        have e_754 := mt i_eq.mpr (show ¬ (x2 = (32 : Int32)) from c_385)
        unfold mb_both_24
        refine WP.ret ?_
        exact trivial
theorem ms_oneWord {fu : Nat} (hfu : 8589934592 ≤ fu) (F : PF) (G : PG) : WP (mf_oneWord fu F G) (fun r' F' G' => True) := by
  unfold mf_oneWord
  unfold mb_oneWord_0
  have l_1 : (32 : Int32).toInt = 32 := rfl
  refine WP.ix (show vp_in (32 : Int32) 33 from vp_in_iff.mpr ⟨by omega, by omega⟩) ?_
  refine WP.ite (fun c_2 => ?_) (fun c_2 => ?_)
  · skip
    have q_3 := i_rng (G 95 (32 : Int32).toNatClampNeg)
    have l_4 : (3 : Int32).toInt = 3 := rfl
    have e_5 := i_and (G 95 (32 : Int32).toNatClampNeg) (m := (3 : Int32)) 2 (by decide) (by decide)
    have l_6 : (0 : Int32).toInt = 0 := rfl
    have h_8 : ((G 95 (32 : Int32).toNatClampNeg) &&& (3 : Int32)) = (0 : Int32) := c_2
    have e_9 := i_al (x := (G 95 (32 : Int32).toNatClampNeg)) (m := (3 : Int32)) 2 (by decide) (by decide) (show ((G 95 (32 : Int32).toNatClampNeg) &&& (3 : Int32)) = (0 : Int32) from c_2)
    have e_7 := i_eq.mp (show ((G 95 (32 : Int32).toNatClampNeg) &&& (3 : Int32)) = (0 : Int32) from c_2)
    unfold mb_oneWord_14
    refine WP.bind (ms_isOut (G 95 (32 : Int32).toNatClampNeg) F G) ?_
    rintro r10 _ _ ⟨rfl, rfl, p10⟩
    dsimp only
    have q_11 := b_rng p10.1
    have q_12 := p10.2
    unfold mb_oneWord_18
    refine WP.ite (fun c_13 => ?_) (fun c_13 => ?_)
    · skip
      have h_15 : r10 = (0 : Int32) := c_13
      have e_14 := i_eq.mp (show r10 = (0 : Int32) from c_13)
      unfold mb_oneWord_23
      have l_16 : (2 : Int32).toInt = 2 := rfl
      have e_17 : (((G 95 (32 : Int32).toNatClampNeg) >>> ((2 : Int32) &&& 31))).toInt = (G 95 (32 : Int32).toNatClampNeg).toInt / 4 := i_shr 2 (by decide)
      refine WP.ix (show vp_in ((G 95 (32 : Int32).toNatClampNeg) >>> ((2 : Int32) &&& 31)) 4096 from vp_in_iff.mpr ⟨by omega, by omega⟩) ?_
      have q_19 := i_rng (G 94 ((G 95 (32 : Int32).toNatClampNeg) >>> ((2 : Int32) &&& 31)).toNatClampNeg)
      have l_20 : (7 : Int32).toInt = 7 := rfl
      have l_21 : (5 : Int32).toInt = 5 := rfl
      refine WP.bind (ms_part (G 94 ((G 95 (32 : Int32).toNatClampNeg) >>> ((2 : Int32) &&& 31)).toNatClampNeg) (7 : Int32) (5 : Int32) F G) ?_
      rintro r18 _ _ ⟨rfl, rfl, p18⟩
      dsimp only
      have q_22 := p18
      have q_23 := i_rng r18
      have q_24 := p18.1 rfl
      unfold mb_oneWord_39
      have l_26 : (12 : Int32).toInt = 12 := rfl
      refine WP.bind (ms_part (G 94 ((G 95 (32 : Int32).toNatClampNeg) >>> ((2 : Int32) &&& 31)).toNatClampNeg) (12 : Int32) (3 : Int32) F G) ?_
      rintro r25 _ _ ⟨rfl, rfl, p25⟩
      dsimp only
      have q_27 := p25
      have q_28 := i_rng r25
      have q_29 := p25.2 rfl
      unfold mb_oneWord_47
      have l_31 : (25 : Int32).toInt = 25 := rfl
      refine WP.bind (ms_part (G 94 ((G 95 (32 : Int32).toNatClampNeg) >>> ((2 : Int32) &&& 31)).toNatClampNeg) (25 : Int32) (7 : Int32) F G) ?_
      rintro r30 _ _ ⟨rfl, rfl, p30⟩
      dsimp only
      have q_32 := p30
      have q_33 := i_rng r30
      unfold mb_oneWord_57
      have l_35 : (15 : Int32).toInt = 15 := rfl
      refine WP.bind (ms_part (G 94 ((G 95 (32 : Int32).toNatClampNeg) >>> ((2 : Int32) &&& 31)).toNatClampNeg) (15 : Int32) (5 : Int32) F G) ?_
      rintro r34 _ _ ⟨rfl, rfl, p34⟩
      dsimp only
      have q_36 := p34
      have q_37 := i_rng r34
      have q_38 := p34.1 rfl
      unfold mb_oneWord_70
      refine WP.ix (show vp_in r34 33 from vp_in_iff.mpr ⟨by omega, by omega⟩) ?_
      have l_40 : (20 : Int32).toInt = 20 := rfl
      refine WP.bind (ms_part (G 94 ((G 95 (32 : Int32).toNatClampNeg) >>> ((2 : Int32) &&& 31)).toNatClampNeg) (20 : Int32) (5 : Int32) F G) ?_
      rintro r39 _ _ ⟨rfl, rfl, p39⟩
      dsimp only
      have q_41 := p39
      have q_42 := i_rng r39
      have q_43 := p39.1 rfl
      unfold mb_oneWord_84
      refine WP.ix (show vp_in r39 33 from vp_in_iff.mpr ⟨by omega, by omega⟩) ?_
      refine WP.bind (ms_part (G 94 ((G 95 (32 : Int32).toNatClampNeg) >>> ((2 : Int32) &&& 31)).toNatClampNeg) (0 : Int32) (7 : Int32) F G) ?_
      rintro r44 _ _ ⟨rfl, rfl, p44⟩
      dsimp only
      have q_45 := p44
      have q_46 := i_rng r44
      unfold mb_oneWord_100
      refine WP.ite (fun c_47 => ?_) (fun c_47 => ?_)
      · skip
        have h_49 : r44 = (3 : Int32) := c_47
        have e_48 := i_eq.mp (show r44 = (3 : Int32) from c_47)
        unfold mb_oneWord_357
        have q_51 := i_rng (G 95 r34.toNatClampNeg)
        have e_52 : (((G 94 ((G 95 (32 : Int32).toNatClampNeg) >>> ((2 : Int32) &&& 31)).toNatClampNeg) >>> ((20 : Int32) &&& 31))).toInt = (G 94 ((G 95 (32 : Int32).toNatClampNeg) >>> ((2 : Int32) &&& 31)).toNatClampNeg).toInt / 1048576 := i_shr 20 (by decide)
        first | have e_53 : ((G 95 r34.toNatClampNeg) + ((G 94 ((G 95 (32 : Int32).toNatClampNeg) >>> ((2 : Int32) &&& 31)).toNatClampNeg) >>> ((20 : Int32) &&& 31))).toInt = (G 95 r34.toNatClampNeg).toInt + (((G 94 ((G 95 (32 : Int32).toNatClampNeg) >>> ((2 : Int32) &&& 31)).toNatClampNeg) >>> ((20 : Int32) &&& 31)).toInt) := i_addn (G 95 r34.toNatClampNeg) rfl (by omega) (by omega) | have e_54 := i_rng ((G 95 r34.toNatClampNeg) + ((G 94 ((G 95 (32 : Int32).toNatClampNeg) >>> ((2 : Int32) &&& 31)).toNatClampNeg) >>> ((20 : Int32) &&& 31)))
        refine WP.bind (ms_loads hfu r25 r18 ((G 95 r34.toNatClampNeg) + ((G 94 ((G 95 (32 : Int32).toNatClampNeg) >>> ((2 : Int32) &&& 31)).toNatClampNeg) >>> ((20 : Int32) &&& 31))) (G 95 (32 : Int32).toNatClampNeg) F G (show r18.toInt ≤ 32 by omega)) ?_
        rintro r50 F50 G50 p50
        dsimp only
        unfold mb_oneWord_370
        refine WP.ret ?_
        exact trivial
      have h_56 : ¬ (r44 = (3 : Int32)) := c_47
      have e_55 := mt i_eq.mpr (show ¬ (r44 = (3 : Int32)) from c_47)
      refine WP.ite (fun c_57 => ?_) (fun c_57 => ?_)
      · skip
        have h_59 : r44 = (15 : Int32) := c_57
        have e_58 := i_eq.mp (show r44 = (15 : Int32) from c_57)
        unfold mb_oneWord_429
        refine WP.ite (fun c_60 => ?_) (fun c_60 => ?_)
        · skip
          have h_62 : r25 = (0 : Int32) := c_60
          have e_61 := i_eq.mp (show r25 = (0 : Int32) from c_60)
          unfold mb_oneWord_434
          first | have e_64 : ((G 95 (32 : Int32).toNatClampNeg) + (4 : Int32)).toInt = (G 95 (32 : Int32).toNatClampNeg).toInt + (4) := i_addn (G 95 (32 : Int32).toNatClampNeg) rfl (by omega) (by omega) | have e_65 := i_rng ((G 95 (32 : Int32).toNatClampNeg) + (4 : Int32))
          refine WP.bind (ms_goesOn ((G 95 (32 : Int32).toNatClampNeg) + (4 : Int32)) F G) ?_
          rintro r63 F63 G63 p63
          dsimp only
          unfold mb_oneWord_441
          unfold mb_oneWord_445
          refine WP.ret ?_
          exact trivial
        · skip
          have h_67 : ¬ (r25 = (0 : Int32)) := c_60
          have e_66 := mt i_eq.mpr (show ¬ (r25 = (0 : Int32)) from c_60)
          unfold mb_oneWord_444
          unfold mb_oneWord_445
          refine WP.ret ?_
          exact trivial
      have h_69 : ¬ (r44 = (15 : Int32)) := c_57
      have e_68 := mt i_eq.mpr (show ¬ (r44 = (15 : Int32)) from c_57)
      refine WP.ite (fun c_70 => ?_) (fun c_70 => ?_)
      · skip
        have l_71 : (19 : Int32).toInt = 19 := rfl
        have h_73 : r44 = (19 : Int32) := c_70
        have e_72 := i_eq.mp (show r44 = (19 : Int32) from c_70)
        unfold mb_oneWord_392
        refine WP.bind (ms_part (G 94 ((G 95 (32 : Int32).toNatClampNeg) >>> ((2 : Int32) &&& 31)).toNatClampNeg) (20 : Int32) (5 : Int32) F G) ?_
        rintro r74 _ _ ⟨rfl, rfl, p74⟩
        dsimp only
        have q_75 := p74
        have q_76 := i_rng r74
        have q_77 := p74.1 rfl
        unfold mb_oneWord_409
        have q_79 := i_rng (G 95 r34.toNatClampNeg)
        have e_80 : (((G 94 ((G 95 (32 : Int32).toNatClampNeg) >>> ((2 : Int32) &&& 31)).toNatClampNeg) >>> ((20 : Int32) &&& 31))).toInt = (G 94 ((G 95 (32 : Int32).toNatClampNeg) >>> ((2 : Int32) &&& 31)).toNatClampNeg).toInt / 1048576 := i_shr 20 (by decide)
        refine WP.bind (ms_immediate r25 r30 r18 (G 95 r34.toNatClampNeg) ((G 94 ((G 95 (32 : Int32).toNatClampNeg) >>> ((2 : Int32) &&& 31)).toNatClampNeg) >>> ((20 : Int32) &&& 31)) r74 (G 95 (32 : Int32).toNatClampNeg) F G (show r18.toInt ≤ 32 by omega)) ?_
        rintro r78 F78 G78 p78
        dsimp only
        unfold mb_oneWord_413
        refine WP.ret ?_
        exact trivial
      have l_81 : (19 : Int32).toInt = 19 := rfl
      have h_83 : ¬ (r44 = (19 : Int32)) := c_70
      have e_82 := mt i_eq.mpr (show ¬ (r44 = (19 : Int32)) from c_70)
      refine WP.ite (fun c_84 => ?_) (fun c_84 => ?_)
      · skip
        have l_85 : (23 : Int32).toInt = 23 := rfl
        have h_87 : r44 = (23 : Int32) := c_84
        have e_86 := i_eq.mp (show r44 = (23 : Int32) from c_84)
        unfold mb_oneWord_210
        have l_89 : (-4096 : Int32).toInt = -4096 := rfl
        have q_90 := i_rng ((G 94 ((G 95 (32 : Int32).toNatClampNeg) >>> ((2 : Int32) &&& 31)).toNatClampNeg) &&& (-4096 : Int32))
        first | have e_91 : ((G 95 (32 : Int32).toNatClampNeg) + ((G 94 ((G 95 (32 : Int32).toNatClampNeg) >>> ((2 : Int32) &&& 31)).toNatClampNeg) &&& (-4096 : Int32))).toInt = (G 95 (32 : Int32).toNatClampNeg).toInt + (((G 94 ((G 95 (32 : Int32).toNatClampNeg) >>> ((2 : Int32) &&& 31)).toNatClampNeg) &&& (-4096 : Int32)).toInt) := i_addn (G 95 (32 : Int32).toNatClampNeg) rfl (by omega) (by omega) | have e_92 := i_rng ((G 95 (32 : Int32).toNatClampNeg) + ((G 94 ((G 95 (32 : Int32).toNatClampNeg) >>> ((2 : Int32) &&& 31)).toNatClampNeg) &&& (-4096 : Int32)))
        refine WP.bind (ms_gives r18 ((G 95 (32 : Int32).toNatClampNeg) + ((G 94 ((G 95 (32 : Int32).toNatClampNeg) >>> ((2 : Int32) &&& 31)).toNatClampNeg) &&& (-4096 : Int32))) F G (show r18.toInt ≤ 32 by omega)) ?_
        rintro r88 F88 G88 p88
        dsimp only
        unfold mb_oneWord_222
        first | have e_94 : ((G 95 (32 : Int32).toNatClampNeg) + (4 : Int32)).toInt = (G 95 (32 : Int32).toNatClampNeg).toInt + (4) := i_addn (G 95 (32 : Int32).toNatClampNeg) rfl (by omega) (by omega) | have e_95 := i_rng ((G 95 (32 : Int32).toNatClampNeg) + (4 : Int32))
        refine WP.bind (ms_goesOn ((G 95 (32 : Int32).toNatClampNeg) + (4 : Int32)) F88 G88) ?_
        rintro r93 F93 G93 p93
        dsimp only
        unfold mb_oneWord_229
        refine WP.ret ?_
        exact trivial
      have l_96 : (23 : Int32).toInt = 23 := rfl
      have h_98 : ¬ (r44 = (23 : Int32)) := c_84
      have e_97 := mt i_eq.mpr (show ¬ (r44 = (23 : Int32)) from c_84)
      refine WP.ite (fun c_99 => ?_) (fun c_99 => ?_)
      · skip
        have l_100 : (35 : Int32).toInt = 35 := rfl
        have h_102 : r44 = (35 : Int32) := c_99
        have e_101 := i_eq.mp (show r44 = (35 : Int32) from c_99)
        unfold mb_oneWord_371
        have q_104 := i_rng (G 95 r34.toNatClampNeg)
        have e_105 : (((G 94 ((G 95 (32 : Int32).toNatClampNeg) >>> ((2 : Int32) &&& 31)).toNatClampNeg) >>> ((25 : Int32) &&& 31))).toInt = (G 94 ((G 95 (32 : Int32).toNatClampNeg) >>> ((2 : Int32) &&& 31)).toNatClampNeg).toInt / 33554432 := i_shr 25 (by decide)
        have q_106 := i_rng (((G 94 ((G 95 (32 : Int32).toNatClampNeg) >>> ((2 : Int32) &&& 31)).toNatClampNeg) >>> ((25 : Int32) &&& 31)) <<< ((5 : Int32) &&& 31))
        have q_107 := i_rng ((((G 94 ((G 95 (32 : Int32).toNatClampNeg) >>> ((2 : Int32) &&& 31)).toNatClampNeg) >>> ((25 : Int32) &&& 31)) <<< ((5 : Int32) &&& 31)) ||| r18)
        first | have e_108 : ((G 95 r34.toNatClampNeg) + ((((G 94 ((G 95 (32 : Int32).toNatClampNeg) >>> ((2 : Int32) &&& 31)).toNatClampNeg) >>> ((25 : Int32) &&& 31)) <<< ((5 : Int32) &&& 31)) ||| r18)).toInt = (G 95 r34.toNatClampNeg).toInt + (((((G 94 ((G 95 (32 : Int32).toNatClampNeg) >>> ((2 : Int32) &&& 31)).toNatClampNeg) >>> ((25 : Int32) &&& 31)) <<< ((5 : Int32) &&& 31)) ||| r18).toInt) := i_addn (G 95 r34.toNatClampNeg) rfl (by omega) (by omega) | have e_109 := i_rng ((G 95 r34.toNatClampNeg) + ((((G 94 ((G 95 (32 : Int32).toNatClampNeg) >>> ((2 : Int32) &&& 31)).toNatClampNeg) >>> ((25 : Int32) &&& 31)) <<< ((5 : Int32) &&& 31)) ||| r18))
        have q_110 := i_rng (G 95 r39.toNatClampNeg)
        refine WP.bind (ms_stores hfu r25 ((G 95 r34.toNatClampNeg) + ((((G 94 ((G 95 (32 : Int32).toNatClampNeg) >>> ((2 : Int32) &&& 31)).toNatClampNeg) >>> ((25 : Int32) &&& 31)) <<< ((5 : Int32) &&& 31)) ||| r18)) (G 95 r39.toNatClampNeg) (G 95 (32 : Int32).toNatClampNeg) F G (show 0 ≤ r25.toInt by omega)) ?_
        rintro r103 F103 G103 p103
        dsimp only
        unfold mb_oneWord_391
        refine WP.ret ?_
        exact trivial
      have l_111 : (35 : Int32).toInt = 35 := rfl
      have h_113 : ¬ (r44 = (35 : Int32)) := c_99
      have e_112 := mt i_eq.mpr (show ¬ (r44 = (35 : Int32)) from c_99)
      refine WP.ite (fun c_114 => ?_) (fun c_114 => ?_)
      · skip
        have l_115 : (51 : Int32).toInt = 51 := rfl
        have h_117 : r44 = (51 : Int32) := c_114
        have e_116 := i_eq.mp (show r44 = (51 : Int32) from c_114)
        unfold mb_oneWord_414
        have q_119 := i_rng (G 95 r34.toNatClampNeg)
        have q_120 := i_rng (G 95 r39.toNatClampNeg)
        refine WP.bind (ms_both r25 r30 r18 (G 95 r34.toNatClampNeg) (G 95 r39.toNatClampNeg) (G 95 (32 : Int32).toNatClampNeg) F G (show r18.toInt ≤ 32 by omega)) ?_
        rintro r118 F118 G118 p118
        dsimp only
        unfold mb_oneWord_428
        refine WP.ret ?_
        exact trivial
      have l_121 : (51 : Int32).toInt = 51 := rfl
      have h_123 : ¬ (r44 = (51 : Int32)) := c_114
      have e_122 := mt i_eq.mpr (show ¬ (r44 = (51 : Int32)) from c_114)
      refine WP.ite (fun c_124 => ?_) (fun c_124 => ?_)
      · skip
        have l_125 : (55 : Int32).toInt = 55 := rfl
        have h_127 : r44 = (55 : Int32) := c_124
        have e_126 := i_eq.mp (show r44 = (55 : Int32) from c_124)
        unfold mb_oneWord_192
        have l_129 : (-4096 : Int32).toInt = -4096 := rfl
        have q_130 := i_rng ((G 94 ((G 95 (32 : Int32).toNatClampNeg) >>> ((2 : Int32) &&& 31)).toNatClampNeg) &&& (-4096 : Int32))
        refine WP.bind (ms_gives r18 ((G 94 ((G 95 (32 : Int32).toNatClampNeg) >>> ((2 : Int32) &&& 31)).toNatClampNeg) &&& (-4096 : Int32)) F G (show r18.toInt ≤ 32 by omega)) ?_
        rintro r128 F128 G128 p128
        dsimp only
        unfold mb_oneWord_202
        first | have e_132 : ((G 95 (32 : Int32).toNatClampNeg) + (4 : Int32)).toInt = (G 95 (32 : Int32).toNatClampNeg).toInt + (4) := i_addn (G 95 (32 : Int32).toNatClampNeg) rfl (by omega) (by omega) | have e_133 := i_rng ((G 95 (32 : Int32).toNatClampNeg) + (4 : Int32))
        refine WP.bind (ms_goesOn ((G 95 (32 : Int32).toNatClampNeg) + (4 : Int32)) F128 G128) ?_
        rintro r131 F131 G131 p131
        dsimp only
        unfold mb_oneWord_209
        refine WP.ret ?_
        exact trivial
      have l_134 : (55 : Int32).toInt = 55 := rfl
      have h_136 : ¬ (r44 = (55 : Int32)) := c_124
      have e_135 := mt i_eq.mpr (show ¬ (r44 = (55 : Int32)) from c_124)
      refine WP.ite (fun c_137 => ?_) (fun c_137 => ?_)
      · skip
        have l_138 : (99 : Int32).toInt = 99 := rfl
        have h_140 : r44 = (99 : Int32) := c_137
        have e_139 := i_eq.mp (show r44 = (99 : Int32) from c_137)
        unfold mb_oneWord_304
        have l_142 : (1 : Int32).toInt = 1 := rfl
        refine WP.bind (ms_part (G 94 ((G 95 (32 : Int32).toNatClampNeg) >>> ((2 : Int32) &&& 31)).toNatClampNeg) (7 : Int32) (1 : Int32) F G) ?_
        rintro r141 _ _ ⟨rfl, rfl, p141⟩
        dsimp only
        have q_143 := p141
        have q_144 := i_rng r141
        unfold mb_oneWord_326
        have l_146 : (6 : Int32).toInt = 6 := rfl
        refine WP.bind (ms_part (G 94 ((G 95 (32 : Int32).toNatClampNeg) >>> ((2 : Int32) &&& 31)).toNatClampNeg) (25 : Int32) (6 : Int32) F G) ?_
        rintro r145 _ _ ⟨rfl, rfl, p145⟩
        dsimp only
        have q_147 := p145
        have q_148 := i_rng r145
        unfold mb_oneWord_338
        have l_150 : (8 : Int32).toInt = 8 := rfl
        have l_151 : (4 : Int32).toInt = 4 := rfl
        refine WP.bind (ms_part (G 94 ((G 95 (32 : Int32).toNatClampNeg) >>> ((2 : Int32) &&& 31)).toNatClampNeg) (8 : Int32) (4 : Int32) F G) ?_
        rintro r149 _ _ ⟨rfl, rfl, p149⟩
        dsimp only
        have q_152 := p149
        have q_153 := i_rng r149
        unfold mb_oneWord_348
        have q_155 := i_rng (G 95 r34.toNatClampNeg)
        have q_156 := i_rng (G 95 r39.toNatClampNeg)
        have l_157 : (31 : Int32).toInt = 31 := rfl
        have e_158 : (((G 94 ((G 95 (32 : Int32).toNatClampNeg) >>> ((2 : Int32) &&& 31)).toNatClampNeg) >>> ((31 : Int32) &&& 31))).toInt = (G 94 ((G 95 (32 : Int32).toNatClampNeg) >>> ((2 : Int32) &&& 31)).toNatClampNeg).toInt / 2147483648 := i_shr 31 (by decide)
        have q_159 := i_rng (((G 94 ((G 95 (32 : Int32).toNatClampNeg) >>> ((2 : Int32) &&& 31)).toNatClampNeg) >>> ((31 : Int32) &&& 31)) <<< ((12 : Int32) &&& 31))
        have l_160 : (11 : Int32).toInt = 11 := rfl
        have q_161 := i_rng (r141 <<< ((11 : Int32) &&& 31))
        have q_162 := i_rng ((((G 94 ((G 95 (32 : Int32).toNatClampNeg) >>> ((2 : Int32) &&& 31)).toNatClampNeg) >>> ((31 : Int32) &&& 31)) <<< ((12 : Int32) &&& 31)) ||| (r141 <<< ((11 : Int32) &&& 31)))
        have q_163 := i_rng (r145 <<< ((5 : Int32) &&& 31))
        have q_164 := i_rng (((((G 94 ((G 95 (32 : Int32).toNatClampNeg) >>> ((2 : Int32) &&& 31)).toNatClampNeg) >>> ((31 : Int32) &&& 31)) <<< ((12 : Int32) &&& 31)) ||| (r141 <<< ((11 : Int32) &&& 31))) ||| (r145 <<< ((5 : Int32) &&& 31)))
        have q_165 := i_rng (r149 <<< ((1 : Int32) &&& 31))
        have q_166 := i_rng ((((((G 94 ((G 95 (32 : Int32).toNatClampNeg) >>> ((2 : Int32) &&& 31)).toNatClampNeg) >>> ((31 : Int32) &&& 31)) <<< ((12 : Int32) &&& 31)) ||| (r141 <<< ((11 : Int32) &&& 31))) ||| (r145 <<< ((5 : Int32) &&& 31))) ||| (r149 <<< ((1 : Int32) &&& 31)))
        first | have e_167 : ((G 95 (32 : Int32).toNatClampNeg) + ((((((G 94 ((G 95 (32 : Int32).toNatClampNeg) >>> ((2 : Int32) &&& 31)).toNatClampNeg) >>> ((31 : Int32) &&& 31)) <<< ((12 : Int32) &&& 31)) ||| (r141 <<< ((11 : Int32) &&& 31))) ||| (r145 <<< ((5 : Int32) &&& 31))) ||| (r149 <<< ((1 : Int32) &&& 31)))).toInt = (G 95 (32 : Int32).toNatClampNeg).toInt + (((((((G 94 ((G 95 (32 : Int32).toNatClampNeg) >>> ((2 : Int32) &&& 31)).toNatClampNeg) >>> ((31 : Int32) &&& 31)) <<< ((12 : Int32) &&& 31)) ||| (r141 <<< ((11 : Int32) &&& 31))) ||| (r145 <<< ((5 : Int32) &&& 31))) ||| (r149 <<< ((1 : Int32) &&& 31))).toInt) := i_addn (G 95 (32 : Int32).toNatClampNeg) rfl (by omega) (by omega) | have e_168 := i_rng ((G 95 (32 : Int32).toNatClampNeg) + ((((((G 94 ((G 95 (32 : Int32).toNatClampNeg) >>> ((2 : Int32) &&& 31)).toNatClampNeg) >>> ((31 : Int32) &&& 31)) <<< ((12 : Int32) &&& 31)) ||| (r141 <<< ((11 : Int32) &&& 31))) ||| (r145 <<< ((5 : Int32) &&& 31))) ||| (r149 <<< ((1 : Int32) &&& 31))))
        refine WP.bind (ms_branches r25 (G 95 r34.toNatClampNeg) (G 95 r39.toNatClampNeg) ((G 95 (32 : Int32).toNatClampNeg) + ((((((G 94 ((G 95 (32 : Int32).toNatClampNeg) >>> ((2 : Int32) &&& 31)).toNatClampNeg) >>> ((31 : Int32) &&& 31)) <<< ((12 : Int32) &&& 31)) ||| (r141 <<< ((11 : Int32) &&& 31))) ||| (r145 <<< ((5 : Int32) &&& 31))) ||| (r149 <<< ((1 : Int32) &&& 31)))) (G 95 (32 : Int32).toNatClampNeg) F G) ?_
        rintro r154 F154 G154 p154
        dsimp only
        unfold mb_oneWord_356
        refine WP.ret ?_
        exact trivial
      have l_169 : (99 : Int32).toInt = 99 := rfl
      have h_171 : ¬ (r44 = (99 : Int32)) := c_137
      have e_170 := mt i_eq.mpr (show ¬ (r44 = (99 : Int32)) from c_137)
      refine WP.ite (fun c_172 => ?_) (fun c_172 => ?_)
      · skip
        have l_173 : (103 : Int32).toInt = 103 := rfl
        have h_175 : r44 = (103 : Int32) := c_172
        have e_174 := i_eq.mp (show r44 = (103 : Int32) from c_172)
        unfold mb_oneWord_280
        refine WP.ite (fun c_176 => ?_) (fun c_176 => ?_)
        · skip
          have h_178 : r25 = (0 : Int32) := c_176
          have e_177 := i_eq.mp (show r25 = (0 : Int32) from c_176)
          unfold mb_oneWord_285
          have q_180 := i_rng (G 95 r34.toNatClampNeg)
          have e_181 : (((G 94 ((G 95 (32 : Int32).toNatClampNeg) >>> ((2 : Int32) &&& 31)).toNatClampNeg) >>> ((20 : Int32) &&& 31))).toInt = (G 94 ((G 95 (32 : Int32).toNatClampNeg) >>> ((2 : Int32) &&& 31)).toNatClampNeg).toInt / 1048576 := i_shr 20 (by decide)
          first | have e_182 : ((G 95 r34.toNatClampNeg) + ((G 94 ((G 95 (32 : Int32).toNatClampNeg) >>> ((2 : Int32) &&& 31)).toNatClampNeg) >>> ((20 : Int32) &&& 31))).toInt = (G 95 r34.toNatClampNeg).toInt + (((G 94 ((G 95 (32 : Int32).toNatClampNeg) >>> ((2 : Int32) &&& 31)).toNatClampNeg) >>> ((20 : Int32) &&& 31)).toInt) := i_addn (G 95 r34.toNatClampNeg) rfl (by omega) (by omega) | have e_183 := i_rng ((G 95 r34.toNatClampNeg) + ((G 94 ((G 95 (32 : Int32).toNatClampNeg) >>> ((2 : Int32) &&& 31)).toNatClampNeg) >>> ((20 : Int32) &&& 31)))
          have l_184 : (-2 : Int32).toInt = -2 := rfl
          have q_185 := i_rng (((G 95 r34.toNatClampNeg) + ((G 94 ((G 95 (32 : Int32).toNatClampNeg) >>> ((2 : Int32) &&& 31)).toNatClampNeg) >>> ((20 : Int32) &&& 31))) &&& (-2 : Int32))
          refine WP.bind (ms_jumps r18 (((G 95 r34.toNatClampNeg) + ((G 94 ((G 95 (32 : Int32).toNatClampNeg) >>> ((2 : Int32) &&& 31)).toNatClampNeg) >>> ((20 : Int32) &&& 31))) &&& (-2 : Int32)) (G 95 (32 : Int32).toNatClampNeg) F G (show r18.toInt ≤ 32 by omega)) ?_
          rintro r179 F179 G179 p179
          dsimp only
          unfold mb_oneWord_299
          unfold mb_oneWord_303
          refine WP.ret ?_
          exact trivial
        · skip
          have h_187 : ¬ (r25 = (0 : Int32)) := c_176
          have e_186 := mt i_eq.mpr (show ¬ (r25 = (0 : Int32)) from c_176)
          unfold mb_oneWord_302
          unfold mb_oneWord_303
          refine WP.ret ?_
          exact trivial
      have l_188 : (103 : Int32).toInt = 103 := rfl
      have h_190 : ¬ (r44 = (103 : Int32)) := c_172
      have e_189 := mt i_eq.mpr (show ¬ (r44 = (103 : Int32)) from c_172)
      refine WP.ite (fun c_191 => ?_) (fun c_191 => ?_)
      · skip
        have l_192 : (111 : Int32).toInt = 111 := rfl
        have h_194 : r44 = (111 : Int32) := c_191
        have e_193 := i_eq.mp (show r44 = (111 : Int32) from c_191)
        unfold mb_oneWord_230
        have l_196 : (8 : Int32).toInt = 8 := rfl
        refine WP.bind (ms_part (G 94 ((G 95 (32 : Int32).toNatClampNeg) >>> ((2 : Int32) &&& 31)).toNatClampNeg) (12 : Int32) (8 : Int32) F G) ?_
        rintro r195 _ _ ⟨rfl, rfl, p195⟩
        dsimp only
        have q_197 := p195
        have q_198 := i_rng r195
        unfold mb_oneWord_248
        have l_200 : (1 : Int32).toInt = 1 := rfl
        refine WP.bind (ms_part (G 94 ((G 95 (32 : Int32).toNatClampNeg) >>> ((2 : Int32) &&& 31)).toNatClampNeg) (20 : Int32) (1 : Int32) F G) ?_
        rintro r199 _ _ ⟨rfl, rfl, p199⟩
        dsimp only
        have q_201 := p199
        have q_202 := i_rng r199
        unfold mb_oneWord_259
        have l_204 : (21 : Int32).toInt = 21 := rfl
        have l_205 : (10 : Int32).toInt = 10 := rfl
        refine WP.bind (ms_part (G 94 ((G 95 (32 : Int32).toNatClampNeg) >>> ((2 : Int32) &&& 31)).toNatClampNeg) (21 : Int32) (10 : Int32) F G) ?_
        rintro r203 _ _ ⟨rfl, rfl, p203⟩
        dsimp only
        have q_206 := p203
        have q_207 := i_rng r203
        unfold mb_oneWord_271
        have l_209 : (31 : Int32).toInt = 31 := rfl
        have e_210 : (((G 94 ((G 95 (32 : Int32).toNatClampNeg) >>> ((2 : Int32) &&& 31)).toNatClampNeg) >>> ((31 : Int32) &&& 31))).toInt = (G 94 ((G 95 (32 : Int32).toNatClampNeg) >>> ((2 : Int32) &&& 31)).toNatClampNeg).toInt / 2147483648 := i_shr 31 (by decide)
        have q_211 := i_rng (((G 94 ((G 95 (32 : Int32).toNatClampNeg) >>> ((2 : Int32) &&& 31)).toNatClampNeg) >>> ((31 : Int32) &&& 31)) <<< ((20 : Int32) &&& 31))
        have q_212 := i_rng (r195 <<< ((12 : Int32) &&& 31))
        have q_213 := i_rng ((((G 94 ((G 95 (32 : Int32).toNatClampNeg) >>> ((2 : Int32) &&& 31)).toNatClampNeg) >>> ((31 : Int32) &&& 31)) <<< ((20 : Int32) &&& 31)) ||| (r195 <<< ((12 : Int32) &&& 31)))
        have l_214 : (11 : Int32).toInt = 11 := rfl
        have q_215 := i_rng (r199 <<< ((11 : Int32) &&& 31))
        have q_216 := i_rng (((((G 94 ((G 95 (32 : Int32).toNatClampNeg) >>> ((2 : Int32) &&& 31)).toNatClampNeg) >>> ((31 : Int32) &&& 31)) <<< ((20 : Int32) &&& 31)) ||| (r195 <<< ((12 : Int32) &&& 31))) ||| (r199 <<< ((11 : Int32) &&& 31)))
        have q_217 := i_rng (r203 <<< ((1 : Int32) &&& 31))
        have q_218 := i_rng ((((((G 94 ((G 95 (32 : Int32).toNatClampNeg) >>> ((2 : Int32) &&& 31)).toNatClampNeg) >>> ((31 : Int32) &&& 31)) <<< ((20 : Int32) &&& 31)) ||| (r195 <<< ((12 : Int32) &&& 31))) ||| (r199 <<< ((11 : Int32) &&& 31))) ||| (r203 <<< ((1 : Int32) &&& 31)))
        first | have e_219 : ((G 95 (32 : Int32).toNatClampNeg) + ((((((G 94 ((G 95 (32 : Int32).toNatClampNeg) >>> ((2 : Int32) &&& 31)).toNatClampNeg) >>> ((31 : Int32) &&& 31)) <<< ((20 : Int32) &&& 31)) ||| (r195 <<< ((12 : Int32) &&& 31))) ||| (r199 <<< ((11 : Int32) &&& 31))) ||| (r203 <<< ((1 : Int32) &&& 31)))).toInt = (G 95 (32 : Int32).toNatClampNeg).toInt + (((((((G 94 ((G 95 (32 : Int32).toNatClampNeg) >>> ((2 : Int32) &&& 31)).toNatClampNeg) >>> ((31 : Int32) &&& 31)) <<< ((20 : Int32) &&& 31)) ||| (r195 <<< ((12 : Int32) &&& 31))) ||| (r199 <<< ((11 : Int32) &&& 31))) ||| (r203 <<< ((1 : Int32) &&& 31))).toInt) := i_addn (G 95 (32 : Int32).toNatClampNeg) rfl (by omega) (by omega) | have e_220 := i_rng ((G 95 (32 : Int32).toNatClampNeg) + ((((((G 94 ((G 95 (32 : Int32).toNatClampNeg) >>> ((2 : Int32) &&& 31)).toNatClampNeg) >>> ((31 : Int32) &&& 31)) <<< ((20 : Int32) &&& 31)) ||| (r195 <<< ((12 : Int32) &&& 31))) ||| (r199 <<< ((11 : Int32) &&& 31))) ||| (r203 <<< ((1 : Int32) &&& 31))))
        refine WP.bind (ms_jumps r18 ((G 95 (32 : Int32).toNatClampNeg) + ((((((G 94 ((G 95 (32 : Int32).toNatClampNeg) >>> ((2 : Int32) &&& 31)).toNatClampNeg) >>> ((31 : Int32) &&& 31)) <<< ((20 : Int32) &&& 31)) ||| (r195 <<< ((12 : Int32) &&& 31))) ||| (r199 <<< ((11 : Int32) &&& 31))) ||| (r203 <<< ((1 : Int32) &&& 31)))) (G 95 (32 : Int32).toNatClampNeg) F G (show r18.toInt ≤ 32 by omega)) ?_
        rintro r208 F208 G208 p208
        dsimp only
        unfold mb_oneWord_279
        refine WP.ret ?_
        exact trivial
      have l_221 : (111 : Int32).toInt = 111 := rfl
      have h_223 : ¬ (r44 = (111 : Int32)) := c_191
      have e_222 := mt i_eq.mpr (show ¬ (r44 = (111 : Int32)) from c_191)
      unfold mb_oneWord_446
      refine WP.ite (fun c_224 => ?_) (fun c_224 => ?_)
      · skip
        have l_225 : (115 : Int32).toInt = 115 := rfl
        have h_227 : (G 94 ((G 95 (32 : Int32).toNatClampNeg) >>> ((2 : Int32) &&& 31)).toNatClampNeg) = (115 : Int32) := c_224
        have e_226 := i_eq.mp (show (G 94 ((G 95 (32 : Int32).toNatClampNeg) >>> ((2 : Int32) &&& 31)).toNatClampNeg) = (115 : Int32) from c_224)
        unfold mb_oneWord_461
        first | have e_229 : ((G 95 (32 : Int32).toNatClampNeg) + (4 : Int32)).toInt = (G 95 (32 : Int32).toNatClampNeg).toInt + (4) := i_addn (G 95 (32 : Int32).toNatClampNeg) rfl (by omega) (by omega) | have e_230 := i_rng ((G 95 (32 : Int32).toNatClampNeg) + (4 : Int32))
        refine WP.bind (ms_goesOn ((G 95 (32 : Int32).toNatClampNeg) + (4 : Int32)) F G) ?_
        rintro r228 F228 G228 p228
        dsimp only
        unfold mb_oneWord_468
        refine WP.ite (fun c_231 => ?_) (fun c_231 => ?_)
        · skip
          have h_233 : (G 94 ((G 95 (32 : Int32).toNatClampNeg) >>> ((2 : Int32) &&& 31)).toNatClampNeg) = (115 : Int32) := c_231
          have e_232 := i_eq.mp (show (G 94 ((G 95 (32 : Int32).toNatClampNeg) >>> ((2 : Int32) &&& 31)).toNatClampNeg) = (115 : Int32) from c_231)
          unfold mb_oneWord_474
          unfold mb_oneWord_481
          refine WP.ret ?_
          exact trivial
        · skip
          have h_235 : ¬ ((G 94 ((G 95 (32 : Int32).toNatClampNeg) >>> ((2 : Int32) &&& 31)).toNatClampNeg) = (115 : Int32)) := c_231
          have e_234 := mt i_eq.mpr (show ¬ ((G 94 ((G 95 (32 : Int32).toNatClampNeg) >>> ((2 : Int32) &&& 31)).toNatClampNeg) = (115 : Int32)) from c_231)
          unfold mb_oneWord_479
          unfold mb_oneWord_481
          refine WP.ret ?_
          exact trivial
      · skip
        have l_236 : (115 : Int32).toInt = 115 := rfl
        have h_238 : ¬ ((G 94 ((G 95 (32 : Int32).toNatClampNeg) >>> ((2 : Int32) &&& 31)).toNatClampNeg) = (115 : Int32)) := c_224
        have e_237 := mt i_eq.mpr (show ¬ ((G 94 ((G 95 (32 : Int32).toNatClampNeg) >>> ((2 : Int32) &&& 31)).toNatClampNeg) = (115 : Int32)) from c_224)
        unfold mb_oneWord_452
        refine WP.ite (fun c_239 => ?_) (fun c_239 => ?_)
        · skip
          have l_240 : (1048691 : Int32).toInt = 1048691 := rfl
          have h_242 : (G 94 ((G 95 (32 : Int32).toNatClampNeg) >>> ((2 : Int32) &&& 31)).toNatClampNeg) = (1048691 : Int32) := c_239
          have e_241 := i_eq.mp (show (G 94 ((G 95 (32 : Int32).toNatClampNeg) >>> ((2 : Int32) &&& 31)).toNatClampNeg) = (1048691 : Int32) from c_239)
          unfold mb_oneWord_461
          first | have e_244 : ((G 95 (32 : Int32).toNatClampNeg) + (4 : Int32)).toInt = (G 95 (32 : Int32).toNatClampNeg).toInt + (4) := i_addn (G 95 (32 : Int32).toNatClampNeg) rfl (by omega) (by omega) | have e_245 := i_rng ((G 95 (32 : Int32).toNatClampNeg) + (4 : Int32))
          refine WP.bind (ms_goesOn ((G 95 (32 : Int32).toNatClampNeg) + (4 : Int32)) F G) ?_
          rintro r243 F243 G243 p243
          dsimp only
          unfold mb_oneWord_468
          refine WP.ite (fun c_246 => ?_) (fun c_246 => ?_)
          · skip
            have h_248 : (G 94 ((G 95 (32 : Int32).toNatClampNeg) >>> ((2 : Int32) &&& 31)).toNatClampNeg) = (115 : Int32) := c_246
            have e_247 := i_eq.mp (show (G 94 ((G 95 (32 : Int32).toNatClampNeg) >>> ((2 : Int32) &&& 31)).toNatClampNeg) = (115 : Int32) from c_246)
            unfold mb_oneWord_474
            unfold mb_oneWord_481
            refine WP.ret ?_
            exact trivial
          · skip
            have h_250 : ¬ ((G 94 ((G 95 (32 : Int32).toNatClampNeg) >>> ((2 : Int32) &&& 31)).toNatClampNeg) = (115 : Int32)) := c_246
            have e_249 := mt i_eq.mpr (show ¬ ((G 94 ((G 95 (32 : Int32).toNatClampNeg) >>> ((2 : Int32) &&& 31)).toNatClampNeg) = (115 : Int32)) from c_246)
            unfold mb_oneWord_479
            unfold mb_oneWord_481
            refine WP.ret ?_
            exact trivial
        · skip
          have l_251 : (1048691 : Int32).toInt = 1048691 := rfl
          have h_253 : ¬ ((G 94 ((G 95 (32 : Int32).toNatClampNeg) >>> ((2 : Int32) &&& 31)).toNatClampNeg) = (1048691 : Int32)) := c_239
          have e_252 := mt i_eq.mpr (show ¬ ((G 94 ((G 95 (32 : Int32).toNatClampNeg) >>> ((2 : Int32) &&& 31)).toNatClampNeg) = (1048691 : Int32)) from c_239)
          unfold mb_oneWord_459
          refine WP.ret ?_
          exact trivial
    · skip
      have h_255 : ¬ (r10 = (0 : Int32)) := c_13
      have e_254 := mt i_eq.mpr (show ¬ (r10 = (0 : Int32)) from c_13)
      unfold mb_oneWord_21
      refine WP.ret ?_
      exact trivial
  · skip
    have q_256 := i_rng (G 95 (32 : Int32).toNatClampNeg)
    have l_257 : (3 : Int32).toInt = 3 := rfl
    have e_258 := i_and (G 95 (32 : Int32).toNatClampNeg) (m := (3 : Int32)) 2 (by decide) (by decide)
    have l_259 : (0 : Int32).toInt = 0 := rfl
    have h_261 : ¬ (((G 95 (32 : Int32).toNatClampNeg) &&& (3 : Int32)) = (0 : Int32)) := c_2
    have e_260 := mt i_eq.mpr (show ¬ (((G 95 (32 : Int32).toNatClampNeg) &&& (3 : Int32)) = (0 : Int32)) from c_2)
    unfold mb_oneWord_21
    refine WP.ret ?_
    exact trivial
theorem msz_go_18 {fu : Nat} {F0 : PF} {G0 : PG} (hfu : 8589934592 ≤ fu) : ∀ (n : Nat) (x1 : Int32) (x2 : Int32) (x3 : Int32) (F : PF) (G : PG) (i_0 : x1.toInt ≤ 1000) (i_1 : 0 ≤ x3.toInt) (hn : (1001 - x3.toInt).toNat < n), WP (ml_go_18 fu n x1 x2 x3 F G) (fun r' F' G' => True) := by
  intro n
  induction n with
  | zero =>
    intro x1 x2 x3 F G i_0 i_1 hn
    exact absurd hn (Nat.not_lt_zero _)
  | succ n ihn =>
    intro x1 x2 x3 F G i_0 i_1 hn
    show WP (mb_go_18 fu (ml_go_18 fu n) x1 x2 x3 F G) _
    unfold mb_go_18
    refine WP.ite (fun c_1 => ?_) (fun c_1 => ?_)
    · skip
      have q_2 := i_rng x1
      have q_3 := i_rng x3
      have e_4 := i_le.mp (show x1 ≤ x3 from c_1)
      unfold mb_go_38
      refine WP.ret ?_
      exact trivial
    · skip
      have q_5 := i_rng x1
      have q_6 := i_rng x3
      have e_7 := mt i_le.mpr (show ¬ (x1 ≤ x3) from c_1)
      unfold mb_go_23
      refine WP.ite (fun c_8 => ?_) (fun c_8 => ?_)
      · skip
        have q_9 := i_rng x2
        have l_10 : (0 : Int32).toInt = 0 := rfl
        have h_12 : x2 = (0 : Int32) := c_8
        have e_11 := i_eq.mp (show x2 = (0 : Int32) from c_8)
        unfold mb_go_27
        refine WP.bind (ms_oneWord hfu F G) ?_
        rintro r13 F13 G13 p13
        dsimp only
        unfold mb_go_31
        have q_14 := i_rng r13
        first | have e_15 : (x3 + (1 : Int32)).toInt = x3.toInt + (1) := i_addn x3 rfl (by omega) (by omega) | have e_16 := i_rng (x3 + (1 : Int32))
        exact ihn x1 r13 (x3 + (1 : Int32)) F13 G13 (show x1.toInt ≤ 1000 by omega) (show 0 ≤ (x3 + (1 : Int32)).toInt by omega) (by omega)
      · skip
        have q_17 := i_rng x2
        have l_18 : (0 : Int32).toInt = 0 := rfl
        have h_20 : ¬ (x2 = (0 : Int32)) := c_8
        have e_19 := mt i_eq.mpr (show ¬ (x2 = (0 : Int32)) from c_8)
        unfold mb_go_38
        refine WP.ret ?_
        exact trivial
theorem ms_go {fu : Nat} (hfu : 8589934592 ≤ fu) (x1 : Int32) (F : PF) (G : PG) : WP (mf_go fu x1 F G) (fun r' F' G' => True) := by
  unfold mf_go
  unfold mb_go_0
  refine WP.ite (fun c_1 => ?_) (fun c_1 => ?_)
  · skip
    have q_2 := i_rng x1
    have l_3 : (1 : Int32).toInt = 1 := rfl
    have e_4 := i_lt.mp (show x1 < (1 : Int32) from c_1)
    unfold mb_go_12
    refine WP.ret ?_
    exact trivial
  · skip
    have q_5 := i_rng x1
    have l_6 : (1 : Int32).toInt = 1 := rfl
    have e_7 := mt i_lt.mpr (show ¬ (x1 < (1 : Int32)) from c_1)
    unfold mb_go_5
    refine WP.ite (fun c_8 => ?_) (fun c_8 => ?_)
    · skip
      have l_9 : (1000 : Int32).toInt = 1000 := rfl
      have e_10 := i_le.mp (show x1 ≤ (1000 : Int32) from c_8)
      unfold mb_go_14
      have l_11 : (0 : Int32).toInt = 0 := rfl
      exact msz_go_18 (F0 := F) (G0 := G) hfu fu x1 (0 : Int32) (0 : Int32) F G (show x1.toInt ≤ 1000 by omega) (show 0 ≤ (0 : Int32).toInt by omega) (by omega)
    · skip
      have l_12 : (1000 : Int32).toInt = 1000 := rfl
      have e_13 := mt i_le.mpr (show ¬ (x1 ≤ (1000 : Int32)) from c_8)
      unfold mb_go_12
      refine WP.ret ?_
      exact trivial
theorem ms_put {fu : Nat} (x1 : Int32) (x2 : Int32) (F : PF) (G : PG) : WP (mf_put fu x1 x2 F G) (fun r' F' G' => (r' = 0 ∨ r' = 1)) := by
  unfold mf_put
  unfold mb_put_0
  refine WP.ite (fun c_1 => ?_) (fun c_1 => ?_)
  · skip
    have q_2 := i_rng x1
    have l_3 : (3 : Int32).toInt = 3 := rfl
    have e_4 := i_and x1 (m := (3 : Int32)) 2 (by decide) (by decide)
    have l_5 : (0 : Int32).toInt = 0 := rfl
    have h_7 : (x1 &&& (3 : Int32)) = (0 : Int32) := c_1
    have e_8 := i_al (x := x1) (m := (3 : Int32)) 2 (by decide) (by decide) (show (x1 &&& (3 : Int32)) = (0 : Int32) from c_1)
    have e_6 := i_eq.mp (show (x1 &&& (3 : Int32)) = (0 : Int32) from c_1)
    unfold mb_put_6
    refine WP.ite (fun c_9 => ?_) (fun c_9 => ?_)
    · skip
      have e_10 := i_lt.mp (show x1 < (0 : Int32) from c_9)
      unfold mb_put_17
      refine WP.ret ?_
      exact (by decide)
    · skip
      have e_11 := mt i_lt.mpr (show ¬ (x1 < (0 : Int32)) from c_9)
      unfold mb_put_10
      refine WP.ite (fun c_12 => ?_) (fun c_12 => ?_)
      · skip
        have l_13 : (16380 : Int32).toInt = 16380 := rfl
        have e_14 := i_le.mp (show x1 ≤ (16380 : Int32) from c_12)
        unfold mb_put_19
        have l_15 : (2 : Int32).toInt = 2 := rfl
        have e_16 : ((x1 >>> ((2 : Int32) &&& 31))).toInt = x1.toInt / 4 := i_shr 2 (by decide)
        refine WP.ix (show vp_in (x1 >>> ((2 : Int32) &&& 31)) 4096 from vp_in_iff.mpr ⟨by omega, by omega⟩) ?_
        unfold mb_put_28
        refine WP.ret ?_
        exact (by decide)
      · skip
        have l_17 : (16380 : Int32).toInt = 16380 := rfl
        have e_18 := mt i_le.mpr (show ¬ (x1 ≤ (16380 : Int32)) from c_12)
        unfold mb_put_17
        refine WP.ret ?_
        exact (by decide)
  · skip
    have q_19 := i_rng x1
    have l_20 : (3 : Int32).toInt = 3 := rfl
    have e_21 := i_and x1 (m := (3 : Int32)) 2 (by decide) (by decide)
    have l_22 : (0 : Int32).toInt = 0 := rfl
    have h_24 : ¬ ((x1 &&& (3 : Int32)) = (0 : Int32)) := c_1
    have e_23 := mt i_eq.mpr (show ¬ ((x1 &&& (3 : Int32)) = (0 : Int32)) from c_1)
    unfold mb_put_17
    refine WP.ret ?_
    exact (by decide)
theorem ms_set {fu : Nat} (x1 : Int32) (x2 : Int32) (F : PF) (G : PG) : WP (mf_set fu x1 x2 F G) (fun r' F' G' => (r' = 0 ∨ r' = 1)) := by
  unfold mf_set
  unfold mb_set_0
  refine WP.ite (fun c_1 => ?_) (fun c_1 => ?_)
  · skip
    have q_2 := i_rng x1
    have l_3 : (1 : Int32).toInt = 1 := rfl
    have e_4 := i_lt.mp (show x1 < (1 : Int32) from c_1)
    unfold mb_set_11
    refine WP.ret ?_
    exact (by decide)
  · skip
    have q_5 := i_rng x1
    have l_6 : (1 : Int32).toInt = 1 := rfl
    have e_7 := mt i_lt.mpr (show ¬ (x1 < (1 : Int32)) from c_1)
    unfold mb_set_5
    refine WP.ite (fun c_8 => ?_) (fun c_8 => ?_)
    · skip
      have l_9 : (32 : Int32).toInt = 32 := rfl
      have e_10 := i_le.mp (show x1 ≤ (32 : Int32) from c_8)
      unfold mb_set_13
      refine WP.ix (show vp_in x1 33 from vp_in_iff.mpr ⟨by omega, by omega⟩) ?_
      unfold mb_set_20
      refine WP.ret ?_
      exact (by decide)
    · skip
      have l_11 : (32 : Int32).toInt = 32 := rfl
      have e_12 := mt i_le.mpr (show ¬ (x1 ≤ (32 : Int32)) from c_8)
      unfold mb_set_11
      refine WP.ret ?_
      exact (by decide)
theorem ms_board {fu : Nat} (x1 : Int32) (F : PF) (G : PG) : WP (mf_board fu x1 F G) (fun r' F' G' => F = F' ∧ G = G' ∧ True) := by
  unfold mf_board
  unfold mb_board_0
  refine WP.ite (fun c_1 => ?_) (fun c_1 => ?_)
  · skip
    have q_2 := i_rng x1
    have l_3 : (0 : Int32).toInt = 0 := rfl
    have e_4 := i_lt.mp (show x1 < (0 : Int32) from c_1)
    unfold mb_board_19
    refine WP.ite (fun c_5 => ?_) (fun c_5 => ?_)
    · skip
      have l_6 : (33 : Int32).toInt = 33 := rfl
      have h_8 : x1 = (33 : Int32) := c_5
      have e_7 := i_eq.mp (show x1 = (33 : Int32) from c_5)
      unfold mb_board_25
      unfold mb_board_58
      refine WP.ret ?_
      exact ⟨rfl, rfl, trivial⟩
    · skip
      have l_9 : (33 : Int32).toInt = 33 := rfl
      have h_11 : ¬ (x1 = (33 : Int32)) := c_5
      have e_10 := mt i_eq.mpr (show ¬ (x1 = (33 : Int32)) from c_5)
      unfold mb_board_32
      refine WP.ite (fun c_12 => ?_) (fun c_12 => ?_)
      · skip
        have l_13 : (100 : Int32).toInt = 100 := rfl
        have e_14 := i_lt.mp (show x1 < (100 : Int32) from c_12)
        unfold mb_board_57
        unfold mb_board_58
        refine WP.ret ?_
        exact ⟨rfl, rfl, trivial⟩
      · skip
        have l_15 : (100 : Int32).toInt = 100 := rfl
        have e_16 := mt i_lt.mpr (show ¬ (x1 < (100 : Int32)) from c_12)
        unfold mb_board_38
        refine WP.ite (fun c_17 => ?_) (fun c_17 => ?_)
        · skip
          have l_18 : (4196 : Int32).toInt = 4196 := rfl
          have e_19 := i_le.mp (show (4196 : Int32) ≤ x1 from c_17)
          unfold mb_board_57
          unfold mb_board_58
          refine WP.ret ?_
          exact ⟨rfl, rfl, trivial⟩
        · skip
          have l_20 : (4196 : Int32).toInt = 4196 := rfl
          have e_21 := mt i_le.mpr (show ¬ ((4196 : Int32) ≤ x1) from c_17)
          unfold mb_board_45
          first | have e_22 : (x1 - (100 : Int32)).toInt = x1.toInt - (100) := i_subn x1 rfl (by omega) (by omega) | have e_23 := i_rng (x1 - (100 : Int32))
          refine WP.ix (show vp_in (x1 - (100 : Int32)) 4096 from vp_in_iff.mpr ⟨by omega, by omega⟩) ?_
          unfold mb_board_58
          refine WP.ret ?_
          exact ⟨rfl, rfl, trivial⟩
  · skip
    have q_24 := i_rng x1
    have l_25 : (0 : Int32).toInt = 0 := rfl
    have e_26 := mt i_lt.mpr (show ¬ (x1 < (0 : Int32)) from c_1)
    unfold mb_board_4
    refine WP.ite (fun c_27 => ?_) (fun c_27 => ?_)
    · skip
      have l_28 : (33 : Int32).toInt = 33 := rfl
      have e_29 := i_le.mp (show (33 : Int32) ≤ x1 from c_27)
      unfold mb_board_19
      refine WP.ite (fun c_30 => ?_) (fun c_30 => ?_)
      · skip
        have h_32 : x1 = (33 : Int32) := c_30
        have e_31 := i_eq.mp (show x1 = (33 : Int32) from c_30)
        unfold mb_board_25
        unfold mb_board_58
        refine WP.ret ?_
        exact ⟨rfl, rfl, trivial⟩
      · skip
        have h_34 : ¬ (x1 = (33 : Int32)) := c_30
        have e_33 := mt i_eq.mpr (show ¬ (x1 = (33 : Int32)) from c_30)
        unfold mb_board_32
        refine WP.ite (fun c_35 => ?_) (fun c_35 => ?_)
        · skip
          have l_36 : (100 : Int32).toInt = 100 := rfl
          have e_37 := i_lt.mp (show x1 < (100 : Int32) from c_35)
          unfold mb_board_57
          unfold mb_board_58
          refine WP.ret ?_
          exact ⟨rfl, rfl, trivial⟩
        · skip
          have l_38 : (100 : Int32).toInt = 100 := rfl
          have e_39 := mt i_lt.mpr (show ¬ (x1 < (100 : Int32)) from c_35)
          unfold mb_board_38
          refine WP.ite (fun c_40 => ?_) (fun c_40 => ?_)
          · skip
            have l_41 : (4196 : Int32).toInt = 4196 := rfl
            have e_42 := i_le.mp (show (4196 : Int32) ≤ x1 from c_40)
            unfold mb_board_57
            unfold mb_board_58
            refine WP.ret ?_
            exact ⟨rfl, rfl, trivial⟩
          · skip
            have l_43 : (4196 : Int32).toInt = 4196 := rfl
            have e_44 := mt i_le.mpr (show ¬ ((4196 : Int32) ≤ x1) from c_40)
            unfold mb_board_45
            first | have e_45 : (x1 - (100 : Int32)).toInt = x1.toInt - (100) := i_subn x1 rfl (by omega) (by omega) | have e_46 := i_rng (x1 - (100 : Int32))
            refine WP.ix (show vp_in (x1 - (100 : Int32)) 4096 from vp_in_iff.mpr ⟨by omega, by omega⟩) ?_
            unfold mb_board_58
            refine WP.ret ?_
            exact ⟨rfl, rfl, trivial⟩
    · skip
      have l_47 : (33 : Int32).toInt = 33 := rfl
      have e_48 := mt i_le.mpr (show ¬ ((33 : Int32) ≤ x1) from c_27)
      unfold mb_board_10
      refine WP.ix (show vp_in x1 33 from vp_in_iff.mpr ⟨by omega, by omega⟩) ?_
      unfold mb_board_58
      refine WP.ret ?_
      exact ⟨rfl, rfl, trivial⟩
theorem ms_output {fu : Nat} (x1 : Int32) (F : PF) (G : PG) : WP (mf_output fu x1 F G) (fun r' F' G' => F = F' ∧ G = G' ∧ True) := by
  unfold mf_output
  unfold mb_output_0
  refine WP.ite (fun c_1 => ?_) (fun c_1 => ?_)
  · skip
    have q_2 := i_rng x1
    have l_3 : (0 : Int32).toInt = 0 := rfl
    have e_4 := i_lt.mp (show x1 < (0 : Int32) from c_1)
    unfold mb_output_19
    unfold mb_output_29
    refine WP.ret ?_
    exact ⟨rfl, rfl, trivial⟩
  · skip
    have q_5 := i_rng x1
    have l_6 : (0 : Int32).toInt = 0 := rfl
    have e_7 := mt i_lt.mpr (show ¬ (x1 < (0 : Int32)) from c_1)
    unfold mb_output_4
    refine WP.ite (fun c_8 => ?_) (fun c_8 => ?_)
    · skip
      have q_9 := i_rng (F 79)
      have e_10 := i_le.mp (show (F 79) ≤ x1 from c_8)
      unfold mb_output_19
      unfold mb_output_29
      refine WP.ret ?_
      exact ⟨rfl, rfl, trivial⟩
    · skip
      have q_11 := i_rng (F 79)
      have e_12 := mt i_le.mpr (show ¬ ((F 79) ≤ x1) from c_8)
      unfold mb_output_12
      refine WP.ite (fun c_13 => ?_) (fun c_13 => ?_)
      · skip
        have l_14 : (2000 : Int32).toInt = 2000 := rfl
        have e_15 := i_lt.mp (show x1 < (2000 : Int32) from c_13)
        unfold mb_output_23
        refine WP.ix (show vp_in x1 2000 from vp_in_iff.mpr ⟨by omega, by omega⟩) ?_
        unfold mb_output_29
        refine WP.ret ?_
        exact ⟨rfl, rfl, trivial⟩
      · skip
        have l_16 : (2000 : Int32).toInt = 2000 := rfl
        have e_17 := mt i_lt.mpr (show ¬ (x1 < (2000 : Int32)) from c_13)
        unfold mb_output_19
        unfold mb_output_29
        refine WP.ret ?_
        exact ⟨rfl, rfl, trivial⟩
theorem ms_world {fu : Nat} (x1 : Int32) (F : PF) (G : PG) : WP (mf_world fu x1 F G) (fun r' F' G' => F = F' ∧ G = G' ∧ True) := by
  unfold mf_world
  unfold mb_world_0
  have q_1 := i_rng x1
  refine WP.ite (fun c_2 => ?_) (fun c_2 => ?_)
  · have e_3 : x1.toInt < 0 ∨ 7 < x1.toInt := c_2
    unfold mb_world_162
    refine WP.ret ?_
    exact ⟨rfl, rfl, trivial⟩
  have e_4 : ¬ (x1.toInt < 0 ∨ 7 < x1.toInt) := c_2
  refine WP.ite (fun c_5 => ?_) (fun c_5 => ?_)
  · skip
    have l_6 : (0 : Int32).toInt = 0 := rfl
    have h_8 : x1 = (0 : Int32) := c_5
    have e_7 := i_eq.mp (show x1 = (0 : Int32) from c_5)
    unfold mb_world_48
    refine WP.ret ?_
    exact ⟨rfl, rfl, trivial⟩
  have l_9 : (0 : Int32).toInt = 0 := rfl
  have h_11 : ¬ (x1 = (0 : Int32)) := c_5
  have e_10 := mt i_eq.mpr (show ¬ (x1 = (0 : Int32)) from c_5)
  refine WP.ite (fun c_12 => ?_) (fun c_12 => ?_)
  · skip
    have l_13 : (1 : Int32).toInt = 1 := rfl
    have h_15 : x1 = (1 : Int32) := c_12
    have e_14 := i_eq.mp (show x1 = (1 : Int32) from c_12)
    unfold mb_world_53
    refine WP.ite (fun c_16 => ?_) (fun c_16 => ?_)
    · skip
      have q_17 := i_rng (F 75)
      have h_19 : (F 75) = (0 : Int32) := c_16
      have e_18 := i_eq.mp (show (F 75) = (0 : Int32) from c_16)
      unfold mb_world_60
      unfold mb_world_68
      refine WP.ret ?_
      exact ⟨rfl, rfl, trivial⟩
    · skip
      have q_20 := i_rng (F 75)
      have h_22 : ¬ ((F 75) = (0 : Int32)) := c_16
      have e_21 := mt i_eq.mpr (show ¬ ((F 75) = (0 : Int32)) from c_16)
      unfold mb_world_64
      unfold mb_world_68
      refine WP.ret ?_
      exact ⟨rfl, rfl, trivial⟩
  have l_23 : (1 : Int32).toInt = 1 := rfl
  have h_25 : ¬ (x1 = (1 : Int32)) := c_12
  have e_24 := mt i_eq.mpr (show ¬ (x1 = (1 : Int32)) from c_12)
  refine WP.ite (fun c_26 => ?_) (fun c_26 => ?_)
  · skip
    have l_27 : (2 : Int32).toInt = 2 := rfl
    have h_29 : x1 = (2 : Int32) := c_26
    have e_28 := i_eq.mp (show x1 = (2 : Int32) from c_26)
    unfold mb_world_69
    refine WP.ret ?_
    exact ⟨rfl, rfl, trivial⟩
  have l_30 : (2 : Int32).toInt = 2 := rfl
  have h_32 : ¬ (x1 = (2 : Int32)) := c_26
  have e_31 := mt i_eq.mpr (show ¬ (x1 = (2 : Int32)) from c_26)
  refine WP.ite (fun c_33 => ?_) (fun c_33 => ?_)
  · skip
    have l_34 : (3 : Int32).toInt = 3 := rfl
    have h_36 : x1 = (3 : Int32) := c_33
    have e_35 := i_eq.mp (show x1 = (3 : Int32) from c_33)
    unfold mb_world_74
    refine WP.ret ?_
    exact ⟨rfl, rfl, trivial⟩
  have l_37 : (3 : Int32).toInt = 3 := rfl
  have h_39 : ¬ (x1 = (3 : Int32)) := c_33
  have e_38 := mt i_eq.mpr (show ¬ (x1 = (3 : Int32)) from c_33)
  refine WP.ite (fun c_40 => ?_) (fun c_40 => ?_)
  · skip
    have l_41 : (4 : Int32).toInt = 4 := rfl
    have h_43 : x1 = (4 : Int32) := c_40
    have e_42 := i_eq.mp (show x1 = (4 : Int32) from c_40)
    unfold mb_world_79
    refine WP.ite (fun c_44 => ?_) (fun c_44 => ?_)
    · skip
      have q_45 := i_rng (F 75)
      have h_47 : (F 75) = (3 : Int32) := c_44
      have e_46 := i_eq.mp (show (F 75) = (3 : Int32) from c_44)
      unfold mb_world_95
      unfold mb_world_103
      refine WP.ret ?_
      exact ⟨rfl, rfl, trivial⟩
    · skip
      have q_48 := i_rng (F 75)
      have h_50 : ¬ ((F 75) = (3 : Int32)) := c_44
      have e_49 := mt i_eq.mpr (show ¬ ((F 75) = (3 : Int32)) from c_44)
      unfold mb_world_87
      refine WP.ite (fun c_51 => ?_) (fun c_51 => ?_)
      · skip
        have h_53 : (F 75) = (4 : Int32) := c_51
        have e_52 := i_eq.mp (show (F 75) = (4 : Int32) from c_51)
        unfold mb_world_95
        unfold mb_world_103
        refine WP.ret ?_
        exact ⟨rfl, rfl, trivial⟩
      · skip
        have h_55 : ¬ ((F 75) = (4 : Int32)) := c_51
        have e_54 := mt i_eq.mpr (show ¬ ((F 75) = (4 : Int32)) from c_51)
        unfold mb_world_102
        unfold mb_world_103
        refine WP.ret ?_
        exact ⟨rfl, rfl, trivial⟩
  have l_56 : (4 : Int32).toInt = 4 := rfl
  have h_58 : ¬ (x1 = (4 : Int32)) := c_40
  have e_57 := mt i_eq.mpr (show ¬ (x1 = (4 : Int32)) from c_40)
  refine WP.ite (fun c_59 => ?_) (fun c_59 => ?_)
  · skip
    have l_60 : (5 : Int32).toInt = 5 := rfl
    have h_62 : x1 = (5 : Int32) := c_59
    have e_61 := i_eq.mp (show x1 = (5 : Int32) from c_59)
    unfold mb_world_104
    refine WP.ite (fun c_63 => ?_) (fun c_63 => ?_)
    · skip
      have q_64 := i_rng (F 75)
      have h_66 : (F 75) = (5 : Int32) := c_63
      have e_65 := i_eq.mp (show (F 75) = (5 : Int32) from c_63)
      unfold mb_world_121
      unfold mb_world_129
      refine WP.ret ?_
      exact ⟨rfl, rfl, trivial⟩
    · skip
      have q_67 := i_rng (F 75)
      have h_69 : ¬ ((F 75) = (5 : Int32)) := c_63
      have e_68 := mt i_eq.mpr (show ¬ ((F 75) = (5 : Int32)) from c_63)
      unfold mb_world_112
      refine WP.ite (fun c_70 => ?_) (fun c_70 => ?_)
      · skip
        have l_71 : (6 : Int32).toInt = 6 := rfl
        have h_73 : (F 75) = (6 : Int32) := c_70
        have e_72 := i_eq.mp (show (F 75) = (6 : Int32) from c_70)
        unfold mb_world_121
        unfold mb_world_129
        refine WP.ret ?_
        exact ⟨rfl, rfl, trivial⟩
      · skip
        have l_74 : (6 : Int32).toInt = 6 := rfl
        have h_76 : ¬ ((F 75) = (6 : Int32)) := c_70
        have e_75 := mt i_eq.mpr (show ¬ ((F 75) = (6 : Int32)) from c_70)
        unfold mb_world_128
        unfold mb_world_129
        refine WP.ret ?_
        exact ⟨rfl, rfl, trivial⟩
  have l_77 : (5 : Int32).toInt = 5 := rfl
  have h_79 : ¬ (x1 = (5 : Int32)) := c_59
  have e_78 := mt i_eq.mpr (show ¬ (x1 = (5 : Int32)) from c_59)
  refine WP.ite (fun c_80 => ?_) (fun c_80 => ?_)
  · skip
    have l_81 : (6 : Int32).toInt = 6 := rfl
    have h_83 : x1 = (6 : Int32) := c_80
    have e_82 := i_eq.mp (show x1 = (6 : Int32) from c_80)
    unfold mb_world_130
    refine WP.ite (fun c_84 => ?_) (fun c_84 => ?_)
    · skip
      have q_85 := i_rng (F 75)
      have h_87 : (F 75) = (0 : Int32) := c_84
      have e_86 := i_eq.mp (show (F 75) = (0 : Int32) from c_84)
      unfold mb_world_137
      unfold mb_world_145
      refine WP.ret ?_
      exact ⟨rfl, rfl, trivial⟩
    · skip
      have q_88 := i_rng (F 75)
      have h_90 : ¬ ((F 75) = (0 : Int32)) := c_84
      have e_89 := mt i_eq.mpr (show ¬ ((F 75) = (0 : Int32)) from c_84)
      unfold mb_world_141
      unfold mb_world_145
      refine WP.ret ?_
      exact ⟨rfl, rfl, trivial⟩
  have l_91 : (6 : Int32).toInt = 6 := rfl
  have h_93 : ¬ (x1 = (6 : Int32)) := c_80
  have e_92 := mt i_eq.mpr (show ¬ (x1 = (6 : Int32)) from c_80)
  unfold mb_world_146
  refine WP.ite (fun c_94 => ?_) (fun c_94 => ?_)
  · skip
    have q_95 := i_rng (F 75)
    have h_97 : (F 75) = (0 : Int32) := c_94
    have e_96 := i_eq.mp (show (F 75) = (0 : Int32) from c_94)
    unfold mb_world_153
    unfold mb_world_161
    refine WP.ret ?_
    exact ⟨rfl, rfl, trivial⟩
  · skip
    have q_98 := i_rng (F 75)
    have h_100 : ¬ ((F 75) = (0 : Int32)) := c_94
    have e_99 := mt i_eq.mpr (show ¬ ((F 75) = (0 : Int32)) from c_94)
    unfold mb_world_157
    unfold mb_world_161
    refine WP.ret ?_
    exact ⟨rfl, rfl, trivial⟩
theorem ms_look {fu : Nat} (x1 : Int32) (x2 : Int32) (F : PF) (G : PG) (ha : 0 ≤ (F 24).toInt) (hb : (F 24).toInt ≤ 500) : WP (mf_look fu x1 x2 F G) (fun r' F' G' => F = F' ∧ G = G' ∧ True) := by
  unfold mf_look
  unfold mb_look_0
  refine WP.ite (fun c_1 => ?_) (fun c_1 => ?_)
  · skip
    have q_2 := i_rng (F 73)
    have l_3 : (0 : Int32).toInt = 0 := rfl
    have h_5 : (F 73) = (0 : Int32) := c_1
    have e_4 := i_eq.mp (show (F 73) = (0 : Int32) from c_1)
    unfold mb_look_7
    refine WP.ret ?_
    exact ⟨rfl, rfl, trivial⟩
  · skip
    have q_6 := i_rng (F 73)
    have l_7 : (0 : Int32).toInt = 0 := rfl
    have h_9 : ¬ ((F 73) = (0 : Int32)) := c_1
    have e_8 := mt i_eq.mpr (show ¬ ((F 73) = (0 : Int32)) from c_1)
    unfold mb_look_9
    refine WP.ite (fun c_10 => ?_) (fun c_10 => ?_)
    · skip
      have q_11 := i_rng x1
      have h_13 : x1 = (0 : Int32) := c_10
      have e_12 := i_eq.mp (show x1 = (0 : Int32) from c_10)
      unfold mb_look_13
      refine WP.ret ?_
      exact ⟨rfl, rfl, trivial⟩
    · skip
      have q_14 := i_rng x1
      have h_16 : ¬ (x1 = (0 : Int32)) := c_10
      have e_15 := mt i_eq.mpr (show ¬ (x1 = (0 : Int32)) from c_10)
      unfold mb_look_18
      refine WP.ite (fun c_17 => ?_) (fun c_17 => ?_)
      · skip
        have l_18 : (1 : Int32).toInt = 1 := rfl
        have h_20 : x1 = (1 : Int32) := c_17
        have e_19 := i_eq.mp (show x1 = (1 : Int32) from c_17)
        unfold mb_look_23
        refine WP.ret ?_
        exact ⟨rfl, rfl, trivial⟩
      · skip
        have l_21 : (1 : Int32).toInt = 1 := rfl
        have h_23 : ¬ (x1 = (1 : Int32)) := c_17
        have e_22 := mt i_eq.mpr (show ¬ (x1 = (1 : Int32)) from c_17)
        unfold mb_look_28
        refine WP.ite (fun c_24 => ?_) (fun c_24 => ?_)
        · skip
          have e_25 := i_lt.mp (show x1 < (0 : Int32) from c_24)
          unfold mb_look_49
          refine WP.ret ?_
          exact ⟨rfl, rfl, trivial⟩
        · skip
          have e_26 := mt i_lt.mpr (show ¬ (x1 < (0 : Int32)) from c_24)
          unfold mb_look_32
          refine WP.ite (fun c_27 => ?_) (fun c_27 => ?_)
          · skip
            have l_28 : (5 : Int32).toInt = 5 := rfl
            have e_29 := i_lt.mp (show (5 : Int32) < x1 from c_27)
            unfold mb_look_49
            refine WP.ret ?_
            exact ⟨rfl, rfl, trivial⟩
          · skip
            have l_30 : (5 : Int32).toInt = 5 := rfl
            have e_31 := mt i_lt.mpr (show ¬ ((5 : Int32) < x1) from c_27)
            unfold mb_look_37
            refine WP.ite (fun c_32 => ?_) (fun c_32 => ?_)
            · skip
              have q_33 := i_rng x2
              have e_34 := i_lt.mp (show x2 < (0 : Int32) from c_32)
              unfold mb_look_49
              refine WP.ret ?_
              exact ⟨rfl, rfl, trivial⟩
            · skip
              have q_35 := i_rng x2
              have e_36 := mt i_lt.mpr (show ¬ (x2 < (0 : Int32)) from c_32)
              unfold mb_look_41
              refine WP.ite (fun c_37 => ?_) (fun c_37 => ?_)
              · skip
                have q_38 := i_rng (F 24)
                have e_39 := i_lt.mp (show x2 < (F 24) from c_37)
                unfold mb_look_51
                refine WP.ite (fun c_40 => ?_) (fun c_40 => ?_)
                · skip
                  have l_41 : (2 : Int32).toInt = 2 := rfl
                  have h_43 : x1 = (2 : Int32) := c_40
                  have e_42 := i_eq.mp (show x1 = (2 : Int32) from c_40)
                  unfold mb_look_56
                  refine WP.ix (show vp_in x2 500 from vp_in_iff.mpr ⟨by omega, by omega⟩) ?_
                  unfold mb_look_107
                  refine WP.ret ?_
                  exact ⟨rfl, rfl, trivial⟩
                · skip
                  have l_44 : (2 : Int32).toInt = 2 := rfl
                  have h_46 : ¬ (x1 = (2 : Int32)) := c_40
                  have e_45 := mt i_eq.mpr (show ¬ (x1 = (2 : Int32)) from c_40)
                  unfold mb_look_65
                  refine WP.ite (fun c_47 => ?_) (fun c_47 => ?_)
                  · skip
                    have l_48 : (3 : Int32).toInt = 3 := rfl
                    have h_50 : x1 = (3 : Int32) := c_47
                    have e_49 := i_eq.mp (show x1 = (3 : Int32) from c_47)
                    unfold mb_look_70
                    refine WP.ix (show vp_in x2 500 from vp_in_iff.mpr ⟨by omega, by omega⟩) ?_
                    unfold mb_look_107
                    refine WP.ret ?_
                    exact ⟨rfl, rfl, trivial⟩
                  · skip
                    have l_51 : (3 : Int32).toInt = 3 := rfl
                    have h_53 : ¬ (x1 = (3 : Int32)) := c_47
                    have e_52 := mt i_eq.mpr (show ¬ (x1 = (3 : Int32)) from c_47)
                    unfold mb_look_79
                    refine WP.ite (fun c_54 => ?_) (fun c_54 => ?_)
                    · skip
                      have l_55 : (4 : Int32).toInt = 4 := rfl
                      have h_57 : x1 = (4 : Int32) := c_54
                      have e_56 := i_eq.mp (show x1 = (4 : Int32) from c_54)
                      unfold mb_look_84
                      refine WP.ix (show vp_in x2 500 from vp_in_iff.mpr ⟨by omega, by omega⟩) ?_
                      unfold mb_look_107
                      refine WP.ret ?_
                      exact ⟨rfl, rfl, trivial⟩
                    · skip
                      have l_58 : (4 : Int32).toInt = 4 := rfl
                      have h_60 : ¬ (x1 = (4 : Int32)) := c_54
                      have e_59 := mt i_eq.mpr (show ¬ (x1 = (4 : Int32)) from c_54)
                      unfold mb_look_93
                      refine WP.ix (show vp_in x2 500 from vp_in_iff.mpr ⟨by omega, by omega⟩) ?_
                      refine WP.ite (fun c_61 => ?_) (fun c_61 => ?_)
                      · skip
                        have q_62 := i_rng (G 33 x2.toNatClampNeg)
                        have h_64 : (G 33 x2.toNatClampNeg) = (0 : Int32) := c_61
                        have e_63 := i_eq.mp (show (G 33 x2.toNatClampNeg) = (0 : Int32) from c_61)
                        unfold mb_look_106
                        unfold mb_look_107
                        refine WP.ret ?_
                        exact ⟨rfl, rfl, trivial⟩
                      · skip
                        have q_65 := i_rng (G 33 x2.toNatClampNeg)
                        have h_67 : ¬ ((G 33 x2.toNatClampNeg) = (0 : Int32)) := c_61
                        have e_66 := mt i_eq.mpr (show ¬ ((G 33 x2.toNatClampNeg) = (0 : Int32)) from c_61)
                        unfold mb_look_102
                        unfold mb_look_107
                        refine WP.ret ?_
                        exact ⟨rfl, rfl, trivial⟩
              · skip
                have q_68 := i_rng (F 24)
                have e_69 := mt i_lt.mpr (show ¬ (x2 < (F 24)) from c_37)
                unfold mb_look_49
                refine WP.ret ?_
                exact ⟨rfl, rfl, trivial⟩
theorem ms_give {fu : Nat} (x1 : Int32) (F : PF) (G : PG) (ha : 0 ≤ (F 80).toInt) (hb : (F 80).toInt ≤ 500) : WP (mf_give fu x1 F G) (fun r' F' G' => True) := by
  unfold mf_give
  unfold mb_give_0
  refine WP.ite (fun c_1 => ?_) (fun c_1 => ?_)
  · skip
    have q_2 := i_rng (F 73)
    have l_3 : (0 : Int32).toInt = 0 := rfl
    have h_5 : (F 73) = (0 : Int32) := c_1
    have e_4 := i_eq.mp (show (F 73) = (0 : Int32) from c_1)
    unfold mb_give_17
    refine WP.ret ?_
    exact trivial
  · skip
    have q_6 := i_rng (F 73)
    have l_7 : (0 : Int32).toInt = 0 := rfl
    have h_9 : ¬ ((F 73) = (0 : Int32)) := c_1
    have e_8 := mt i_eq.mpr (show ¬ ((F 73) = (0 : Int32)) from c_1)
    unfold mb_give_7
    refine WP.ite (fun c_10 => ?_) (fun c_10 => ?_)
    · skip
      have q_11 := i_rng (F 80)
      have l_12 : (500 : Int32).toInt = 500 := rfl
      have h_14 : (F 80) = (500 : Int32) := c_10
      have e_13 := i_eq.mp (show (F 80) = (500 : Int32) from c_10)
      unfold mb_give_17
      refine WP.ret ?_
      exact trivial
    · skip
      have q_15 := i_rng (F 80)
      have l_16 : (500 : Int32).toInt = 500 := rfl
      have h_18 : ¬ ((F 80) = (500 : Int32)) := c_10
      have e_17 := mt i_eq.mpr (show ¬ ((F 80) = (500 : Int32)) from c_10)
      unfold mb_give_19
      refine WP.ix (show vp_in (F 80) 500 from vp_in_iff.mpr ⟨by omega, by omega⟩) ?_
      unfold mb_give_29
      unfold mb_give_39
      refine WP.ret ?_
      exact trivial
theorem msz_feed_18 {fu : Nat} {F0 : PF} {G0 : PG} (hfu : 8589934592 ≤ fu) : ∀ (n : Nat) (x1 : Int32) (x2 : Int32) (x3 : Int32) (x4 : Int32) (x5 : Int32) (x6 : Int32) (F : PF) (G : PG) (i_0 : 0 ≤ x6.toInt) (i_1 : 0 ≤ (F 2).toInt) (i_2 : (F 2).toInt ≤ 3980) (i_3 : (F 2).toInt = (F0 2).toInt) (hn : (21 - x6.toInt).toNat < n), WP (ml_feed_18 fu n x1 x2 x3 x4 x5 x6 F G) (fun r' F' G' => (((F0 2).toInt ≤ 3980 ∧ r'.toInt = (F0 2).toInt + 20 ∧ (F' 2).toInt = (F0 2).toInt + 20) ∨ (3980 < (F0 2).toInt ∧ r'.toInt = -1 ∧ (F' 2).toInt = (F0 2).toInt))) := by
  intro n
  induction n with
  | zero =>
    intro x1 x2 x3 x4 x5 x6 F G i_0 i_1 i_2 i_3 hn
    exact absurd hn (Nat.not_lt_zero _)
  | succ n ihn =>
    intro x1 x2 x3 x4 x5 x6 F G i_0 i_1 i_2 i_3 hn
    show WP (mb_feed_18 fu (ml_feed_18 fu n) x1 x2 x3 x4 x5 x6 F G) _
    unfold mb_feed_18
    refine WP.ite (fun c_1 => ?_) (fun c_1 => ?_)
    · skip
      have l_2 : (20 : Int32).toInt = 20 := rfl
      have q_3 := i_rng x6
      have e_4 := i_le.mp (show (20 : Int32) ≤ x6 from c_1)
      unfold mb_feed_108
      unfold mb_feed_119
      refine WP.ret ?_
      have q_5 := i_rng (F 2)
      first | have e_6 : ((F 2) + (20 : Int32)).toInt = (F 2).toInt + (20) := i_addn (F 2) rfl (by omega) (by omega) | have e_7 := i_rng ((F 2) + (20 : Int32))
      have q_8 := i_rng (F0 2)
      exact (show ((F0 2).toInt ≤ 3980 ∧ ((F 2) + (20 : Int32)).toInt = (F0 2).toInt + 20 ∧ ((F 2) + (20 : Int32)).toInt = (F0 2).toInt + 20) ∨ (3980 < (F0 2).toInt ∧ ((F 2) + (20 : Int32)).toInt = -1 ∧ ((F 2) + (20 : Int32)).toInt = (F0 2).toInt) by omega)
    · skip
      have l_9 : (20 : Int32).toInt = 20 := rfl
      have q_10 := i_rng x6
      have e_11 := mt i_le.mpr (show ¬ ((20 : Int32) ≤ x6) from c_1)
      unfold mb_feed_25
      refine WP.ite (fun c_12 => ?_) (fun c_12 => ?_)
      · skip
        have l_13 : (4 : Int32).toInt = 4 := rfl
        have e_14 := i_le.mp (show (4 : Int32) ≤ x6 from c_12)
        unfold mb_feed_35
        refine WP.ite (fun c_15 => ?_) (fun c_15 => ?_)
        · skip
          have l_16 : (8 : Int32).toInt = 8 := rfl
          have e_17 := i_le.mp (show (8 : Int32) ≤ x6 from c_15)
          unfold mb_feed_46
          refine WP.ite (fun c_18 => ?_) (fun c_18 => ?_)
          · skip
            have l_19 : (12 : Int32).toInt = 12 := rfl
            have e_20 := i_le.mp (show (12 : Int32) ≤ x6 from c_18)
            unfold mb_feed_57
            refine WP.ite (fun c_21 => ?_) (fun c_21 => ?_)
            · skip
              have l_22 : (16 : Int32).toInt = 16 := rfl
              have e_23 := i_le.mp (show (16 : Int32) ≤ x6 from c_21)
              unfold mb_feed_69
              unfold mb_feed_71
              have q_24 := i_rng (F 2)
              first | have e_25 : ((F 2) + x6).toInt = (F 2).toInt + (x6.toInt) := i_addn (F 2) rfl (by omega) (by omega) | have e_26 := i_rng ((F 2) + x6)
              refine WP.ix (show vp_in ((F 2) + x6) 4000 from vp_in_iff.mpr ⟨by omega, by omega⟩) ?_
              unfold mb_feed_102
              have q_27 := i_rng x1
              have q_28 := i_rng x2
              have q_29 := i_rng x3
              have q_30 := i_rng x4
              have q_31 := i_rng x5
              first | have e_32 : (x6 + (1 : Int32)).toInt = x6.toInt + (1) := i_addn x6 rfl (by omega) (by omega) | have e_33 := i_rng (x6 + (1 : Int32))
              exact ihn x1 x2 x3 x4 x5 (x6 + (1 : Int32)) F (gup G 0 ((F 2) + x6).toNatClampNeg ((x5 >>> (((24 : Int32) - ((8 : Int32) * (x6 - x6 / (4 : Int32) * (4 : Int32)))) &&& 31)) &&& (255 : Int32))) (show 0 ≤ (x6 + (1 : Int32)).toInt by omega) (show 0 ≤ (F 2).toInt by omega) (show (F 2).toInt ≤ 3980 by omega) (show (F 2).toInt = (F0 2).toInt by omega) (by omega)
            · skip
              have l_34 : (16 : Int32).toInt = 16 := rfl
              have e_35 := mt i_le.mpr (show ¬ ((16 : Int32) ≤ x6) from c_21)
              unfold mb_feed_64
              unfold mb_feed_71
              have q_36 := i_rng (F 2)
              first | have e_37 : ((F 2) + x6).toInt = (F 2).toInt + (x6.toInt) := i_addn (F 2) rfl (by omega) (by omega) | have e_38 := i_rng ((F 2) + x6)
              refine WP.ix (show vp_in ((F 2) + x6) 4000 from vp_in_iff.mpr ⟨by omega, by omega⟩) ?_
              unfold mb_feed_102
              have q_39 := i_rng x1
              have q_40 := i_rng x2
              have q_41 := i_rng x3
              have q_42 := i_rng x4
              have q_43 := i_rng x5
              first | have e_44 : (x6 + (1 : Int32)).toInt = x6.toInt + (1) := i_addn x6 rfl (by omega) (by omega) | have e_45 := i_rng (x6 + (1 : Int32))
              exact ihn x1 x2 x3 x4 x5 (x6 + (1 : Int32)) F (gup G 0 ((F 2) + x6).toNatClampNeg ((x4 >>> (((24 : Int32) - ((8 : Int32) * (x6 - x6 / (4 : Int32) * (4 : Int32)))) &&& 31)) &&& (255 : Int32))) (show 0 ≤ (x6 + (1 : Int32)).toInt by omega) (show 0 ≤ (F 2).toInt by omega) (show (F 2).toInt ≤ 3980 by omega) (show (F 2).toInt = (F0 2).toInt by omega) (by omega)
          · skip
            have l_46 : (12 : Int32).toInt = 12 := rfl
            have e_47 := mt i_le.mpr (show ¬ ((12 : Int32) ≤ x6) from c_18)
            unfold mb_feed_53
            unfold mb_feed_71
            have q_48 := i_rng (F 2)
            first | have e_49 : ((F 2) + x6).toInt = (F 2).toInt + (x6.toInt) := i_addn (F 2) rfl (by omega) (by omega) | have e_50 := i_rng ((F 2) + x6)
            refine WP.ix (show vp_in ((F 2) + x6) 4000 from vp_in_iff.mpr ⟨by omega, by omega⟩) ?_
            unfold mb_feed_102
            have q_51 := i_rng x1
            have q_52 := i_rng x2
            have q_53 := i_rng x3
            have q_54 := i_rng x4
            have q_55 := i_rng x5
            first | have e_56 : (x6 + (1 : Int32)).toInt = x6.toInt + (1) := i_addn x6 rfl (by omega) (by omega) | have e_57 := i_rng (x6 + (1 : Int32))
            exact ihn x1 x2 x3 x4 x5 (x6 + (1 : Int32)) F (gup G 0 ((F 2) + x6).toNatClampNeg ((x3 >>> (((24 : Int32) - ((8 : Int32) * (x6 - x6 / (4 : Int32) * (4 : Int32)))) &&& 31)) &&& (255 : Int32))) (show 0 ≤ (x6 + (1 : Int32)).toInt by omega) (show 0 ≤ (F 2).toInt by omega) (show (F 2).toInt ≤ 3980 by omega) (show (F 2).toInt = (F0 2).toInt by omega) (by omega)
        · skip
          have l_58 : (8 : Int32).toInt = 8 := rfl
          have e_59 := mt i_le.mpr (show ¬ ((8 : Int32) ≤ x6) from c_15)
          unfold mb_feed_42
          unfold mb_feed_71
          have q_60 := i_rng (F 2)
          first | have e_61 : ((F 2) + x6).toInt = (F 2).toInt + (x6.toInt) := i_addn (F 2) rfl (by omega) (by omega) | have e_62 := i_rng ((F 2) + x6)
          refine WP.ix (show vp_in ((F 2) + x6) 4000 from vp_in_iff.mpr ⟨by omega, by omega⟩) ?_
          unfold mb_feed_102
          have q_63 := i_rng x1
          have q_64 := i_rng x2
          have q_65 := i_rng x3
          have q_66 := i_rng x4
          have q_67 := i_rng x5
          first | have e_68 : (x6 + (1 : Int32)).toInt = x6.toInt + (1) := i_addn x6 rfl (by omega) (by omega) | have e_69 := i_rng (x6 + (1 : Int32))
          exact ihn x1 x2 x3 x4 x5 (x6 + (1 : Int32)) F (gup G 0 ((F 2) + x6).toNatClampNeg ((x2 >>> (((24 : Int32) - ((8 : Int32) * (x6 - x6 / (4 : Int32) * (4 : Int32)))) &&& 31)) &&& (255 : Int32))) (show 0 ≤ (x6 + (1 : Int32)).toInt by omega) (show 0 ≤ (F 2).toInt by omega) (show (F 2).toInt ≤ 3980 by omega) (show (F 2).toInt = (F0 2).toInt by omega) (by omega)
      · skip
        have l_70 : (4 : Int32).toInt = 4 := rfl
        have e_71 := mt i_le.mpr (show ¬ ((4 : Int32) ≤ x6) from c_12)
        unfold mb_feed_31
        unfold mb_feed_71
        have q_72 := i_rng (F 2)
        first | have e_73 : ((F 2) + x6).toInt = (F 2).toInt + (x6.toInt) := i_addn (F 2) rfl (by omega) (by omega) | have e_74 := i_rng ((F 2) + x6)
        refine WP.ix (show vp_in ((F 2) + x6) 4000 from vp_in_iff.mpr ⟨by omega, by omega⟩) ?_
        unfold mb_feed_102
        have q_75 := i_rng x1
        have q_76 := i_rng x2
        have q_77 := i_rng x3
        have q_78 := i_rng x4
        have q_79 := i_rng x5
        first | have e_80 : (x6 + (1 : Int32)).toInt = x6.toInt + (1) := i_addn x6 rfl (by omega) (by omega) | have e_81 := i_rng (x6 + (1 : Int32))
        exact ihn x1 x2 x3 x4 x5 (x6 + (1 : Int32)) F (gup G 0 ((F 2) + x6).toNatClampNeg ((x1 >>> (((24 : Int32) - ((8 : Int32) * (x6 - x6 / (4 : Int32) * (4 : Int32)))) &&& 31)) &&& (255 : Int32))) (show 0 ≤ (x6 + (1 : Int32)).toInt by omega) (show 0 ≤ (F 2).toInt by omega) (show (F 2).toInt ≤ 3980 by omega) (show (F 2).toInt = (F0 2).toInt by omega) (by omega)
theorem ms_feed {fu : Nat} (hfu : 8589934592 ≤ fu) (x1 : Int32) (x2 : Int32) (x3 : Int32) (x4 : Int32) (x5 : Int32) (F : PF) (G : PG) (ha : 0 ≤ (F 2).toInt) (hb : (F 2).toInt ≤ 4000) : WP (mf_feed fu x1 x2 x3 x4 x5 F G) (fun r' F' G' => (((F 2).toInt ≤ 3980 ∧ r'.toInt = (F 2).toInt + 20 ∧ (F' 2).toInt = (F 2).toInt + 20) ∨ (3980 < (F 2).toInt ∧ r'.toInt = -1 ∧ (F' 2).toInt = (F 2).toInt))) := by
  unfold mf_feed
  unfold mb_feed_0
  refine WP.ite (fun c_1 => ?_) (fun c_1 => ?_)
  · skip
    have q_2 := i_rng (F 2)
    first | have e_3 : ((F 2) + (20 : Int32)).toInt = (F 2).toInt + (20) := i_addn (F 2) rfl (by omega) (by omega) | have e_4 := i_rng ((F 2) + (20 : Int32))
    have l_5 : (4000 : Int32).toInt = 4000 := rfl
    have e_6 := i_le.mp (show ((F 2) + (20 : Int32)) ≤ (4000 : Int32) from c_1)
    unfold mb_feed_15
    have q_7 := i_rng x1
    have q_8 := i_rng x2
    have q_9 := i_rng x3
    have q_10 := i_rng x4
    have q_11 := i_rng x5
    have l_12 : (0 : Int32).toInt = 0 := rfl
    exact msz_feed_18 (F0 := F) (G0 := G) hfu fu x1 x2 x3 x4 x5 (0 : Int32) F G (show 0 ≤ (0 : Int32).toInt by omega) (show 0 ≤ (F 2).toInt by omega) (show (F 2).toInt ≤ 3980 by omega) (show (F 2).toInt = (F 2).toInt by omega) (by omega)
  · skip
    have q_13 := i_rng (F 2)
    first | have e_14 : ((F 2) + (20 : Int32)).toInt = (F 2).toInt + (20) := i_addn (F 2) rfl (by omega) (by omega) | have e_15 := i_rng ((F 2) + (20 : Int32))
    have l_16 : (4000 : Int32).toInt = 4000 := rfl
    have e_17 := mt i_le.mpr (show ¬ (((F 2) + (20 : Int32)) ≤ (4000 : Int32)) from c_1)
    unfold mb_feed_13
    refine WP.ret ?_
    have l_18 : (-1 : Int32).toInt = -1 := rfl
    exact (show ((F 2).toInt ≤ 3980 ∧ (-1 : Int32).toInt = (F 2).toInt + 20 ∧ (F 2).toInt = (F 2).toInt + 20) ∨ (3980 < (F 2).toInt ∧ (-1 : Int32).toInt = -1 ∧ (F 2).toInt = (F 2).toInt) by omega)
theorem ms_end {fu : Nat} (x1 : Int32) (F : PF) (G : PG) (ha : 0 ≤ (F 2).toInt) (hb : (F 2).toInt ≤ 4000) : WP (mf_end fu x1 F G) (fun r' F' G' => ((0 ≤ x1.toInt ∧ x1.toInt ≤ (F 2).toInt ∧ r'.toInt = x1.toInt ∧ (F' 2).toInt = x1.toInt) ∨ (¬ (0 ≤ x1.toInt ∧ x1.toInt ≤ (F 2).toInt) ∧ r'.toInt = -1 ∧ (F' 2).toInt = (F 2).toInt))) := by
  unfold mf_end
  unfold mb_end_0
  refine WP.ite (fun c_1 => ?_) (fun c_1 => ?_)
  · skip
    have q_2 := i_rng x1
    have l_3 : (0 : Int32).toInt = 0 := rfl
    have e_4 := i_lt.mp (show x1 < (0 : Int32) from c_1)
    unfold mb_end_12
    refine WP.ret ?_
    have l_5 : (-1 : Int32).toInt = -1 := rfl
    have q_6 := i_rng (F 2)
    exact (show (0 ≤ x1.toInt ∧ x1.toInt ≤ (F 2).toInt ∧ (-1 : Int32).toInt = x1.toInt ∧ (F 2).toInt = x1.toInt) ∨ (¬ (0 ≤ x1.toInt ∧ x1.toInt ≤ (F 2).toInt) ∧ (-1 : Int32).toInt = -1 ∧ (F 2).toInt = (F 2).toInt) by omega)
  · skip
    have q_7 := i_rng x1
    have l_8 : (0 : Int32).toInt = 0 := rfl
    have e_9 := mt i_lt.mpr (show ¬ (x1 < (0 : Int32)) from c_1)
    unfold mb_end_4
    refine WP.ite (fun c_10 => ?_) (fun c_10 => ?_)
    · skip
      have q_11 := i_rng (F 2)
      have e_12 := i_le.mp (show x1 ≤ (F 2) from c_10)
      unfold mb_end_14
      unfold mb_end_19
      refine WP.ret ?_
      exact (show (0 ≤ x1.toInt ∧ x1.toInt ≤ (F 2).toInt ∧ x1.toInt = x1.toInt ∧ x1.toInt = x1.toInt) ∨ (¬ (0 ≤ x1.toInt ∧ x1.toInt ≤ (F 2).toInt) ∧ x1.toInt = -1 ∧ x1.toInt = (F 2).toInt) by omega)
    · skip
      have q_13 := i_rng (F 2)
      have e_14 := mt i_le.mpr (show ¬ (x1 ≤ (F 2)) from c_10)
      unfold mb_end_12
      refine WP.ret ?_
      have l_15 : (-1 : Int32).toInt = -1 := rfl
      exact (show (0 ≤ x1.toInt ∧ x1.toInt ≤ (F 2).toInt ∧ (-1 : Int32).toInt = x1.toInt ∧ (F 2).toInt = x1.toInt) ∨ (¬ (0 ≤ x1.toInt ∧ x1.toInt ≤ (F 2).toInt) ∧ (-1 : Int32).toInt = -1 ∧ (F 2).toInt = (F 2).toInt) by omega)
