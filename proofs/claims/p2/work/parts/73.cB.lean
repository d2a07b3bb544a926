theorem cs_X6_enterMain {fu : Nat} (hfu : 8589934592 ≤ fu) (F : PF) (G : PG) (hI : CI F G) : WP (cf_X6_enterMain fu F G) (fun r' F' G' => CI F' G' ∧ KB F G F' G' ∧ KT F F' ∧ KO F F' ∧ KK F F' ∧ True) := by
  unfold cf_X6_enterMain
  unfold cb_X6_enterMain_0
  have q_1 := i_rng (F 76)
  refine WP.bind (cs_X8_has hfu (F 76) F G hI) ?_
  rintro r2 _ _ ⟨rfl, rfl, hp2⟩
  dsimp only
  have q_3 := b_rng (hp2.1)
  unfold cb_X6_enterMain_14
  refine WP.ite (fun c_4 => ?_) (fun c_4 => ?_)
  · skip
    have l_5 : (0 : Int32).toInt = 0 := rfl
    have e_6 := i_eq.mp (show r2 = (0 : Int32) from c_4)
    unfold cb_X6_enterMain_17
    have l_7 : (3 : Int32).toInt = 3 := rfl
    refine WP.bind (cs_X6_over hfu (3 : Int32) F G hI) ?_
    rintro r8 F8 G8 ⟨hI8, hB8, hT8, hO8, hK8, hp8⟩
    dsimp only
    have q_9 := hI.r 10 rfl
    have q_10 := hI8.r 10 rfl
    have e_11 : (F8 10).toInt = (F 10).toInt := hO8
    unfold cb_X6_enterMain_22
    refine WP.ret ?_
    exact ⟨hI8, (KB.tr (KB.rf : KB F G F G) hB8), (KT.tr (rfl : KT F F) hT8), (KO.tr (rfl : KO F F) hO8), (KK.tr (rfl : KK F F) hK8), trivial⟩
  · skip
    have l_12 : (0 : Int32).toInt = 0 := rfl
    have e_13 := mt i_eq.mpr (show ¬ (r2 = (0 : Int32)) from c_4)
    unfold cb_X6_enterMain_23
    refine WP.ix (show vp_in (F 76) 450 from vp_in_iff.mpr ⟨by omega, by omega⟩) ?_
    have q_14 := i_rng (G 77 (F 76).toNatClampNeg)
    refine WP.bind (cs_X6_enters hfu (F 76) (G 77 (F 76).toNatClampNeg) F G hI (show 0 ≤ (F 76).toInt by omega) (show (F 76).toInt < 450 by omega)) ?_
    rintro r15 F15 G15 ⟨hI15, hB15, hT15, hO15, hK15, hp15⟩
    dsimp only
    have q_16 := hI.r 10 rfl
    have q_17 := hI15.r 10 rfl
    have e_18 : (F15 10).toInt = (F 10).toInt := hO15
    have q_19 := b_rng hp15
    unfold cb_X6_enterMain_50
    refine WP.bz (show r15 = 0 ∨ r15 = 1 from hp15) ?_
    have q_20 := b_rng (show r15 = 0 ∨ r15 = 1 from hp15)
    have j_21 : CI (fup F15 60 r15) G15 := CI.rg (k := 60) (x := r15) rfl (by decide) (by decide) hI15 ⟨by omega, by omega⟩
    unfold cb_X6_enterMain_53
    refine WP.ret ?_
    exact ⟨j_21, (KB.f (by decide) (KB.tr (KB.rf : KB F G F G) hB15)), (KT.f (by decide) (KT.tr (rfl : KT F F) hT15)), (KO.f (by decide) (KO.tr (rfl : KO F F) hO15)), (KK.f (by decide) (KK.tr (rfl : KK F F) hK15)), trivial⟩
theorem cz_X6_goOn_45 {fu : Nat} (hfu : 8589934592 ≤ fu) {F0 : PF} {G0 : PG} : ∀ (n : Nat) (x2 : Int32) (F : PF) (G : PG) (hI : CI F G) (hB : KB F0 G0 F G) (hT : KT F0 F) (hO : KO F0 F) (hK : KK F0 F) (hn : (2147483647 - x2.toInt).toNat < n), WP (cl_X6_goOn_45 fu n x2 F G) (fun r' F' G' => CI F' G' ∧ KB F0 G0 F' G' ∧ KT F0 F' ∧ KO F0 F' ∧ KK F0 F' ∧ True) := by
  intro n
  induction n with
  | zero =>
    intro x2 F G hI hB hT hO hK hn
    exact absurd hn (Nat.not_lt_zero _)
  | succ n ihn =>
    intro x2 F G hI hB hT hO hK hn
    show WP (cb_X6_goOn_45 fu (cl_X6_goOn_45 fu n)  x2 F G) _
    unfold cb_X6_goOn_45
    refine WP.ite (fun c_1 => ?_) (fun c_1 => ?_)
    · skip
      have l_2 : (100000000 : Int32).toInt = 100000000 := rfl
      have q_3 := i_rng x2
      have e_4 := i_le.mp (show (100000000 : Int32) ≤ x2 from c_1)
      unfold cb_X6_goOn_68
      refine WP.ret ?_
      exact ⟨hI, hB, hT, hO, hK, trivial⟩
    · skip
      have l_5 : (100000000 : Int32).toInt = 100000000 := rfl
      have q_6 := i_rng x2
      have e_7 := mt i_le.mpr (show ¬ ((100000000 : Int32) ≤ x2) from c_1)
      unfold cb_X6_goOn_51
      refine WP.ite (fun c_8 => ?_) (fun c_8 => ?_)
      · skip
        have q_9 := hI.r 61 rfl
        have l_10 : (0 : Int32).toInt = 0 := rfl
        have e_11 := i_eq.mp (show (F 61) = (0 : Int32) from c_8)
        unfold cb_X6_goOn_68
        refine WP.ret ?_
        exact ⟨hI, hB, hT, hO, hK, trivial⟩
      · skip
        have q_12 := hI.r 61 rfl
        have l_13 : (0 : Int32).toInt = 0 := rfl
        have e_14 := mt i_eq.mpr (show ¬ ((F 61) = (0 : Int32)) from c_8)
        unfold cb_X6_goOn_58
        refine WP.bind (cs_X6_step hfu F G hI) ?_
        rintro r15 F15 G15 ⟨hI15, hB15, hT15, hO15, hK15, hp15⟩
        dsimp only
        have q_16 := hI.r 10 rfl
        have q_17 := hI15.r 10 rfl
        have e_18 : (F15 10).toInt = (F 10).toInt := hO15
        unfold cb_X6_goOn_62
        first | have e_19 : (x2 + (1 : Int32)).toInt = x2.toInt + (1) := i_addn x2 rfl (by omega) (by omega) | have e_20 := i_rng (x2 + (1 : Int32))
        exact ihn (x2 + (1 : Int32)) F15 G15 hI15 (KB.tr hB hB15) (KT.tr hT hT15) (KO.tr hO hO15) (KK.tr hK hK15) (by omega)
theorem cs_X6_goOn {fu : Nat} (hfu : 8589934592 ≤ fu) (x1 : Int32) (F : PF) (G : PG) (hI : CI F G) : WP (cf_X6_goOn fu x1 F G) (fun r' F' G' => CI F' G' ∧ KB F G F' G' ∧ KT F F' ∧ KO F F' ∧ KK F F' ∧ True) := by
  unfold cf_X6_goOn
  unfold cb_X6_goOn_0
  refine WP.ite (fun c_1 => ?_) (fun c_1 => ?_)
  · skip
    have q_2 := i_rng (F 63)
    have l_3 : (1 : Int32).toInt = 1 := rfl
    have e_4 := i_eq.mp (show (F 63) = (1 : Int32) from c_1)
    unfold cb_X6_goOn_17
    have j_5 : CI (fup F 63 (1 : Int32)) G := CI.fr rfl hI
    unfold cb_X6_goOn_22
    have q_6 := i_rng x1
    have j_7 : CI (fup (fup F 63 (1 : Int32)) 62 x1) G := CI.fr rfl j_5
    unfold cb_X6_goOn_27
    have j_8 : CI (fup (fup (fup F 63 (1 : Int32)) 62 x1) 61 (1 : Int32)) G := CI.rg (k := 61) (x := (1 : Int32)) rfl (by decide) (by decide) j_7 ⟨by omega, by omega⟩
    unfold cb_X6_goOn_32
    refine WP.ite (fun c_9 => ?_) (fun c_9 => ?_)
    · skip
      have q_10 := hI.r 60 rfl
      have l_11 : (0 : Int32).toInt = 0 := rfl
      have e_12 := i_eq.mp (show (F 60) = (0 : Int32) from c_9)
      unfold cb_X6_goOn_39
      refine WP.bind (cs_X6_enterMain hfu (fup (fup (fup F 63 (1 : Int32)) 62 x1) 61 (1 : Int32)) G j_8) ?_
      rintro r13 F13 G13 ⟨hI13, hB13, hT13, hO13, hK13, hp13⟩
      dsimp only
      have q_14 := hI.r 10 rfl
      have q_15 := hI13.r 10 rfl
      have e_16 : (F13 10).toInt = (F 10).toInt := hO13
      unfold cb_X6_goOn_43
      exact cz_X6_goOn_45 (F0 := F) (G0 := G) hfu fu (0 : Int32) F13 G13 hI13 (KB.tr (KB.f (by decide) (KB.f (by decide) (KB.f (by decide) (KB.rf : KB F G F G)))) hB13) (KT.tr (KT.f (by decide) (KT.f (by decide) (KT.f (by decide) (rfl : KT F F)))) hT13) (KO.tr (KO.f (by decide) (KO.f (by decide) (KO.f (by decide) (rfl : KO F F)))) hO13) (KK.tr (KK.f (by decide) (KK.f (by decide) (KK.f (by decide) (rfl : KK F F)))) hK13) (by omega)
    · skip
      have q_17 := hI.r 60 rfl
      have l_18 : (0 : Int32).toInt = 0 := rfl
      have e_19 := mt i_eq.mpr (show ¬ ((F 60) = (0 : Int32)) from c_9)
      unfold cb_X6_goOn_43
      exact cz_X6_goOn_45 (F0 := F) (G0 := G) hfu fu (0 : Int32) (fup (fup (fup F 63 (1 : Int32)) 62 x1) 61 (1 : Int32)) G j_8 (KB.f (by decide) (KB.f (by decide) (KB.f (by decide) (KB.rf : KB F G F G)))) (KT.f (by decide) (KT.f (by decide) (KT.f (by decide) (rfl : KT F F)))) (KO.f (by decide) (KO.f (by decide) (KO.f (by decide) (rfl : KO F F)))) (KK.f (by decide) (KK.f (by decide) (KK.f (by decide) (rfl : KK F F)))) (by omega)
  · skip
    have q_20 := i_rng (F 63)
    have l_21 : (1 : Int32).toInt = 1 := rfl
    have e_22 := mt i_eq.mpr (show ¬ ((F 63) = (1 : Int32)) from c_1)
    unfold cb_X6_goOn_8
    refine WP.ite (fun c_23 => ?_) (fun c_23 => ?_)
    · skip
      have l_24 : (2 : Int32).toInt = 2 := rfl
      have e_25 := i_eq.mp (show (F 63) = (2 : Int32) from c_23)
      unfold cb_X6_goOn_17
      have j_26 : CI (fup F 63 (1 : Int32)) G := CI.fr rfl hI
      unfold cb_X6_goOn_22
      have q_27 := i_rng x1
      have j_28 : CI (fup (fup F 63 (1 : Int32)) 62 x1) G := CI.fr rfl j_26
      unfold cb_X6_goOn_27
      have j_29 : CI (fup (fup (fup F 63 (1 : Int32)) 62 x1) 61 (1 : Int32)) G := CI.rg (k := 61) (x := (1 : Int32)) rfl (by decide) (by decide) j_28 ⟨by omega, by omega⟩
      unfold cb_X6_goOn_32
      refine WP.ite (fun c_30 => ?_) (fun c_30 => ?_)
      · skip
        have q_31 := hI.r 60 rfl
        have l_32 : (0 : Int32).toInt = 0 := rfl
        have e_33 := i_eq.mp (show (F 60) = (0 : Int32) from c_30)
        unfold cb_X6_goOn_39
        refine WP.bind (cs_X6_enterMain hfu (fup (fup (fup F 63 (1 : Int32)) 62 x1) 61 (1 : Int32)) G j_29) ?_
        rintro r34 F34 G34 ⟨hI34, hB34, hT34, hO34, hK34, hp34⟩
        dsimp only
        have q_35 := hI.r 10 rfl
        have q_36 := hI34.r 10 rfl
        have e_37 : (F34 10).toInt = (F 10).toInt := hO34
        unfold cb_X6_goOn_43
        exact cz_X6_goOn_45 (F0 := F) (G0 := G) hfu fu (0 : Int32) F34 G34 hI34 (KB.tr (KB.f (by decide) (KB.f (by decide) (KB.f (by decide) (KB.rf : KB F G F G)))) hB34) (KT.tr (KT.f (by decide) (KT.f (by decide) (KT.f (by decide) (rfl : KT F F)))) hT34) (KO.tr (KO.f (by decide) (KO.f (by decide) (KO.f (by decide) (rfl : KO F F)))) hO34) (KK.tr (KK.f (by decide) (KK.f (by decide) (KK.f (by decide) (rfl : KK F F)))) hK34) (by omega)
      · skip
        have q_38 := hI.r 60 rfl
        have l_39 : (0 : Int32).toInt = 0 := rfl
        have e_40 := mt i_eq.mpr (show ¬ ((F 60) = (0 : Int32)) from c_30)
        unfold cb_X6_goOn_43
        exact cz_X6_goOn_45 (F0 := F) (G0 := G) hfu fu (0 : Int32) (fup (fup (fup F 63 (1 : Int32)) 62 x1) 61 (1 : Int32)) G j_29 (KB.f (by decide) (KB.f (by decide) (KB.f (by decide) (KB.rf : KB F G F G)))) (KT.f (by decide) (KT.f (by decide) (KT.f (by decide) (rfl : KT F F)))) (KO.f (by decide) (KO.f (by decide) (KO.f (by decide) (rfl : KO F F)))) (KK.f (by decide) (KK.f (by decide) (KK.f (by decide) (rfl : KK F F)))) (by omega)
    · skip
      have l_41 : (2 : Int32).toInt = 2 := rfl
      have e_42 := mt i_eq.mpr (show ¬ ((F 63) = (2 : Int32)) from c_23)
      unfold cb_X6_goOn_16
      refine WP.ret ?_
      exact ⟨hI, (KB.rf : KB F G F G), (rfl : KT F F), (rfl : KO F F), (rfl : KK F F), trivial⟩
theorem cs_X7_forgetInput {fu : Nat} (hfu : 8589934592 ≤ fu) (F : PF) (G : PG) (hI : CI F G) : WP (cf_X7_forgetInput fu F G) (fun r' F' G' => CI F' G' ∧ KB F G F' G' ∧ KT F F' ∧ KO F F' ∧ KK F F' ∧ True) := by
  unfold cf_X7_forgetInput
  unfold cb_X7_forgetInput_0
  have l_1 : (0 : Int32).toInt = 0 := rfl
  have j_2 : CI (fup F 69 (0 : Int32)) G := CI.rg (k := 69) (x := (0 : Int32)) rfl (by decide) (by decide) hI ⟨by omega, by omega⟩
  unfold cb_X7_forgetInput_5
  have j_3 : CI (fup (fup F 69 (0 : Int32)) 70 (0 : Int32)) G := CI.rg (k := 70) (x := (0 : Int32)) rfl (by decide) (by decide) j_2 ⟨by omega, by omega⟩
  unfold cb_X7_forgetInput_10
  refine WP.ret ?_
  exact ⟨j_3, (KB.f (by decide) (KB.f (by decide) (KB.rf : KB F G F G))), (KT.f (by decide) (KT.f (by decide) (rfl : KT F F))), (KO.f (by decide) (KO.f (by decide) (rfl : KO F F))), (KK.f (by decide) (KK.f (by decide) (rfl : KK F F))), trivial⟩
theorem cs_X7_forgetOutput {fu : Nat} (hfu : 8589934592 ≤ fu) (F : PF) (G : PG) (hI : CI F G) : WP (cf_X7_forgetOutput fu F G) (fun r' F' G' => CI F' G' ∧ KB F G F' G' ∧ KT F F' ∧ KO F F' ∧ KK F F' ∧ True) := by
  unfold cf_X7_forgetOutput
  unfold cb_X7_forgetOutput_0
  have l_1 : (0 : Int32).toInt = 0 := rfl
  have j_2 : CI (fup F 72 (0 : Int32)) G := CI.rg (k := 72) (x := (0 : Int32)) rfl (by decide) (by decide) hI ⟨by omega, by omega⟩
  unfold cb_X7_forgetOutput_5
  refine WP.ret ?_
  exact ⟨j_2, (KB.f (by decide) (KB.rf : KB F G F G)), (KT.f (by decide) (rfl : KT F F)), (KO.f (by decide) (rfl : KO F F)), (KK.f (by decide) (rfl : KK F F)), trivial⟩
theorem cs_X7_takes {fu : Nat} (hfu : 8589934592 ≤ fu) (x1 : Int32) (F : PF) (G : PG) (hI : CI F G) : WP (cf_X7_takes fu x1 F G) (fun r' F' G' => CI F' G' ∧ KB F G F' G' ∧ KT F F' ∧ KO F F' ∧ KK F F' ∧ (r' = 0 ∨ r' = 1)) := by
  unfold cf_X7_takes
  unfold cb_X7_takes_0
  refine WP.ite (fun c_1 => ?_) (fun c_1 => ?_)
  · skip
    have q_2 := hI.r 70 rfl
    have l_3 : (500 : Int32).toInt = 500 := rfl
    have e_4 := i_lt.mp (show (F 70) < (500 : Int32) from c_1)
    unfold cb_X7_takes_12
    have q_5 := hI.r 69 rfl
    first | have e_6 : ((F 69) + (F 70)).toInt = (F 69).toInt + ((F 70).toInt) := i_addn (F 69) rfl (by omega) (by omega) | have e_7 := i_rng ((F 69) + (F 70))
    have e_9 : 0 ≤ ((((F 69) + (F 70)) - ((F 69) + (F 70)) / (500 : Int32) * (500 : Int32))).toInt ∧ ((((F 69) + (F 70)) - ((F 69) + (F 70)) / (500 : Int32) * (500 : Int32))).toInt < 500 := i_rem 500 (by decide) (by decide) (by omega)
    refine WP.ix (show vp_in (((F 69) + (F 70)) - ((F 69) + (F 70)) / (500 : Int32) * (500 : Int32)) 500 from vp_in_iff.mpr ⟨by omega, by omega⟩) ?_
    have j_10 : CI F (gup G 68 (((F 69) + (F 70)) - ((F 69) + (F 70)) / (500 : Int32) * (500 : Int32)).toNatClampNeg x1) := CI.g (by decide) hI
    unfold cb_X7_takes_31
    first | have e_11 : ((F 70) + (1 : Int32)).toInt = (F 70).toInt + (1) := i_addn (F 70) rfl (by omega) (by omega) | have e_12 := i_rng ((F 70) + (1 : Int32))
    have j_13 : CI (fup F 70 ((F 70) + (1 : Int32))) (gup G 68 (((F 69) + (F 70)) - ((F 69) + (F 70)) / (500 : Int32) * (500 : Int32)).toNatClampNeg x1) := CI.rg (k := 70) (x := ((F 70) + (1 : Int32))) rfl (by decide) (by decide) j_10 ⟨by omega, by omega⟩
    unfold cb_X7_takes_41
    refine WP.ret ?_
    exact ⟨j_13, (KB.f (by decide) (KB.g (by decide) (KB.rf : KB F G F G))), (KT.f (by decide) (rfl : KT F F)), (KO.f (by decide) (rfl : KO F F)), (KK.f (by decide) (rfl : KK F F)), (by decide)⟩
  · skip
    have q_14 := hI.r 70 rfl
    have l_15 : (500 : Int32).toInt = 500 := rfl
    have e_16 := mt i_lt.mpr (show ¬ ((F 70) < (500 : Int32)) from c_1)
    unfold cb_X7_takes_10
    refine WP.ret ?_
    exact ⟨hI, (KB.rf : KB F G F G), (rfl : KT F F), (rfl : KO F F), (rfl : KK F F), (by decide)⟩
theorem cs_X7_shown {fu : Nat} (hfu : 8589934592 ≤ fu) (x1 : Int32) (F : PF) (G : PG) (hI : CI F G) : WP (cf_X7_shown fu x1 F G) (fun r' F' G' => F = F' ∧ G = G' ∧ True) := by
  unfold cf_X7_shown
  unfold cb_X7_shown_0
  refine WP.ite (fun c_1 => ?_) (fun c_1 => ?_)
  · skip
    have q_2 := i_rng x1
    have l_3 : (0 : Int32).toInt = 0 := rfl
    have e_4 := i_lt.mp (show x1 < (0 : Int32) from c_1)
    unfold cb_X7_shown_19
    unfold cb_X7_shown_29
    refine WP.ret ?_
    exact ⟨rfl, rfl, trivial⟩
  · skip
    have q_5 := i_rng x1
    have l_6 : (0 : Int32).toInt = 0 := rfl
    have e_7 := mt i_lt.mpr (show ¬ (x1 < (0 : Int32)) from c_1)
    unfold cb_X7_shown_4
    refine WP.ite (fun c_8 => ?_) (fun c_8 => ?_)
    · skip
      have l_9 : (2000 : Int32).toInt = 2000 := rfl
      have e_10 := i_le.mp (show (2000 : Int32) ≤ x1 from c_8)
      unfold cb_X7_shown_19
      unfold cb_X7_shown_29
      refine WP.ret ?_
      exact ⟨rfl, rfl, trivial⟩
    · skip
      have l_11 : (2000 : Int32).toInt = 2000 := rfl
      have e_12 := mt i_le.mpr (show ¬ ((2000 : Int32) ≤ x1) from c_8)
      unfold cb_X7_shown_11
      refine WP.ite (fun c_13 => ?_) (fun c_13 => ?_)
      · skip
        have q_14 := hI.r 72 rfl
        have e_15 := i_lt.mp (show x1 < (F 72) from c_13)
        unfold cb_X7_shown_23
        refine WP.ix (show vp_in x1 2000 from vp_in_iff.mpr ⟨by omega, by omega⟩) ?_
        unfold cb_X7_shown_29
        refine WP.ret ?_
        exact ⟨rfl, rfl, trivial⟩
      · skip
        have q_16 := hI.r 72 rfl
        have e_17 := mt i_lt.mpr (show ¬ (x1 < (F 72)) from c_13)
        unfold cb_X7_shown_19
        unfold cb_X7_shown_29
        refine WP.ret ?_
        exact ⟨rfl, rfl, trivial⟩
theorem cz_X9_take_3 {fu : Nat} (hfu : 8589934592 ≤ fu) {F0 : PF} {G0 : PG} : ∀ (n : Nat) (x1 : Int32) (x2 : Int32) (F : PF) (G : PG) (hI : CI F G) (hB : KB F0 G0 F G) (hO : KO F0 F) (i_0 : -8 ≤ x2.toInt) (i_1 : x2.toInt ≤ 24) (i_2 : (F0 88).toInt ≤ 3996 → (F 88).toInt * 8 + x2.toInt = (F0 88).toInt * 8 + 24) (i_3 : (x2.toInt + 8) % 8 = 0) (hn : (x2.toInt + 8).toNat < n), WP (cl_X9_take_3 fu n x1 x2 F G) (fun r' F' G' => CI F' G' ∧ KB F0 G0 F' G' ∧ KO F0 F' ∧ (((F0 88).toInt ≤ 3996 → (F' 88).toInt = (F0 88).toInt + 4))) := by
  intro n
  induction n with
  | zero =>
    intro x1 x2 F G hI hB hO i_0 i_1 i_2 i_3 hn
    exact absurd hn (Nat.not_lt_zero _)
  | succ n ihn =>
    intro x1 x2 F G hI hB hO i_0 i_1 i_2 i_3 hn
    show WP (cb_X9_take_3 fu (cl_X9_take_3 fu n)  x1 x2 F G) _
    unfold cb_X9_take_3
    refine WP.ite (fun c_1 => ?_) (fun c_1 => ?_)
    · skip
      have q_2 := i_rng x2
      have l_3 : (0 : Int32).toInt = 0 := rfl
      have e_4 := i_lt.mp (show x2 < (0 : Int32) from c_1)
      unfold cb_X9_take_46
      refine WP.ret ?_
      have q_5 := hI.r 88 rfl
      have q_6 := i_rng (F0 88)
      exact ⟨hI, hB, hO, (show ((F0 88).toInt ≤ 3996 → (F0 88).toInt = (F0 88).toInt + 4) by omega)⟩
    · skip
      have q_7 := i_rng x2
      have l_8 : (0 : Int32).toInt = 0 := rfl
      have e_9 := mt i_lt.mpr (show ¬ (x2 < (0 : Int32)) from c_1)
      unfold cb_X9_take_7
      refine WP.ite (fun c_10 => ?_) (fun c_10 => ?_)
      · skip
        have l_11 : (4000 : Int32).toInt = 4000 := rfl
        have q_12 := hI.r 88 rfl
        have e_13 := i_le.mp (show (4000 : Int32) ≤ (F 88) from c_10)
        unfold cb_X9_take_46
        refine WP.ret ?_
        have q_14 := i_rng (F0 88)
        exact ⟨hI, hB, hO, (show ((F0 88).toInt ≤ 3996 → (F0 88).toInt = (F0 88).toInt + 4) by omega)⟩
      · skip
        have l_15 : (4000 : Int32).toInt = 4000 := rfl
        have q_16 := hI.r 88 rfl
        have e_17 := mt i_le.mpr (show ¬ ((4000 : Int32) ≤ (F 88)) from c_10)
        unfold cb_X9_take_17
        refine WP.ix (show vp_in (F 88) 4000 from vp_in_iff.mpr ⟨by omega, by omega⟩) ?_
        have j_18 : CI F (gup G 87 (F 88).toNatClampNeg (vp_nar .byte (((x1.toUInt32 >>> (x2.toUInt32 &&& Int32.toUInt32 31)).toInt32).toInt8.toInt32))) := CI.g (by decide) hI
        unfold cb_X9_take_30
        first | have e_19 : ((F 88) + (1 : Int32)).toInt = (F 88).toInt + (1) := i_addn (F 88) rfl (by omega) (by omega) | have e_20 := i_rng ((F 88) + (1 : Int32))
        have j_21 : CI (fup F 88 ((F 88) + (1 : Int32))) (gup G 87 (F 88).toNatClampNeg (vp_nar .byte (((x1.toUInt32 >>> (x2.toUInt32 &&& Int32.toUInt32 31)).toInt32).toInt8.toInt32))) := CI.rg (k := 88) (x := ((F 88) + (1 : Int32))) rfl (by decide) (by decide) j_18 ⟨by omega, by omega⟩
        unfold cb_X9_take_40
        have q_22 := i_rng x1
        first | have e_23 : (x2 + (-8 : Int32)).toInt = x2.toInt + (-8) := i_addn x2 rfl (by omega) (by omega) | have e_24 := i_rng (x2 + (-8 : Int32))
        exact ihn x1 (x2 + (-8 : Int32)) (fup F 88 ((F 88) + (1 : Int32))) (gup G 87 (F 88).toNatClampNeg (vp_nar .byte (((x1.toUInt32 >>> (x2.toUInt32 &&& Int32.toUInt32 31)).toInt32).toInt8.toInt32))) j_21 (KB.f (by decide) (KB.g (by decide) hB)) (KO.f (by decide) hO) (show -8 ≤ (x2 + (-8 : Int32)).toInt by omega) (show (x2 + (-8 : Int32)).toInt ≤ 24 by omega) (show (F0 88).toInt ≤ 3996 → ((F 88) + (1 : Int32)).toInt * 8 + (x2 + (-8 : Int32)).toInt = (F0 88).toInt * 8 + 24 by omega) (show ((x2 + (-8 : Int32)).toInt + 8) % 8 = 0 by omega) (by omega)
theorem cs_X9_take {fu : Nat} (hfu : 8589934592 ≤ fu) (x1 : Int32) (F : PF) (G : PG) (hI : CI F G) : WP (cf_X9_take fu x1 F G) (fun r' F' G' => CI F' G' ∧ KB F G F' G' ∧ KO F F' ∧ (((F 88).toInt ≤ 3996 → (F' 88).toInt = (F 88).toInt + 4))) := by
  unfold cf_X9_take
  unfold cb_X9_take_0
  have q_1 := i_rng x1
  have l_2 : (24 : Int32).toInt = 24 := rfl
  have q_3 := hI.r 88 rfl
  exact cz_X9_take_3 (F0 := F) (G0 := G) hfu fu x1 (24 : Int32) F G hI (KB.rf : KB F G F G) (rfl : KO F F) (show -8 ≤ (24 : Int32).toInt by omega) (show (24 : Int32).toInt ≤ 24 by omega) (show (F 88).toInt ≤ 3996 → (F 88).toInt * 8 + (24 : Int32).toInt = (F 88).toInt * 8 + 24 by omega) (show ((24 : Int32).toInt + 8) % 8 = 0 by omega) (by omega)
theorem cs_X9_at {fu : Nat} (hfu : 8589934592 ≤ fu) (x1 : Int32) (F : PF) (G : PG) (hI : CI F G) : WP (cf_X9_at fu x1 F G) (fun r' F' G' => F = F' ∧ G = G' ∧ True) := by
  unfold cf_X9_at
  unfold cb_X9_at_0
  refine WP.ite (fun c_1 => ?_) (fun c_1 => ?_)
  · skip
    have q_2 := i_rng x1
    have l_3 : (0 : Int32).toInt = 0 := rfl
    have e_4 := i_lt.mp (show x1 < (0 : Int32) from c_1)
    unfold cb_X9_at_12
    unfold cb_X9_at_26
    refine WP.ret ?_
    exact ⟨rfl, rfl, trivial⟩
  · skip
    have q_5 := i_rng x1
    have l_6 : (0 : Int32).toInt = 0 := rfl
    have e_7 := mt i_lt.mpr (show ¬ (x1 < (0 : Int32)) from c_1)
    unfold cb_X9_at_4
    refine WP.ite (fun c_8 => ?_) (fun c_8 => ?_)
    · skip
      have q_9 := hI.r 88 rfl
      have e_10 := i_lt.mp (show x1 < (F 88) from c_8)
      unfold cb_X9_at_16
      refine WP.ix (show vp_in x1 4000 from vp_in_iff.mpr ⟨by omega, by omega⟩) ?_
      unfold cb_X9_at_26
      refine WP.ret ?_
      exact ⟨rfl, rfl, trivial⟩
    · skip
      have q_11 := hI.r 88 rfl
      have e_12 := mt i_lt.mpr (show ¬ (x1 < (F 88)) from c_8)
      unfold cb_X9_at_12
      unfold cb_X9_at_26
      refine WP.ret ?_
      exact ⟨rfl, rfl, trivial⟩
theorem cs_X10_isDigit {fu : Nat} (hfu : 8589934592 ≤ fu) (x0 : Int32) (F : PF) (G : PG) (hI : CI F G) : WP (cf_X10_isDigit fu x0 F G) (fun r' F' G' => F = F' ∧ G = G' ∧ (r' = 0 ∨ r' = 1)) := by
  unfold cf_X10_isDigit
  unfold cb_X10_isDigit_0
  refine WP.ite (fun c_1 => ?_) (fun c_1 => ?_)
  · skip
    have q_2 := i_rng x0
    have l_3 : (48 : Int32).toInt = 48 := rfl
    have e_4 := i_lt.mp (show x0 < (48 : Int32) from c_1)
    unfold cb_X10_isDigit_16
    unfold cb_X10_isDigit_17
    have l_5 : (0 : Int32).toInt = 0 := rfl
    refine WP.bz (show (0 : Int32) = 0 ∨ (0 : Int32) = 1 from (by decide)) ?_
    refine WP.ret ?_
    exact ⟨rfl, rfl, (by decide)⟩
  · skip
    have q_6 := i_rng x0
    have l_7 : (48 : Int32).toInt = 48 := rfl
    have e_8 := mt i_lt.mpr (show ¬ (x0 < (48 : Int32)) from c_1)
    unfold cb_X10_isDigit_6
    refine WP.ite (fun c_9 => ?_) (fun c_9 => ?_)
    · skip
      have l_10 : (57 : Int32).toInt = 57 := rfl
      have e_11 := i_lt.mp (show (57 : Int32) < x0 from c_9)
      unfold cb_X10_isDigit_16
      unfold cb_X10_isDigit_17
      have l_12 : (0 : Int32).toInt = 0 := rfl
      refine WP.bz (show (0 : Int32) = 0 ∨ (0 : Int32) = 1 from (by decide)) ?_
      refine WP.ret ?_
      exact ⟨rfl, rfl, (by decide)⟩
    · skip
      have l_13 : (57 : Int32).toInt = 57 := rfl
      have e_14 := mt i_lt.mpr (show ¬ ((57 : Int32) < x0) from c_9)
      unfold cb_X10_isDigit_12
      unfold cb_X10_isDigit_17
      have l_15 : (1 : Int32).toInt = 1 := rfl
      refine WP.bz (show (1 : Int32) = 0 ∨ (1 : Int32) = 1 from (by decide)) ?_
      refine WP.ret ?_
      exact ⟨rfl, rfl, (by decide)⟩
theorem cs_X10_isPart {fu : Nat} (hfu : 8589934592 ≤ fu) (x0 : Int32) (F : PF) (G : PG) (hI : CI F G) : WP (cf_X10_isPart fu x0 F G) (fun r' F' G' => F = F' ∧ G = G' ∧ (r' = 0 ∨ r' = 1)) := by
  unfold cf_X10_isPart
  unfold cb_X10_isPart_0
  have q_1 := i_rng x0
  refine WP.bind (cs_X10_isDigit hfu x0 F G hI) ?_
  rintro r2 _ _ ⟨rfl, rfl, hp2⟩
  dsimp only
  have q_3 := b_rng hp2
  unfold cb_X10_isPart_4
  refine WP.ite (fun c_4 => ?_) (fun c_4 => ?_)
  · skip
    have l_5 : (0 : Int32).toInt = 0 := rfl
    have e_6 := i_eq.mp (show r2 = (0 : Int32) from c_4)
    unfold cb_X10_isPart_7
    refine WP.ite (fun c_7 => ?_) (fun c_7 => ?_)
    · skip
      have l_8 : (97 : Int32).toInt = 97 := rfl
      have e_9 := i_lt.mp (show x0 < (97 : Int32) from c_7)
      unfold cb_X10_isPart_19
      refine WP.ite (fun c_10 => ?_) (fun c_10 => ?_)
      · skip
        have l_11 : (65 : Int32).toInt = 65 := rfl
        have e_12 := i_lt.mp (show x0 < (65 : Int32) from c_10)
        unfold cb_X10_isPart_31
        refine WP.ite (fun c_13 => ?_) (fun c_13 => ?_)
        · skip
          have l_14 : (95 : Int32).toInt = 95 := rfl
          have e_15 := i_eq.mp (show x0 = (95 : Int32) from c_13)
          unfold cb_X10_isPart_37
          unfold cb_X10_isPart_42
          have l_16 : (1 : Int32).toInt = 1 := rfl
          refine WP.bz (show (1 : Int32) = 0 ∨ (1 : Int32) = 1 from (by decide)) ?_
          refine WP.ret ?_
          exact ⟨rfl, rfl, (by decide)⟩
        · skip
          have l_17 : (95 : Int32).toInt = 95 := rfl
          have e_18 := mt i_eq.mpr (show ¬ (x0 = (95 : Int32)) from c_13)
          unfold cb_X10_isPart_41
          unfold cb_X10_isPart_42
          refine WP.bz (show (0 : Int32) = 0 ∨ (0 : Int32) = 1 from (by decide)) ?_
          refine WP.ret ?_
          exact ⟨rfl, rfl, (by decide)⟩
      · skip
        have l_19 : (65 : Int32).toInt = 65 := rfl
        have e_20 := mt i_lt.mpr (show ¬ (x0 < (65 : Int32)) from c_10)
        unfold cb_X10_isPart_25
        refine WP.ite (fun c_21 => ?_) (fun c_21 => ?_)
        · skip
          have l_22 : (90 : Int32).toInt = 90 := rfl
          have e_23 := i_le.mp (show x0 ≤ (90 : Int32) from c_21)
          unfold cb_X10_isPart_37
          unfold cb_X10_isPart_42
          have l_24 : (1 : Int32).toInt = 1 := rfl
          refine WP.bz (show (1 : Int32) = 0 ∨ (1 : Int32) = 1 from (by decide)) ?_
          refine WP.ret ?_
          exact ⟨rfl, rfl, (by decide)⟩
        · skip
          have l_25 : (90 : Int32).toInt = 90 := rfl
          have e_26 := mt i_le.mpr (show ¬ (x0 ≤ (90 : Int32)) from c_21)
          unfold cb_X10_isPart_31
          refine WP.ite (fun c_27 => ?_) (fun c_27 => ?_)
          · skip
            have l_28 : (95 : Int32).toInt = 95 := rfl
            have e_29 := i_eq.mp (show x0 = (95 : Int32) from c_27)
            unfold cb_X10_isPart_37
            unfold cb_X10_isPart_42
            have l_30 : (1 : Int32).toInt = 1 := rfl
            refine WP.bz (show (1 : Int32) = 0 ∨ (1 : Int32) = 1 from (by decide)) ?_
            refine WP.ret ?_
            exact ⟨rfl, rfl, (by decide)⟩
          · skip
            have l_31 : (95 : Int32).toInt = 95 := rfl
            have e_32 := mt i_eq.mpr (show ¬ (x0 = (95 : Int32)) from c_27)
            unfold cb_X10_isPart_41
            unfold cb_X10_isPart_42
            refine WP.bz (show (0 : Int32) = 0 ∨ (0 : Int32) = 1 from (by decide)) ?_
            refine WP.ret ?_
            exact ⟨rfl, rfl, (by decide)⟩
    · skip
      have l_33 : (97 : Int32).toInt = 97 := rfl
      have e_34 := mt i_lt.mpr (show ¬ (x0 < (97 : Int32)) from c_7)
      unfold cb_X10_isPart_13
      refine WP.ite (fun c_35 => ?_) (fun c_35 => ?_)
      · skip
        have l_36 : (122 : Int32).toInt = 122 := rfl
        have e_37 := i_le.mp (show x0 ≤ (122 : Int32) from c_35)
        unfold cb_X10_isPart_37
        unfold cb_X10_isPart_42
        have l_38 : (1 : Int32).toInt = 1 := rfl
        refine WP.bz (show (1 : Int32) = 0 ∨ (1 : Int32) = 1 from (by decide)) ?_
        refine WP.ret ?_
        exact ⟨rfl, rfl, (by decide)⟩
      · skip
        have l_39 : (122 : Int32).toInt = 122 := rfl
        have e_40 := mt i_le.mpr (show ¬ (x0 ≤ (122 : Int32)) from c_35)
        unfold cb_X10_isPart_19
        refine WP.ite (fun c_41 => ?_) (fun c_41 => ?_)
        · skip
          have l_42 : (65 : Int32).toInt = 65 := rfl
          have e_43 := i_lt.mp (show x0 < (65 : Int32) from c_41)
          unfold cb_X10_isPart_31
          refine WP.ite (fun c_44 => ?_) (fun c_44 => ?_)
          · skip
            have l_45 : (95 : Int32).toInt = 95 := rfl
            have e_46 := i_eq.mp (show x0 = (95 : Int32) from c_44)
            unfold cb_X10_isPart_37
            unfold cb_X10_isPart_42
            have l_47 : (1 : Int32).toInt = 1 := rfl
            refine WP.bz (show (1 : Int32) = 0 ∨ (1 : Int32) = 1 from (by decide)) ?_
            refine WP.ret ?_
            exact ⟨rfl, rfl, (by decide)⟩
          · skip
            have l_48 : (95 : Int32).toInt = 95 := rfl
            have e_49 := mt i_eq.mpr (show ¬ (x0 = (95 : Int32)) from c_44)
            unfold cb_X10_isPart_41
            unfold cb_X10_isPart_42
            refine WP.bz (show (0 : Int32) = 0 ∨ (0 : Int32) = 1 from (by decide)) ?_
            refine WP.ret ?_
            exact ⟨rfl, rfl, (by decide)⟩
        · skip
          have l_50 : (65 : Int32).toInt = 65 := rfl
          have e_51 := mt i_lt.mpr (show ¬ (x0 < (65 : Int32)) from c_41)
          unfold cb_X10_isPart_25
          refine WP.ite (fun c_52 => ?_) (fun c_52 => ?_)
          · skip
            have l_53 : (90 : Int32).toInt = 90 := rfl
            have e_54 := i_le.mp (show x0 ≤ (90 : Int32) from c_52)
            unfold cb_X10_isPart_37
            unfold cb_X10_isPart_42
            have l_55 : (1 : Int32).toInt = 1 := rfl
            refine WP.bz (show (1 : Int32) = 0 ∨ (1 : Int32) = 1 from (by decide)) ?_
            refine WP.ret ?_
            exact ⟨rfl, rfl, (by decide)⟩
          · skip
            have l_56 : (90 : Int32).toInt = 90 := rfl
            have e_57 := mt i_le.mpr (show ¬ (x0 ≤ (90 : Int32)) from c_52)
            unfold cb_X10_isPart_31
            refine WP.ite (fun c_58 => ?_) (fun c_58 => ?_)
            · skip
              have l_59 : (95 : Int32).toInt = 95 := rfl
              have e_60 := i_eq.mp (show x0 = (95 : Int32) from c_58)
              unfold cb_X10_isPart_37
              unfold cb_X10_isPart_42
              have l_61 : (1 : Int32).toInt = 1 := rfl
              refine WP.bz (show (1 : Int32) = 0 ∨ (1 : Int32) = 1 from (by decide)) ?_
              refine WP.ret ?_
              exact ⟨rfl, rfl, (by decide)⟩
            · skip
              have l_62 : (95 : Int32).toInt = 95 := rfl
              have e_63 := mt i_eq.mpr (show ¬ (x0 = (95 : Int32)) from c_58)
              unfold cb_X10_isPart_41
              unfold cb_X10_isPart_42
              refine WP.bz (show (0 : Int32) = 0 ∨ (0 : Int32) = 1 from (by decide)) ?_
              refine WP.ret ?_
              exact ⟨rfl, rfl, (by decide)⟩
  · skip
    have l_64 : (0 : Int32).toInt = 0 := rfl
    have e_65 := mt i_eq.mpr (show ¬ (r2 = (0 : Int32)) from c_4)
    unfold cb_X10_isPart_37
    unfold cb_X10_isPart_42
    have l_66 : (1 : Int32).toInt = 1 := rfl
    refine WP.bz (show (1 : Int32) = 0 ∨ (1 : Int32) = 1 from (by decide)) ?_
    refine WP.ret ?_
    exact ⟨rfl, rfl, (by decide)⟩
theorem cz_X10_behindParts_2 {fu : Nat} (hfu : 8589934592 ≤ fu) {F0 : PF} {G0 : PG} {x1 : Int32} : ∀ (n : Nat) (x2 : Int32) (F : PF) (G : PG) (hI : CI F G) (hF : F0 = F) (hG : G0 = G) (i_0 : 0 ≤ x2.toInt) (i_1 : x2.toInt ≤ 4000) (i_2 : x1.toInt ≤ x2.toInt) (hn : (2147483647 - x2.toInt).toNat < n), WP (cl_X10_behindParts_2 fu n x2 F G) (fun r' F' G' => F0 = F' ∧ G0 = G' ∧ ((x1.toInt ≤ r'.toInt ∧ r'.toInt ≤ 4000))) := by
  intro n
  induction n with
  | zero =>
    intro x2 F G hI hF hG i_0 i_1 i_2 hn
    exact absurd hn (Nat.not_lt_zero _)
  | succ n ihn =>
    intro x2 F G hI hF hG i_0 i_1 i_2 hn
    show WP (cb_X10_behindParts_2 fu (cl_X10_behindParts_2 fu n)  x2 F G) _
    unfold cb_X10_behindParts_2
    refine WP.ite (fun c_1 => ?_) (fun c_1 => ?_)
    · skip
      have q_2 := hI.r 88 rfl
      have q_3 := i_rng x2
      have e_4 := i_le.mp (show (F 88) ≤ x2 from c_1)
      unfold cb_X10_behindParts_33
      refine WP.ret ?_
      exact ⟨hF, hG, (show x1.toInt ≤ x2.toInt ∧ x2.toInt ≤ 4000 by omega)⟩
    · skip
      have q_5 := hI.r 88 rfl
      have q_6 := i_rng x2
      have e_7 := mt i_le.mpr (show ¬ ((F 88) ≤ x2) from c_1)
      unfold cb_X10_behindParts_13
      refine WP.bind (cs_X9_at hfu x2 F G hI) ?_
      rintro r8 _ _ ⟨rfl, rfl, hp8⟩
      dsimp only
      unfold cb_X10_behindParts_21
      have q_9 := i_rng r8
      refine WP.bind (cs_X10_isPart hfu r8 F G hI) ?_
      rintro r10 _ _ ⟨rfl, rfl, hp10⟩
      dsimp only
      have q_11 := b_rng hp10
      unfold cb_X10_behindParts_24
      refine WP.ite (fun c_12 => ?_) (fun c_12 => ?_)
      · skip
        have l_13 : (0 : Int32).toInt = 0 := rfl
        have e_14 := i_eq.mp (show r10 = (0 : Int32) from c_12)
        unfold cb_X10_behindParts_33
        refine WP.ret ?_
        exact ⟨hF, hG, (show x1.toInt ≤ x2.toInt ∧ x2.toInt ≤ 4000 by omega)⟩
      · skip
        have l_15 : (0 : Int32).toInt = 0 := rfl
        have e_16 := mt i_eq.mpr (show ¬ (r10 = (0 : Int32)) from c_12)
        unfold cb_X10_behindParts_27
        first | have e_17 : (x2 + (1 : Int32)).toInt = x2.toInt + (1) := i_addn x2 rfl (by omega) (by omega) | have e_18 := i_rng (x2 + (1 : Int32))
        exact ihn (x2 + (1 : Int32)) F G hI hF hG (show 0 ≤ (x2 + (1 : Int32)).toInt by omega) (show (x2 + (1 : Int32)).toInt ≤ 4000 by omega) (show x1.toInt ≤ (x2 + (1 : Int32)).toInt by omega) (by omega)
theorem cs_X10_behindParts {fu : Nat} (hfu : 8589934592 ≤ fu) (x1 : Int32) (F : PF) (G : PG) (hI : CI F G) (ha : 0 ≤ x1.toInt) (hb : x1.toInt ≤ 4000) : WP (cf_X10_behindParts fu x1 F G) (fun r' F' G' => F = F' ∧ G = G' ∧ ((x1.toInt ≤ r'.toInt ∧ r'.toInt ≤ 4000))) := by
  unfold cf_X10_behindParts
  unfold cb_X10_behindParts_0
  have q_1 := i_rng x1
  exact cz_X10_behindParts_2 (F0 := F) (G0 := G) hfu fu x1 F G hI rfl rfl (show 0 ≤ x1.toInt by omega) (show x1.toInt ≤ 4000 by omega) (show x1.toInt ≤ x1.toInt by omega) (by omega)
theorem cs_X10_add {fu : Nat} (hfu : 8589934592 ≤ fu) (x1 : Int32) (x2 : Int32) (x3 : Int32) (F : PF) (G : PG) (hI : CI F G) : WP (cf_X10_add fu x1 x2 x3 F G) (fun r' F' G' => CI F' G' ∧ KB F G F' G' ∧ KT F F' ∧ KO F F' ∧ KK F F' ∧ True) := by
  unfold cf_X10_add
  unfold cb_X10_add_0
  refine WP.ite (fun c_1 => ?_) (fun c_1 => ?_)
  · skip
    have l_2 : (4001 : Int32).toInt = 4001 := rfl
    have q_3 := hI.r 93 rfl
    have e_4 := i_le.mp (show (4001 : Int32) ≤ (F 93) from c_1)
    unfold cb_X10_add_50
    refine WP.ret ?_
    exact ⟨hI, (KB.rf : KB F G F G), (rfl : KT F F), (rfl : KO F F), (rfl : KK F F), trivial⟩
  · skip
    have l_5 : (4001 : Int32).toInt = 4001 := rfl
    have q_6 := hI.r 93 rfl
    have e_7 := mt i_le.mpr (show ¬ ((4001 : Int32) ≤ (F 93)) from c_1)
    unfold cb_X10_add_10
    refine WP.ix (show vp_in (F 93) 4001 from vp_in_iff.mpr ⟨by omega, by omega⟩) ?_
    have j_8 : CI F (gup G 90 (F 93).toNatClampNeg x1) := CI.g (by decide) hI
    unfold cb_X10_add_20
    refine WP.ix (show vp_in (F 93) 4001 from vp_in_iff.mpr ⟨by omega, by omega⟩) ?_
    have j_9 : CI F (gup (gup G 90 (F 93).toNatClampNeg x1) 91 (F 93).toNatClampNeg x2) := CI.g (by decide) j_8
    unfold cb_X10_add_30
    refine WP.ix (show vp_in (F 93) 4001 from vp_in_iff.mpr ⟨by omega, by omega⟩) ?_
    have j_10 : CI F (gup (gup (gup G 90 (F 93).toNatClampNeg x1) 91 (F 93).toNatClampNeg x2) 92 (F 93).toNatClampNeg x3) := CI.g (by decide) j_9
    unfold cb_X10_add_40
    first | have e_11 : ((F 93) + (1 : Int32)).toInt = (F 93).toInt + (1) := i_addn (F 93) rfl (by omega) (by omega) | have e_12 := i_rng ((F 93) + (1 : Int32))
    have j_13 : CI (fup F 93 ((F 93) + (1 : Int32))) (gup (gup (gup G 90 (F 93).toNatClampNeg x1) 91 (F 93).toNatClampNeg x2) 92 (F 93).toNatClampNeg x3) := CI.rg (k := 93) (x := ((F 93) + (1 : Int32))) rfl (by decide) (by decide) j_10 ⟨by omega, by omega⟩
    unfold cb_X10_add_50
    refine WP.ret ?_
    exact ⟨j_13, (KB.f (by decide) (KB.g (by decide) (KB.g (by decide) (KB.g (by decide) (KB.rf : KB F G F G))))), (KT.f (by decide) (rfl : KT F F)), (KO.f (by decide) (rfl : KO F F)), (KK.f (by decide) (rfl : KK F F)), trivial⟩
theorem cs_X10_digitOf {fu : Nat} (hfu : 8589934592 ≤ fu) (x0 : Int32) (F : PF) (G : PG) (hI : CI F G) : WP (cf_X10_digitOf fu x0 F G) (fun r' F' G' => F = F' ∧ G = G' ∧ True) := by
  unfold cf_X10_digitOf
  unfold cb_X10_digitOf_0
  have q_1 := i_rng x0
  refine WP.bind (cs_X10_isDigit hfu x0 F G hI) ?_
  rintro r2 _ _ ⟨rfl, rfl, hp2⟩
  dsimp only
  have q_3 := b_rng hp2
  unfold cb_X10_digitOf_4
  refine WP.ite (fun c_4 => ?_) (fun c_4 => ?_)
  · skip
    have l_5 : (0 : Int32).toInt = 0 := rfl
    have e_6 := i_eq.mp (show r2 = (0 : Int32) from c_4)
    unfold cb_X10_digitOf_12
    refine WP.ite (fun c_7 => ?_) (fun c_7 => ?_)
    · skip
      have l_8 : (97 : Int32).toInt = 97 := rfl
      have e_9 := i_lt.mp (show x0 < (97 : Int32) from c_7)
      unfold cb_X10_digitOf_32
      refine WP.ite (fun c_10 => ?_) (fun c_10 => ?_)
      · skip
        have l_11 : (65 : Int32).toInt = 65 := rfl
        have e_12 := i_lt.mp (show x0 < (65 : Int32) from c_10)
        unfold cb_X10_digitOf_54
        unfold cb_X10_digitOf_56
        refine WP.ret ?_
        exact ⟨rfl, rfl, trivial⟩
      · skip
        have l_13 : (65 : Int32).toInt = 65 := rfl
        have e_14 := mt i_lt.mpr (show ¬ (x0 < (65 : Int32)) from c_10)
        unfold cb_X10_digitOf_38
        refine WP.ite (fun c_15 => ?_) (fun c_15 => ?_)
        · skip
          have l_16 : (70 : Int32).toInt = 70 := rfl
          have e_17 := i_lt.mp (show (70 : Int32) < x0 from c_15)
          unfold cb_X10_digitOf_54
          unfold cb_X10_digitOf_56
          refine WP.ret ?_
          exact ⟨rfl, rfl, trivial⟩
        · skip
          have l_18 : (70 : Int32).toInt = 70 := rfl
          have e_19 := mt i_lt.mpr (show ¬ ((70 : Int32) < x0) from c_15)
          unfold cb_X10_digitOf_44
          unfold cb_X10_digitOf_56
          refine WP.ret ?_
          exact ⟨rfl, rfl, trivial⟩
    · skip
      have l_20 : (97 : Int32).toInt = 97 := rfl
      have e_21 := mt i_lt.mpr (show ¬ (x0 < (97 : Int32)) from c_7)
      unfold cb_X10_digitOf_18
      refine WP.ite (fun c_22 => ?_) (fun c_22 => ?_)
      · skip
        have l_23 : (102 : Int32).toInt = 102 := rfl
        have e_24 := i_lt.mp (show (102 : Int32) < x0 from c_22)
        unfold cb_X10_digitOf_32
        refine WP.ite (fun c_25 => ?_) (fun c_25 => ?_)
        · skip
          have l_26 : (65 : Int32).toInt = 65 := rfl
          have e_27 := i_lt.mp (show x0 < (65 : Int32) from c_25)
          unfold cb_X10_digitOf_54
          unfold cb_X10_digitOf_56
          refine WP.ret ?_
          exact ⟨rfl, rfl, trivial⟩
        · skip
          have l_28 : (65 : Int32).toInt = 65 := rfl
          have e_29 := mt i_lt.mpr (show ¬ (x0 < (65 : Int32)) from c_25)
          unfold cb_X10_digitOf_38
          refine WP.ite (fun c_30 => ?_) (fun c_30 => ?_)
          · skip
            have l_31 : (70 : Int32).toInt = 70 := rfl
            have e_32 := i_lt.mp (show (70 : Int32) < x0 from c_30)
            unfold cb_X10_digitOf_54
            unfold cb_X10_digitOf_56
            refine WP.ret ?_
            exact ⟨rfl, rfl, trivial⟩
          · skip
            have l_33 : (70 : Int32).toInt = 70 := rfl
            have e_34 := mt i_lt.mpr (show ¬ ((70 : Int32) < x0) from c_30)
            unfold cb_X10_digitOf_44
            unfold cb_X10_digitOf_56
            refine WP.ret ?_
            exact ⟨rfl, rfl, trivial⟩
      · skip
        have l_35 : (102 : Int32).toInt = 102 := rfl
        have e_36 := mt i_lt.mpr (show ¬ ((102 : Int32) < x0) from c_22)
        unfold cb_X10_digitOf_24
        refine WP.ret ?_
        exact ⟨rfl, rfl, trivial⟩
  · skip
    have l_37 : (0 : Int32).toInt = 0 := rfl
    have e_38 := mt i_eq.mpr (show ¬ (r2 = (0 : Int32)) from c_4)
    unfold cb_X10_digitOf_7
    refine WP.ret ?_
    exact ⟨rfl, rfl, trivial⟩
theorem cz_X10_behindNumber_103 {fu : Nat} (hfu : 8589934592 ≤ fu) {F0 : PF} {G0 : PG} : ∀ (n : Nat) (x1 : Int32) (x2 : Int32) (x5 : Int32) (x7 : Int64) (x9 : Int32) (F : PF) (G : PG) (hI : CI F G) (hB : KB F0 G0 F G) (hT : KT F0 F) (hO : KO F0 F) (hK : KK F0 F) (i_0 : 0 ≤ x2.toInt) (i_1 : x2.toInt ≤ 4000) (hn : (2147483647 - x9.toInt).toNat < n), WP (cl_X10_behindNumber_103 fu n x1 x2 x5 x7 x9 F G) (fun r' F' G' => CI F' G' ∧ KB F0 G0 F' G' ∧ KT F0 F' ∧ KO F0 F' ∧ KK F0 F' ∧ ((r'.toInt = -1 ∨ (0 ≤ r'.toInt ∧ r'.toInt ≤ 4010)))) := by
  intro n
  induction n with
  | zero =>
    intro x1 x2 x5 x7 x9 F G hI hB hT hO hK i_0 i_1 hn
    exact absurd hn (Nat.not_lt_zero _)
  | succ n ihn =>
    intro x1 x2 x5 x7 x9 F G hI hB hT hO hK i_0 i_1 hn
    show WP (cb_X10_behindNumber_103 fu (cl_X10_behindNumber_103 fu n)  x1 x2 x5 x7 x9 F G) _
    unfold cb_X10_behindNumber_103
    refine WP.ite (fun c_1 => ?_) (fun c_1 => ?_)
    · skip
      have q_2 := i_rng x2
      have q_3 := i_rng x9
      have e_4 := i_le.mp (show x2 ≤ x9 from c_1)
      unfold cb_X10_behindNumber_150
      refine WP.ite (fun c_5 => ?_) (fun c_5 => ?_)
      · skip
        have q_6 := i_rng (lg_cmp x7 (4294967295 : Int64))
        have l_7 : (0 : Int32).toInt = 0 := rfl
        have e_8 := i_le.mp (show (lg_cmp x7 (4294967295 : Int64)) ≤ (0 : Int32) from c_5)
        unfold cb_X10_behindNumber_161
        have l_9 : (3 : Int32).toInt = 3 := rfl
        have q_10 := i_rng (x7.toInt32)
        have q_11 := i_rng x1
        refine WP.bind (cs_X10_add hfu (3 : Int32) (x7.toInt32) x1 F G hI) ?_
        rintro r12 F12 G12 ⟨hI12, hB12, hT12, hO12, hK12, hp12⟩
        dsimp only
        have q_13 := hI.r 10 rfl
        have q_14 := hI12.r 10 rfl
        have e_15 : (F12 10).toInt = (F 10).toInt := hO12
        unfold cb_X10_behindNumber_170
        refine WP.ret ?_
        exact ⟨hI12, (KB.tr hB hB12), (KT.tr hT hT12), (KO.tr hO hO12), (KK.tr hK hK12), (show x2.toInt = -1 ∨ (0 ≤ x2.toInt ∧ x2.toInt ≤ 4010) by omega)⟩
      · skip
        have q_16 := i_rng (lg_cmp x7 (4294967295 : Int64))
        have l_17 : (0 : Int32).toInt = 0 := rfl
        have e_18 := mt i_le.mpr (show ¬ ((lg_cmp x7 (4294967295 : Int64)) ≤ (0 : Int32)) from c_5)
        unfold cb_X10_behindNumber_159
        refine WP.ret ?_
        have l_19 : (-1 : Int32).toInt = -1 := rfl
        exact ⟨hI, hB, hT, hO, hK, (show (-1 : Int32).toInt = -1 ∨ (0 ≤ (-1 : Int32).toInt ∧ (-1 : Int32).toInt ≤ 4010) by omega)⟩
    · skip
      have q_20 := i_rng x2
      have q_21 := i_rng x9
      have e_22 := mt i_le.mpr (show ¬ (x2 ≤ x9) from c_1)
      unfold cb_X10_behindNumber_109
      refine WP.bind (cs_X9_at hfu x9 F G hI) ?_
      rintro r23 _ _ ⟨rfl, rfl, hp23⟩
      dsimp only
      unfold cb_X10_behindNumber_118
      have q_24 := i_rng r23
      refine WP.bind (cs_X10_digitOf hfu r23 F G hI) ?_
      rintro r25 _ _ ⟨rfl, rfl, hp25⟩
      dsimp only
      unfold cb_X10_behindNumber_121
      refine WP.ite (fun c_26 => ?_) (fun c_26 => ?_)
      · skip
        have q_27 := i_rng r25
        have q_28 := i_rng x5
        have e_29 := i_lt.mp (show r25 < x5 from c_26)
        unfold cb_X10_behindNumber_132
        have q_30 := i_rng x1
        first | have e_31 : (x9 + (1 : Int32)).toInt = x9.toInt + (1) := i_addn x9 rfl (by omega) (by omega) | have e_32 := i_rng (x9 + (1 : Int32))
        exact ihn x1 x2 x5 ((x7 * (x5.toInt64)) + (r25.toInt64)) (x9 + (1 : Int32)) F G hI hB hT hO hK (show 0 ≤ x2.toInt by omega) (show x2.toInt ≤ 4000 by omega) (by omega)
      · skip
        have q_33 := i_rng r25
        have q_34 := i_rng x5
        have e_35 := mt i_lt.mpr (show ¬ (r25 < x5) from c_26)
        unfold cb_X10_behindNumber_130
        refine WP.ret ?_
        have l_36 : (-1 : Int32).toInt = -1 := rfl
        exact ⟨hI, hB, hT, hO, hK, (show (-1 : Int32).toInt = -1 ∨ (0 ≤ (-1 : Int32).toInt ∧ (-1 : Int32).toInt ≤ 4010) by omega)⟩
theorem cs_X10_behindNumber {fu : Nat} (hfu : 8589934592 ≤ fu) (x1 : Int32) (F : PF) (G : PG) (hI : CI F G) (ha : 0 ≤ x1.toInt) (hb : x1.toInt ≤ 4000) : WP (cf_X10_behindNumber fu x1 F G) (fun r' F' G' => CI F' G' ∧ KB F G F' G' ∧ KT F F' ∧ KO F F' ∧ KK F F' ∧ ((r'.toInt = -1 ∨ (0 ≤ r'.toInt ∧ r'.toInt ≤ 4010)))) := by
  unfold cf_X10_behindNumber
  unfold cb_X10_behindNumber_0
  have q_1 := i_rng x1
  refine WP.bind (cs_X10_behindParts hfu x1 F G hI (show 0 ≤ x1.toInt by omega) (show x1.toInt ≤ 4000 by omega)) ?_
  rintro r2 _ _ ⟨rfl, rfl, hp2⟩
  dsimp only
  have q_3 := i_rng r2
  unfold cb_X10_behindNumber_5
  refine WP.bind (cs_X9_at hfu x1 F G hI) ?_
  rintro r4 _ _ ⟨rfl, rfl, hp4⟩
  dsimp only
  unfold cb_X10_behindNumber_14
  refine WP.ite (fun c_5 => ?_) (fun c_5 => ?_)
  · skip
    have q_6 := i_rng r4
    have l_7 : (48 : Int32).toInt = 48 := rfl
    have e_8 := i_eq.mp (show r4 = (48 : Int32) from c_5)
    unfold cb_X10_behindNumber_19
    first | have e_9 : (x1 + (1 : Int32)).toInt = x1.toInt + (1) := i_addn x1 rfl (by omega) (by omega) | have e_10 := i_rng (x1 + (1 : Int32))
    refine WP.bind (cs_X9_at hfu (x1 + (1 : Int32)) F G hI) ?_
    rintro r11 _ _ ⟨rfl, rfl, hp11⟩
    dsimp only
    unfold cb_X10_behindNumber_29
    refine WP.ite (fun c_12 => ?_) (fun c_12 => ?_)
    · skip
      have q_13 := i_rng r11
      have l_14 : (120 : Int32).toInt = 120 := rfl
      have e_15 := i_eq.mp (show r11 = (120 : Int32) from c_12)
      unfold cb_X10_behindNumber_34
      unfold cb_X10_behindNumber_39
      refine WP.ite (fun c_16 => absurd c_16 (by decide)) (fun _ => ?_)
      unfold cb_X10_behindNumber_44
      unfold cb_X10_behindNumber_51
      refine WP.ite (fun c_17 => absurd c_17 (by decide)) (fun _ => ?_)
      unfold cb_X10_behindNumber_57
      unfold cb_X10_behindNumber_64
      refine WP.ite (fun c_18 => ?_) (fun c_18 => ?_)
      · skip
        first | have e_19 : (x1 + (2 : Int32)).toInt = x1.toInt + (2) := i_addn x1 rfl (by omega) (by omega) | have e_20 := i_rng (x1 + (2 : Int32))
        first | have e_21 : (r2 - (x1 + (2 : Int32))).toInt = r2.toInt - ((x1 + (2 : Int32)).toInt) := i_subn r2 rfl (by omega) (by omega) | have e_22 := i_rng (r2 - (x1 + (2 : Int32)))
        have l_23 : (1 : Int32).toInt = 1 := rfl
        have e_24 := i_lt.mp (show (r2 - (x1 + (2 : Int32))) < (1 : Int32) from c_18)
        unfold cb_X10_behindNumber_94
        refine WP.ret ?_
        have l_25 : (-1 : Int32).toInt = -1 := rfl
        exact ⟨hI, (KB.rf : KB F G F G), (rfl : KT F F), (rfl : KO F F), (rfl : KK F F), (show (-1 : Int32).toInt = -1 ∨ (0 ≤ (-1 : Int32).toInt ∧ (-1 : Int32).toInt ≤ 4010) by omega)⟩
      · skip
        first | have e_26 : (x1 + (2 : Int32)).toInt = x1.toInt + (2) := i_addn x1 rfl (by omega) (by omega) | have e_27 := i_rng (x1 + (2 : Int32))
        first | have e_28 : (r2 - (x1 + (2 : Int32))).toInt = r2.toInt - ((x1 + (2 : Int32)).toInt) := i_subn r2 rfl (by omega) (by omega) | have e_29 := i_rng (r2 - (x1 + (2 : Int32)))
        have l_30 : (1 : Int32).toInt = 1 := rfl
        have e_31 := mt i_lt.mpr (show ¬ ((r2 - (x1 + (2 : Int32))) < (1 : Int32)) from c_18)
        unfold cb_X10_behindNumber_78
        refine WP.ite (fun c_32 => absurd c_32 (by decide)) (fun _ => ?_)
        unfold cb_X10_behindNumber_84
        unfold cb_X10_behindNumber_91
        refine WP.ite (fun c_33 => ?_) (fun c_33 => ?_)
        · skip
          have l_34 : (8 : Int32).toInt = 8 := rfl
          have e_35 := i_le.mp (show (r2 - (x1 + (2 : Int32))) ≤ (8 : Int32) from c_33)
          unfold cb_X10_behindNumber_96
          have l_36 : (16 : Int32).toInt = 16 := rfl
          exact cz_X10_behindNumber_103 (F0 := F) (G0 := G) hfu fu x1 r2 (16 : Int32) (0 : Int64) (x1 + (2 : Int32)) F G hI (KB.rf : KB F G F G) (rfl : KT F F) (rfl : KO F F) (rfl : KK F F) (show 0 ≤ r2.toInt by omega) (show r2.toInt ≤ 4000 by omega) (by omega)
        · skip
          have l_37 : (8 : Int32).toInt = 8 := rfl
          have e_38 := mt i_le.mpr (show ¬ ((r2 - (x1 + (2 : Int32))) ≤ (8 : Int32)) from c_33)
          unfold cb_X10_behindNumber_94
          refine WP.ret ?_
          have l_39 : (-1 : Int32).toInt = -1 := rfl
          exact ⟨hI, (KB.rf : KB F G F G), (rfl : KT F F), (rfl : KO F F), (rfl : KK F F), (show (-1 : Int32).toInt = -1 ∨ (0 ≤ (-1 : Int32).toInt ∧ (-1 : Int32).toInt ≤ 4010) by omega)⟩
    · skip
      have q_40 := i_rng r11
      have l_41 : (120 : Int32).toInt = 120 := rfl
      have e_42 := mt i_eq.mpr (show ¬ (r11 = (120 : Int32)) from c_12)
      unfold cb_X10_behindNumber_38
      unfold cb_X10_behindNumber_39
      refine WP.ite (fun _ => ?_) (fun c_43 => absurd (by decide) c_43)
      unfold cb_X10_behindNumber_50
      unfold cb_X10_behindNumber_51
      refine WP.ite (fun _ => ?_) (fun c_44 => absurd (by decide) c_44)
      unfold cb_X10_behindNumber_62
      unfold cb_X10_behindNumber_64
      refine WP.ite (fun c_45 => ?_) (fun c_45 => ?_)
      · skip
        first | have e_46 : (r2 - x1).toInt = r2.toInt - (x1.toInt) := i_subn r2 rfl (by omega) (by omega) | have e_47 := i_rng (r2 - x1)
        have l_48 : (1 : Int32).toInt = 1 := rfl
        have e_49 := i_lt.mp (show (r2 - x1) < (1 : Int32) from c_45)
        unfold cb_X10_behindNumber_94
        refine WP.ret ?_
        have l_50 : (-1 : Int32).toInt = -1 := rfl
        exact ⟨hI, (KB.rf : KB F G F G), (rfl : KT F F), (rfl : KO F F), (rfl : KK F F), (show (-1 : Int32).toInt = -1 ∨ (0 ≤ (-1 : Int32).toInt ∧ (-1 : Int32).toInt ≤ 4010) by omega)⟩
      · skip
        first | have e_51 : (r2 - x1).toInt = r2.toInt - (x1.toInt) := i_subn r2 rfl (by omega) (by omega) | have e_52 := i_rng (r2 - x1)
        have l_53 : (1 : Int32).toInt = 1 := rfl
        have e_54 := mt i_lt.mpr (show ¬ ((r2 - x1) < (1 : Int32)) from c_45)
        unfold cb_X10_behindNumber_78
        refine WP.ite (fun _ => ?_) (fun c_55 => absurd (by decide) c_55)
        unfold cb_X10_behindNumber_89
        unfold cb_X10_behindNumber_91
        refine WP.ite (fun c_56 => ?_) (fun c_56 => ?_)
        · skip
          have l_57 : (10 : Int32).toInt = 10 := rfl
          have e_58 := i_le.mp (show (r2 - x1) ≤ (10 : Int32) from c_56)
          unfold cb_X10_behindNumber_96
          exact cz_X10_behindNumber_103 (F0 := F) (G0 := G) hfu fu x1 r2 (10 : Int32) (0 : Int64) x1 F G hI (KB.rf : KB F G F G) (rfl : KT F F) (rfl : KO F F) (rfl : KK F F) (show 0 ≤ r2.toInt by omega) (show r2.toInt ≤ 4000 by omega) (by omega)
        · skip
          have l_59 : (10 : Int32).toInt = 10 := rfl
          have e_60 := mt i_le.mpr (show ¬ ((r2 - x1) ≤ (10 : Int32)) from c_56)
          unfold cb_X10_behindNumber_94
          refine WP.ret ?_
          have l_61 : (-1 : Int32).toInt = -1 := rfl
          exact ⟨hI, (KB.rf : KB F G F G), (rfl : KT F F), (rfl : KO F F), (rfl : KK F F), (show (-1 : Int32).toInt = -1 ∨ (0 ≤ (-1 : Int32).toInt ∧ (-1 : Int32).toInt ≤ 4010) by omega)⟩
  · skip
    have q_62 := i_rng r4
    have l_63 : (48 : Int32).toInt = 48 := rfl
    have e_64 := mt i_eq.mpr (show ¬ (r4 = (48 : Int32)) from c_5)
    unfold cb_X10_behindNumber_38
    unfold cb_X10_behindNumber_39
    refine WP.ite (fun _ => ?_) (fun c_65 => absurd (by decide) c_65)
    unfold cb_X10_behindNumber_50
    unfold cb_X10_behindNumber_51
    refine WP.ite (fun _ => ?_) (fun c_66 => absurd (by decide) c_66)
    unfold cb_X10_behindNumber_62
    unfold cb_X10_behindNumber_64
    refine WP.ite (fun c_67 => ?_) (fun c_67 => ?_)
    · skip
      first | have e_68 : (r2 - x1).toInt = r2.toInt - (x1.toInt) := i_subn r2 rfl (by omega) (by omega) | have e_69 := i_rng (r2 - x1)
      have l_70 : (1 : Int32).toInt = 1 := rfl
      have e_71 := i_lt.mp (show (r2 - x1) < (1 : Int32) from c_67)
      unfold cb_X10_behindNumber_94
      refine WP.ret ?_
      have l_72 : (-1 : Int32).toInt = -1 := rfl
      exact ⟨hI, (KB.rf : KB F G F G), (rfl : KT F F), (rfl : KO F F), (rfl : KK F F), (show (-1 : Int32).toInt = -1 ∨ (0 ≤ (-1 : Int32).toInt ∧ (-1 : Int32).toInt ≤ 4010) by omega)⟩
    · skip
      first | have e_73 : (r2 - x1).toInt = r2.toInt - (x1.toInt) := i_subn r2 rfl (by omega) (by omega) | have e_74 := i_rng (r2 - x1)
      have l_75 : (1 : Int32).toInt = 1 := rfl
      have e_76 := mt i_lt.mpr (show ¬ ((r2 - x1) < (1 : Int32)) from c_67)
      unfold cb_X10_behindNumber_78
      refine WP.ite (fun _ => ?_) (fun c_77 => absurd (by decide) c_77)
      unfold cb_X10_behindNumber_89
      unfold cb_X10_behindNumber_91
      refine WP.ite (fun c_78 => ?_) (fun c_78 => ?_)
      · skip
        have l_79 : (10 : Int32).toInt = 10 := rfl
        have e_80 := i_le.mp (show (r2 - x1) ≤ (10 : Int32) from c_78)
        unfold cb_X10_behindNumber_96
        exact cz_X10_behindNumber_103 (F0 := F) (G0 := G) hfu fu x1 r2 (10 : Int32) (0 : Int64) x1 F G hI (KB.rf : KB F G F G) (rfl : KT F F) (rfl : KO F F) (rfl : KK F F) (show 0 ≤ r2.toInt by omega) (show r2.toInt ≤ 4000 by omega) (by omega)
      · skip
        have l_81 : (10 : Int32).toInt = 10 := rfl
        have e_82 := mt i_le.mpr (show ¬ ((r2 - x1) ≤ (10 : Int32)) from c_78)
        unfold cb_X10_behindNumber_94
        refine WP.ret ?_
        have l_83 : (-1 : Int32).toInt = -1 := rfl
        exact ⟨hI, (KB.rf : KB F G F G), (rfl : KT F F), (rfl : KO F F), (rfl : KK F F), (show (-1 : Int32).toInt = -1 ∨ (0 ≤ (-1 : Int32).toInt ∧ (-1 : Int32).toInt ≤ 4010) by omega)⟩
theorem cz_X10_isName_20 {fu : Nat} (hfu : 8589934592 ≤ fu) {F0 : PF} {G0 : PG} : ∀ (n : Nat) (x1 : Int32) (x2 : Int32) (x3 : Int32) (x4 : Int32) (x5 : Int32) (F : PF) (G : PG) (hI : CI F G) (hF : F0 = F) (hG : G0 = G) (i_0 : 0 ≤ x1.toInt) (i_1 : x1.toInt < 1408) (i_2 : x4 = 0 ∨ x4 = 1) (hn : (2147483647 - x5.toInt).toNat < n), WP (cl_X10_isName_20 fu n x1 x2 x3 x4 x5 F G) (fun r' F' G' => F0 = F' ∧ G0 = G' ∧ (r' = 0 ∨ r' = 1)) := by
  intro n
  induction n with
  | zero =>
    intro x1 x2 x3 x4 x5 F G hI hF hG i_0 i_1 i_2 hn
    exact absurd hn (Nat.not_lt_zero _)
  | succ n ihn =>
    intro x1 x2 x3 x4 x5 F G hI hF hG i_0 i_1 i_2 hn
    show WP (cb_X10_isName_20 fu (cl_X10_isName_20 fu n)  x1 x2 x3 x4 x5 F G) _
    have q_x4 := b_rng i_2
    unfold cb_X10_isName_20
    refine WP.ite (fun c_1 => ?_) (fun c_1 => ?_)
    · skip
      have q_2 := i_rng x3
      have q_3 := i_rng x5
      have e_4 := i_le.mp (show x3 ≤ x5 from c_1)
      unfold cb_X10_isName_74
      refine WP.bz (show x4 = 0 ∨ x4 = 1 from i_2) ?_
      refine WP.ret ?_
      exact ⟨hF, hG, i_2⟩
    · skip
      have q_5 := i_rng x3
      have q_6 := i_rng x5
      have e_7 := mt i_le.mpr (show ¬ (x3 ≤ x5) from c_1)
      unfold cb_X10_isName_26
      refine WP.ite (fun c_8 => ?_) (fun c_8 => ?_)
      · skip
        have l_9 : (0 : Int32).toInt = 0 := rfl
        have e_10 := i_eq.mp (show x4 = (0 : Int32) from c_8)
        unfold cb_X10_isName_74
        refine WP.bz (show x4 = 0 ∨ x4 = 1 from i_2) ?_
        refine WP.ret ?_
        exact ⟨hF, hG, i_2⟩
      · skip
        have l_11 : (0 : Int32).toInt = 0 := rfl
        have e_12 := mt i_eq.mpr (show ¬ (x4 = (0 : Int32)) from c_8)
        unfold cb_X10_isName_31
        have q_13 := i_rng x1
        refine WP.ix (show vp_in x1 1408 from vp_in_iff.mpr ⟨by omega, by omega⟩) ?_
        have q_14 := i_rng (G 96 x1.toNatClampNeg)
        first | have e_15 : ((G 96 x1.toNatClampNeg) + x5).toInt = (G 96 x1.toNatClampNeg).toInt + (x5.toInt) := i_addn (G 96 x1.toNatClampNeg) rfl (by omega) (by omega) | have e_16 := i_rng ((G 96 x1.toNatClampNeg) + x5)
        refine WP.bind (cs_X9_at hfu ((G 96 x1.toNatClampNeg) + x5) F G hI) ?_
        rintro r17 _ _ ⟨rfl, rfl, hp17⟩
        dsimp only
        unfold cb_X10_isName_47
        have q_18 := i_rng x2
        first | have e_19 : (x2 + x5).toInt = x2.toInt + (x5.toInt) := i_addn x2 rfl (by omega) (by omega) | have e_20 := i_rng (x2 + x5)
        refine WP.bind (cs_X9_at hfu (x2 + x5) F G hI) ?_
        rintro r21 _ _ ⟨rfl, rfl, hp21⟩
        dsimp only
        unfold cb_X10_isName_58
        refine WP.ite (fun c_22 => ?_) (fun c_22 => ?_)
        · skip
          have q_23 := i_rng r17
          have q_24 := i_rng r21
          have e_25 := i_eq.mp (show r17 = r21 from c_22)
          unfold cb_X10_isName_61
          unfold cb_X10_isName_66
          have l_26 : (1 : Int32).toInt = 1 := rfl
          first | have e_27 : (x5 + (1 : Int32)).toInt = x5.toInt + (1) := i_addn x5 rfl (by omega) (by omega) | have e_28 := i_rng (x5 + (1 : Int32))
          exact ihn x1 x2 x3 (1 : Int32) (x5 + (1 : Int32)) F G hI hF hG (show 0 ≤ x1.toInt by omega) (show x1.toInt < 1408 by omega) (by decide) (by omega)
        · skip
          have q_29 := i_rng r17
          have q_30 := i_rng r21
          have e_31 := mt i_eq.mpr (show ¬ (r17 = r21) from c_22)
          unfold cb_X10_isName_65
          unfold cb_X10_isName_66
          first | have e_32 : (x5 + (1 : Int32)).toInt = x5.toInt + (1) := i_addn x5 rfl (by omega) (by omega) | have e_33 := i_rng (x5 + (1 : Int32))
          exact ihn x1 x2 x3 (0 : Int32) (x5 + (1 : Int32)) F G hI hF hG (show 0 ≤ x1.toInt by omega) (show x1.toInt < 1408 by omega) (by decide) (by omega)
theorem cs_X10_isName {fu : Nat} (hfu : 8589934592 ≤ fu) (x1 : Int32) (x2 : Int32) (x3 : Int32) (F : PF) (G : PG) (hI : CI F G) (hc : 0 ≤ x1.toInt) (hd : x1.toInt < 1408) : WP (cf_X10_isName fu x1 x2 x3 F G) (fun r' F' G' => F = F' ∧ G = G' ∧ (r' = 0 ∨ r' = 1)) := by
  unfold cf_X10_isName
  unfold cb_X10_isName_0
  have q_1 := i_rng x1
  refine WP.ix (show vp_in x1 1408 from vp_in_iff.mpr ⟨by omega, by omega⟩) ?_
  refine WP.ite (fun c_2 => ?_) (fun c_2 => ?_)
  · skip
    have q_3 := i_rng (G 97 x1.toNatClampNeg)
    have q_4 := i_rng x3
    have e_5 := i_eq.mp (show (G 97 x1.toNatClampNeg) = x3 from c_2)
    unfold cb_X10_isName_10
    unfold cb_X10_isName_15
    have q_6 := i_rng x2
    have l_7 : (1 : Int32).toInt = 1 := rfl
    have l_8 : (0 : Int32).toInt = 0 := rfl
    exact cz_X10_isName_20 (F0 := F) (G0 := G) hfu fu x1 x2 x3 (1 : Int32) (0 : Int32) F G hI rfl rfl (show 0 ≤ x1.toInt by omega) (show x1.toInt < 1408 by omega) (by decide) (by omega)
  · skip
    have q_9 := i_rng (G 97 x1.toNatClampNeg)
    have q_10 := i_rng x3
    have e_11 := mt i_eq.mpr (show ¬ ((G 97 x1.toNatClampNeg) = x3) from c_2)
    unfold cb_X10_isName_14
    unfold cb_X10_isName_15
    have q_12 := i_rng x2
    have l_13 : (0 : Int32).toInt = 0 := rfl
    exact cz_X10_isName_20 (F0 := F) (G0 := G) hfu fu x1 x2 x3 (0 : Int32) (0 : Int32) F G hI rfl rfl (show 0 ≤ x1.toInt by omega) (show x1.toInt < 1408 by omega) (by decide) (by omega)
theorem cz_X10_nameAt_5 {fu : Nat} (hfu : 8589934592 ≤ fu) {F0 : PF} {G0 : PG} : ∀ (n : Nat) (x1 : Int32) (x2 : Int32) (x3 : Int32) (x4 : Int32) (F : PF) (G : PG) (hI : CI F G) (hB : KB F0 G0 F G) (hT : KT F0 F) (hO : KO F0 F) (hK : KK F0 F) (hn : (2147483647 - x4.toInt).toNat < n), WP (cl_X10_nameAt_5 fu n x1 x2 x3 x4 F G) (fun r' F' G' => CI F' G' ∧ KB F0 G0 F' G' ∧ KT F0 F' ∧ KO F0 F' ∧ KK F0 F' ∧ True) := by
  intro n
  induction n with
  | zero =>
    intro x1 x2 x3 x4 F G hI hB hT hO hK hn
    exact absurd hn (Nat.not_lt_zero _)
  | succ n ihn =>
    intro x1 x2 x3 x4 F G hI hB hT hO hK hn
    show WP (cb_X10_nameAt_5 fu (cl_X10_nameAt_5 fu n)  x1 x2 x3 x4 F G) _
    unfold cb_X10_nameAt_5
    refine WP.ite (fun c_1 => ?_) (fun c_1 => ?_)
    · skip
      have q_2 := i_rng x2
      have q_3 := i_rng x4
      have e_4 := i_le.mp (show x2 ≤ x4 from c_1)
      unfold cb_X10_nameAt_34
      have q_5 := i_rng x3
      have l_6 : (10 : Int32).toInt = 10 := rfl
      have q_8 := i_rng ((x3.toUInt32 >>> ((10 : Int32).toUInt32 &&& Int32.toUInt32 31)).toInt32)
      have q_10 := i_rng (x3 ^^^ ((x3.toUInt32 >>> ((10 : Int32).toUInt32 &&& Int32.toUInt32 31)).toInt32))
      have l_11 : (1023 : Int32).toInt = 1023 := rfl
      have e_13 := i_and (x3 ^^^ ((x3.toUInt32 >>> ((10 : Int32).toUInt32 &&& Int32.toUInt32 31)).toInt32)) (m := 1023) 10 (by decide) (by decide)
      refine WP.ix (show vp_in ((x3 ^^^ ((x3.toUInt32 >>> ((10 : Int32).toUInt32 &&& Int32.toUInt32 31)).toInt32)) &&& (1023 : Int32)) 1024 from vp_in_iff.mpr ⟨by omega, by omega⟩) ?_
      have q_14 := i_rng x1
      have q_15 := i_rng (G 94 ((x3 ^^^ ((x3.toUInt32 >>> ((10 : Int32).toUInt32 &&& Int32.toUInt32 31)).toInt32)) &&& (1023 : Int32)).toNatClampNeg)
      have l_16 : (0 : Int32).toInt = 0 := rfl
      exact cz_X10_nameAt_58 (F0 := F0) (G0 := G0) hfu fu x1 x2 ((x3 ^^^ ((x3.toUInt32 >>> ((10 : Int32).toUInt32 &&& Int32.toUInt32 31)).toInt32)) &&& (1023 : Int32)) (G 94 ((x3 ^^^ ((x3.toUInt32 >>> ((10 : Int32).toUInt32 &&& Int32.toUInt32 31)).toInt32)) &&& (1023 : Int32)).toNatClampNeg) (0 : Int32) F G hI hB hT hO hK (show 0 ≤ ((x3 ^^^ ((x3.toUInt32 >>> ((10 : Int32).toUInt32 &&& Int32.toUInt32 31)).toInt32)) &&& (1023 : Int32)).toInt by omega) (show ((x3 ^^^ ((x3.toUInt32 >>> ((10 : Int32).toUInt32 &&& Int32.toUInt32 31)).toInt32)) &&& (1023 : Int32)).toInt < 1024 by omega) (by omega)
    · skip
      have q_17 := i_rng x2
      have q_18 := i_rng x4
      have e_19 := mt i_le.mpr (show ¬ (x2 ≤ x4) from c_1)
      unfold cb_X10_nameAt_11
      have q_20 := i_rng x1
      first | have e_21 : (x1 + x4).toInt = x1.toInt + (x4.toInt) := i_addn x1 rfl (by omega) (by omega) | have e_22 := i_rng (x1 + x4)
      refine WP.bind (cs_X9_at hfu (x1 + x4) F G hI) ?_
      rintro r23 _ _ ⟨rfl, rfl, hp23⟩
      dsimp only
      unfold cb_X10_nameAt_26
      have q_24 := i_rng x3
      have l_25 : (31 : Int32).toInt = 31 := rfl
      have q_27 := i_rng (x3 * (31 : Int32))
      have q_28 := i_rng r23
      first | have e_29 : ((x3 * (31 : Int32)) + r23).toInt = (x3 * (31 : Int32)).toInt + (r23.toInt) := i_addn (x3 * (31 : Int32)) rfl (by omega) (by omega) | have e_30 := i_rng ((x3 * (31 : Int32)) + r23)
      first | have e_31 : (x4 + (1 : Int32)).toInt = x4.toInt + (1) := i_addn x4 rfl (by omega) (by omega) | have e_32 := i_rng (x4 + (1 : Int32))
      exact ihn x1 x2 ((x3 * (31 : Int32)) + r23) (x4 + (1 : Int32)) F G hI hB hT hO hK (by omega)
theorem cz_X10_nameAt_58 {fu : Nat} (hfu : 8589934592 ≤ fu) {F0 : PF} {G0 : PG} : ∀ (n : Nat) (x1 : Int32) (x2 : Int32) (x4 : Int32) (x5 : Int32) (x6 : Int32) (F : PF) (G : PG) (hI : CI F G) (hB : KB F0 G0 F G) (hT : KT F0 F) (hO : KO F0 F) (hK : KK F0 F) (i_0 : 0 ≤ x4.toInt) (i_1 : x4.toInt < 1024) (hn : (2147483647 - x6.toInt).toNat < n), WP (cl_X10_nameAt_58 fu n x1 x2 x4 x5 x6 F G) (fun r' F' G' => CI F' G' ∧ KB F0 G0 F' G' ∧ KT F0 F' ∧ KO F0 F' ∧ KK F0 F' ∧ True) := by
  intro n
  induction n with
  | zero =>
    intro x1 x2 x4 x5 x6 F G hI hB hT hO hK i_0 i_1 hn
    exact absurd hn (Nat.not_lt_zero _)
  | succ n ihn =>
    intro x1 x2 x4 x5 x6 F G hI hB hT hO hK i_0 i_1 hn
    show WP (cb_X10_nameAt_58 fu (cl_X10_nameAt_58 fu n)  x1 x2 x4 x5 x6 F G) _
    unfold cb_X10_nameAt_58
    refine WP.ite (fun c_1 => ?_) (fun c_1 => ?_)
    · skip
      have q_2 := hI.r 98 rfl
      have q_3 := i_rng x6
      have e_4 := i_le.mp (show (F 98) ≤ x6 from c_1)
      unfold cb_X10_nameAt_109
      refine WP.ite (fun c_5 => ?_) (fun c_5 => ?_)
      · skip
        have l_6 : (1408 : Int32).toInt = 1408 := rfl
        have e_7 := i_lt.mp (show (F 98) < (1408 : Int32) from c_5)
        unfold cb_X10_nameAt_121
        refine WP.ix (show vp_in (F 98) 1408 from vp_in_iff.mpr ⟨by omega, by omega⟩) ?_
        have j_8 : CI F (gup G 96 (F 98).toNatClampNeg x1) := CI.g (by decide) hI
        unfold cb_X10_nameAt_131
        refine WP.ix (show vp_in (F 98) 1408 from vp_in_iff.mpr ⟨by omega, by omega⟩) ?_
        have j_9 : CI F (gup (gup G 96 (F 98).toNatClampNeg x1) 97 (F 98).toNatClampNeg x2) := CI.g (by decide) j_8
        unfold cb_X10_nameAt_141
        have q_10 := i_rng x4
        refine WP.ix (show vp_in x4 1024 from vp_in_iff.mpr ⟨by omega, by omega⟩) ?_
        refine WP.ix (show vp_in (F 98) 1408 from vp_in_iff.mpr ⟨by omega, by omega⟩) ?_
        have j_11 : CI F (gup (gup (gup G 96 (F 98).toNatClampNeg x1) 97 (F 98).toNatClampNeg x2) 95 (F 98).toNatClampNeg ((gup (gup G 96 (F 98).toNatClampNeg x1) 97 (F 98).toNatClampNeg x2) 94 x4.toNatClampNeg)) := CI.g (by decide) j_9
        unfold cb_X10_nameAt_157
        refine WP.ix (show vp_in x4 1024 from vp_in_iff.mpr ⟨by omega, by omega⟩) ?_
        have j_12 : CI F (gup (gup (gup (gup G 96 (F 98).toNatClampNeg x1) 97 (F 98).toNatClampNeg x2) 95 (F 98).toNatClampNeg ((gup (gup G 96 (F 98).toNatClampNeg x1) 97 (F 98).toNatClampNeg x2) 94 x4.toNatClampNeg)) 94 x4.toNatClampNeg (F 98)) := CI.g (by decide) j_11
        unfold cb_X10_nameAt_168
        first | have e_13 : ((F 98) + (1 : Int32)).toInt = (F 98).toInt + (1) := i_addn (F 98) rfl (by omega) (by omega) | have e_14 := i_rng ((F 98) + (1 : Int32))
        have j_15 : CI (fup F 98 ((F 98) + (1 : Int32))) (gup (gup (gup (gup G 96 (F 98).toNatClampNeg x1) 97 (F 98).toNatClampNeg x2) 95 (F 98).toNatClampNeg ((gup (gup G 96 (F 98).toNatClampNeg x1) 97 (F 98).toNatClampNeg x2) 94 x4.toNatClampNeg)) 94 x4.toNatClampNeg (F 98)) := CI.rg (k := 98) (x := ((F 98) + (1 : Int32))) rfl (by decide) (by decide) j_12 ⟨by omega, by omega⟩
        unfold cb_X10_nameAt_178
        refine WP.ret ?_
        exact ⟨j_15, (KB.f (by decide) (KB.g (by decide) (KB.g (by decide) (KB.g (by decide) (KB.g (by decide) hB))))), (KT.f (by decide) hT), (KO.f (by decide) hO), (KK.f (by decide) hK), trivial⟩
      · skip
        have l_16 : (1408 : Int32).toInt = 1408 := rfl
        have e_17 := mt i_lt.mpr (show ¬ ((F 98) < (1408 : Int32)) from c_5)
        unfold cb_X10_nameAt_119
        refine WP.ret ?_
        exact ⟨hI, hB, hT, hO, hK, trivial⟩
    · skip
      have q_18 := hI.r 98 rfl
      have q_19 := i_rng x6
      have e_20 := mt i_le.mpr (show ¬ ((F 98) ≤ x6) from c_1)
      unfold cb_X10_nameAt_67
      refine WP.ite (fun c_21 => ?_) (fun c_21 => ?_)
      · skip
        have q_22 := i_rng x5
        have l_23 : (0 : Int32).toInt = 0 := rfl
        have e_24 := i_lt.mp (show x5 < (0 : Int32) from c_21)
        unfold cb_X10_nameAt_109
        refine WP.ite (fun c_25 => ?_) (fun c_25 => ?_)
        · skip
          have l_26 : (1408 : Int32).toInt = 1408 := rfl
          have e_27 := i_lt.mp (show (F 98) < (1408 : Int32) from c_25)
          unfold cb_X10_nameAt_121
          refine WP.ix (show vp_in (F 98) 1408 from vp_in_iff.mpr ⟨by omega, by omega⟩) ?_
          have j_28 : CI F (gup G 96 (F 98).toNatClampNeg x1) := CI.g (by decide) hI
          unfold cb_X10_nameAt_131
          refine WP.ix (show vp_in (F 98) 1408 from vp_in_iff.mpr ⟨by omega, by omega⟩) ?_
          have j_29 : CI F (gup (gup G 96 (F 98).toNatClampNeg x1) 97 (F 98).toNatClampNeg x2) := CI.g (by decide) j_28
          unfold cb_X10_nameAt_141
          have q_30 := i_rng x4
          refine WP.ix (show vp_in x4 1024 from vp_in_iff.mpr ⟨by omega, by omega⟩) ?_
          refine WP.ix (show vp_in (F 98) 1408 from vp_in_iff.mpr ⟨by omega, by omega⟩) ?_
          have j_31 : CI F (gup (gup (gup G 96 (F 98).toNatClampNeg x1) 97 (F 98).toNatClampNeg x2) 95 (F 98).toNatClampNeg ((gup (gup G 96 (F 98).toNatClampNeg x1) 97 (F 98).toNatClampNeg x2) 94 x4.toNatClampNeg)) := CI.g (by decide) j_29
          unfold cb_X10_nameAt_157
          refine WP.ix (show vp_in x4 1024 from vp_in_iff.mpr ⟨by omega, by omega⟩) ?_
          have j_32 : CI F (gup (gup (gup (gup G 96 (F 98).toNatClampNeg x1) 97 (F 98).toNatClampNeg x2) 95 (F 98).toNatClampNeg ((gup (gup G 96 (F 98).toNatClampNeg x1) 97 (F 98).toNatClampNeg x2) 94 x4.toNatClampNeg)) 94 x4.toNatClampNeg (F 98)) := CI.g (by decide) j_31
          unfold cb_X10_nameAt_168
          first | have e_33 : ((F 98) + (1 : Int32)).toInt = (F 98).toInt + (1) := i_addn (F 98) rfl (by omega) (by omega) | have e_34 := i_rng ((F 98) + (1 : Int32))
          have j_35 : CI (fup F 98 ((F 98) + (1 : Int32))) (gup (gup (gup (gup G 96 (F 98).toNatClampNeg x1) 97 (F 98).toNatClampNeg x2) 95 (F 98).toNatClampNeg ((gup (gup G 96 (F 98).toNatClampNeg x1) 97 (F 98).toNatClampNeg x2) 94 x4.toNatClampNeg)) 94 x4.toNatClampNeg (F 98)) := CI.rg (k := 98) (x := ((F 98) + (1 : Int32))) rfl (by decide) (by decide) j_32 ⟨by omega, by omega⟩
          unfold cb_X10_nameAt_178
          refine WP.ret ?_
          exact ⟨j_35, (KB.f (by decide) (KB.g (by decide) (KB.g (by decide) (KB.g (by decide) (KB.g (by decide) hB))))), (KT.f (by decide) hT), (KO.f (by decide) hO), (KK.f (by decide) hK), trivial⟩
        · skip
          have l_36 : (1408 : Int32).toInt = 1408 := rfl
          have e_37 := mt i_lt.mpr (show ¬ ((F 98) < (1408 : Int32)) from c_25)
          unfold cb_X10_nameAt_119
          refine WP.ret ?_
          exact ⟨hI, hB, hT, hO, hK, trivial⟩
      · skip
        have q_38 := i_rng x5
        have l_39 : (0 : Int32).toInt = 0 := rfl
        have e_40 := mt i_lt.mpr (show ¬ (x5 < (0 : Int32)) from c_21)
        unfold cb_X10_nameAt_72
        refine WP.ite (fun c_41 => ?_) (fun c_41 => ?_)
        · skip
          have l_42 : (1408 : Int32).toInt = 1408 := rfl
          have e_43 := i_le.mp (show (1408 : Int32) ≤ x5 from c_41)
          unfold cb_X10_nameAt_109
          refine WP.ite (fun c_44 => ?_) (fun c_44 => ?_)
          · skip
            have e_45 := i_lt.mp (show (F 98) < (1408 : Int32) from c_44)
            unfold cb_X10_nameAt_121
            refine WP.ix (show vp_in (F 98) 1408 from vp_in_iff.mpr ⟨by omega, by omega⟩) ?_
            have j_46 : CI F (gup G 96 (F 98).toNatClampNeg x1) := CI.g (by decide) hI
            unfold cb_X10_nameAt_131
            refine WP.ix (show vp_in (F 98) 1408 from vp_in_iff.mpr ⟨by omega, by omega⟩) ?_
            have j_47 : CI F (gup (gup G 96 (F 98).toNatClampNeg x1) 97 (F 98).toNatClampNeg x2) := CI.g (by decide) j_46
            unfold cb_X10_nameAt_141
            have q_48 := i_rng x4
            refine WP.ix (show vp_in x4 1024 from vp_in_iff.mpr ⟨by omega, by omega⟩) ?_
            refine WP.ix (show vp_in (F 98) 1408 from vp_in_iff.mpr ⟨by omega, by omega⟩) ?_
            have j_49 : CI F (gup (gup (gup G 96 (F 98).toNatClampNeg x1) 97 (F 98).toNatClampNeg x2) 95 (F 98).toNatClampNeg ((gup (gup G 96 (F 98).toNatClampNeg x1) 97 (F 98).toNatClampNeg x2) 94 x4.toNatClampNeg)) := CI.g (by decide) j_47
            unfold cb_X10_nameAt_157
            refine WP.ix (show vp_in x4 1024 from vp_in_iff.mpr ⟨by omega, by omega⟩) ?_
            have j_50 : CI F (gup (gup (gup (gup G 96 (F 98).toNatClampNeg x1) 97 (F 98).toNatClampNeg x2) 95 (F 98).toNatClampNeg ((gup (gup G 96 (F 98).toNatClampNeg x1) 97 (F 98).toNatClampNeg x2) 94 x4.toNatClampNeg)) 94 x4.toNatClampNeg (F 98)) := CI.g (by decide) j_49
            unfold cb_X10_nameAt_168
            first | have e_51 : ((F 98) + (1 : Int32)).toInt = (F 98).toInt + (1) := i_addn (F 98) rfl (by omega) (by omega) | have e_52 := i_rng ((F 98) + (1 : Int32))
            have j_53 : CI (fup F 98 ((F 98) + (1 : Int32))) (gup (gup (gup (gup G 96 (F 98).toNatClampNeg x1) 97 (F 98).toNatClampNeg x2) 95 (F 98).toNatClampNeg ((gup (gup G 96 (F 98).toNatClampNeg x1) 97 (F 98).toNatClampNeg x2) 94 x4.toNatClampNeg)) 94 x4.toNatClampNeg (F 98)) := CI.rg (k := 98) (x := ((F 98) + (1 : Int32))) rfl (by decide) (by decide) j_50 ⟨by omega, by omega⟩
            unfold cb_X10_nameAt_178
            refine WP.ret ?_
            exact ⟨j_53, (KB.f (by decide) (KB.g (by decide) (KB.g (by decide) (KB.g (by decide) (KB.g (by decide) hB))))), (KT.f (by decide) hT), (KO.f (by decide) hO), (KK.f (by decide) hK), trivial⟩
          · skip
            have e_54 := mt i_lt.mpr (show ¬ ((F 98) < (1408 : Int32)) from c_44)
            unfold cb_X10_nameAt_119
            refine WP.ret ?_
            exact ⟨hI, hB, hT, hO, hK, trivial⟩
        · skip
          have l_55 : (1408 : Int32).toInt = 1408 := rfl
          have e_56 := mt i_le.mpr (show ¬ ((1408 : Int32) ≤ x5) from c_41)
          unfold cb_X10_nameAt_80
          have q_57 := i_rng x1
          have q_58 := i_rng x2
          refine WP.bind (cs_X10_isName hfu x5 x1 x2 F G hI (show 0 ≤ x5.toInt by omega) (show x5.toInt < 1408 by omega)) ?_
          rintro r59 _ _ ⟨rfl, rfl, hp59⟩
          dsimp only
          have q_60 := b_rng hp59
          unfold cb_X10_nameAt_88
          refine WP.ite (fun c_61 => ?_) (fun c_61 => ?_)
          · skip
            have e_62 := i_eq.mp (show r59 = (0 : Int32) from c_61)
            unfold cb_X10_nameAt_94
            refine WP.ix (show vp_in x5 1408 from vp_in_iff.mpr ⟨by omega, by omega⟩) ?_
            have q_63 := i_rng x4
            have q_64 := i_rng (G 95 x5.toNatClampNeg)
            first | have e_65 : (x6 + (1 : Int32)).toInt = x6.toInt + (1) := i_addn x6 rfl (by omega) (by omega) | have e_66 := i_rng (x6 + (1 : Int32))
            exact ihn x1 x2 x4 (G 95 x5.toNatClampNeg) (x6 + (1 : Int32)) F G hI hB hT hO hK (show 0 ≤ x4.toInt by omega) (show x4.toInt < 1024 by omega) (by omega)
          · skip
            have e_67 := mt i_eq.mpr (show ¬ (r59 = (0 : Int32)) from c_61)
            unfold cb_X10_nameAt_91
            refine WP.ret ?_
            exact ⟨hI, hB, hT, hO, hK, trivial⟩
theorem cs_X10_nameAt {fu : Nat} (hfu : 8589934592 ≤ fu) (x1 : Int32) (x2 : Int32) (F : PF) (G : PG) (hI : CI F G) : WP (cf_X10_nameAt fu x1 x2 F G) (fun r' F' G' => CI F' G' ∧ KB F G F' G' ∧ KT F F' ∧ KO F F' ∧ KK F F' ∧ True) := by
  unfold cf_X10_nameAt
  unfold cb_X10_nameAt_0
  have q_1 := i_rng x1
  have q_2 := i_rng x2
  have l_3 : (0 : Int32).toInt = 0 := rfl
  exact cz_X10_nameAt_5 (F0 := F) (G0 := G) hfu fu x1 x2 x2 (0 : Int32) F G hI (KB.rf : KB F G F G) (rfl : KT F F) (rfl : KO F F) (rfl : KK F F) (by omega)
theorem cz_X10_wordAt_52 {fu : Nat} (hfu : 8589934592 ≤ fu) {F0 : PF} {G0 : PG} {n_2 : Nat} (ag_2 : Int32 → Int32 → Int32 → PF → PG → PR) (hag_2 : ∀ (x1 : Int32) (x2 : Int32) (x3 : Int32) (F : PF) (G : PG) (hI : CI F G) (hF : F0 = F) (hG : G0 = G) (i_0 : 4 ≤ x3.toInt) (i_1 : x3.toInt ≤ 19) (i_2 : 0 ≤ x2.toInt) (hn : (2147483647 - x3.toInt).toNat < n_2), WP (ag_2 x1 x2 x3 F G) (fun r' F' G' => F0 = F' ∧ G0 = G' ∧ True)) : ∀ (n : Nat) (x1 : Int32) (x2 : Int32) (x3 : Int32) (x4 : Int32) (x5 : Int32) (x6 : Int32) (F : PF) (G : PG) (hI : CI F G) (hF : F0 = F) (hG : G0 = G) (i_0 : 0 ≤ x6.toInt) (i_1 : 0 ≤ x4.toInt) (i_2 : x4.toInt ≤ 112) (i_3 : x2.toInt ≤ 8) (i_4 : 4 ≤ x3.toInt) (i_5 : x3.toInt ≤ 18) (i_6 : (2147483647 - x3.toInt).toNat < n_2 + 1) (i_7 : 0 ≤ x2.toInt) (hn : (2147483647 - x6.toInt).toNat < n), WP (cl_X10_wordAt_52 fu ag_2 n x1 x2 x3 x4 x5 x6 F G) (fun r' F' G' => F0 = F' ∧ G0 = G' ∧ True) := by
  intro n
  induction n with
  | zero =>
    intro x1 x2 x3 x4 x5 x6 F G hI hF hG i_0 i_1 i_2 i_3 i_4 i_5 i_6 i_7 hn
    exact absurd hn (Nat.not_lt_zero _)
  | succ n ihn =>
    intro x1 x2 x3 x4 x5 x6 F G hI hF hG i_0 i_1 i_2 i_3 i_4 i_5 i_6 i_7 hn
    show WP (cb_X10_wordAt_52 fu ag_2 (cl_X10_wordAt_52 fu ag_2 n)  x1 x2 x3 x4 x5 x6 F G) _
    unfold cb_X10_wordAt_52
    refine WP.ite (fun c_1 => ?_) (fun c_1 => ?_)
    · skip
      have q_2 := i_rng x2
      have q_3 := i_rng x6
      have e_4 := i_le.mp (show x2 ≤ x6 from c_1)
      unfold cb_X10_wordAt_100
      refine WP.ite (fun c_5 => ?_) (fun c_5 => ?_)
      · skip
        have q_6 := i_rng x5
        have l_7 : (0 : Int32).toInt = 0 := rfl
        have e_8 := i_eq.mp (show x5 = (0 : Int32) from c_5)
        unfold cb_X10_wordAt_107
        have q_9 := i_rng x1
        have q_10 := i_rng x3
        first | have e_11 : (x3 + (1 : Int32)).toInt = x3.toInt + (1) := i_addn x3 rfl (by omega) (by omega) | have e_12 := i_rng (x3 + (1 : Int32))
        exact hag_2 x1 x2 (x3 + (1 : Int32)) F G hI hF hG (show 4 ≤ (x3 + (1 : Int32)).toInt by omega) (show (x3 + (1 : Int32)).toInt ≤ 19 by omega) (show 0 ≤ x2.toInt by omega) (by omega)
      · skip
        have q_13 := i_rng x5
        have l_14 : (0 : Int32).toInt = 0 := rfl
        have e_15 := mt i_eq.mpr (show ¬ (x5 = (0 : Int32)) from c_5)
        unfold cb_X10_wordAt_105
        refine WP.ret ?_
        exact ⟨hF, hG, trivial⟩
    · skip
      have q_16 := i_rng x2
      have q_17 := i_rng x6
      have e_18 := mt i_le.mpr (show ¬ (x2 ≤ x6) from c_1)
      unfold cb_X10_wordAt_58
      refine WP.ite (fun c_19 => ?_) (fun c_19 => ?_)
      · skip
        have q_20 := i_rng x5
        have l_21 : (0 : Int32).toInt = 0 := rfl
        have e_22 := i_eq.mp (show x5 = (0 : Int32) from c_19)
        unfold cb_X10_wordAt_100
        refine WP.ite (fun c_23 => ?_) (fun c_23 => ?_)
        · skip
          have e_24 := i_eq.mp (show x5 = (0 : Int32) from c_23)
          unfold cb_X10_wordAt_107
          have q_25 := i_rng x1
          have q_26 := i_rng x3
          first | have e_27 : (x3 + (1 : Int32)).toInt = x3.toInt + (1) := i_addn x3 rfl (by omega) (by omega) | have e_28 := i_rng (x3 + (1 : Int32))
          exact hag_2 x1 x2 (x3 + (1 : Int32)) F G hI hF hG (show 4 ≤ (x3 + (1 : Int32)).toInt by omega) (show (x3 + (1 : Int32)).toInt ≤ 19 by omega) (show 0 ≤ x2.toInt by omega) (by omega)
        · skip
          have e_29 := mt i_eq.mpr (show ¬ (x5 = (0 : Int32)) from c_23)
          unfold cb_X10_wordAt_105
          refine WP.ret ?_
          exact ⟨hF, hG, trivial⟩
      · skip
        have q_30 := i_rng x5
        have l_31 : (0 : Int32).toInt = 0 := rfl
        have e_32 := mt i_eq.mpr (show ¬ (x5 = (0 : Int32)) from c_19)
        unfold cb_X10_wordAt_63
        have q_33 := i_rng x4
        first | have e_34 : (x4 + x6).toInt = x4.toInt + (x6.toInt) := i_addn x4 rfl (by omega) (by omega) | have e_35 := i_rng (x4 + x6)
        refine WP.bind (cs_J0_charAt_5068e hfu 2 (x4 + x6) F G hI (by decide) (show vp_in (x4 + x6) 120 from vp_in_iff.mpr ⟨by omega, by omega⟩)) ?_
        rintro r36 _ _ ⟨rfl, rfl, hp36⟩
        dsimp only
        unfold cb_X10_wordAt_73
        have q_37 := i_rng x1
        first | have e_38 : (x1 + x6).toInt = x1.toInt + (x6.toInt) := i_addn x1 rfl (by omega) (by omega) | have e_39 := i_rng (x1 + x6)
        refine WP.bind (cs_X9_at hfu (x1 + x6) F G hI) ?_
        rintro r40 _ _ ⟨rfl, rfl, hp40⟩
        dsimp only
        unfold cb_X10_wordAt_84
        refine WP.ite (fun c_41 => ?_) (fun c_41 => ?_)
        · skip
          have q_42 := i_rng r36
          have q_43 := i_rng r40
          have e_44 := i_eq.mp (show r36 = r40 from c_41)
          unfold cb_X10_wordAt_87
          unfold cb_X10_wordAt_92
          have q_45 := i_rng x3
          have l_46 : (1 : Int32).toInt = 1 := rfl
          first | have e_47 : (x6 + (1 : Int32)).toInt = x6.toInt + (1) := i_addn x6 rfl (by omega) (by omega) | have e_48 := i_rng (x6 + (1 : Int32))
          exact ihn x1 x2 x3 x4 (1 : Int32) (x6 + (1 : Int32)) F G hI hF hG (show 0 ≤ (x6 + (1 : Int32)).toInt by omega) (show 0 ≤ x4.toInt by omega) (show x4.toInt ≤ 112 by omega) (show x2.toInt ≤ 8 by omega) (show 4 ≤ x3.toInt by omega) (show x3.toInt ≤ 18 by omega) (show (2147483647 - x3.toInt).toNat < n_2 + 1 by omega) (show 0 ≤ x2.toInt by omega) (by omega)
        · skip
          have q_49 := i_rng r36
          have q_50 := i_rng r40
          have e_51 := mt i_eq.mpr (show ¬ (r36 = r40) from c_41)
          unfold cb_X10_wordAt_91
          unfold cb_X10_wordAt_92
          have q_52 := i_rng x3
          first | have e_53 : (x6 + (1 : Int32)).toInt = x6.toInt + (1) := i_addn x6 rfl (by omega) (by omega) | have e_54 := i_rng (x6 + (1 : Int32))
          exact ihn x1 x2 x3 x4 (0 : Int32) (x6 + (1 : Int32)) F G hI hF hG (show 0 ≤ (x6 + (1 : Int32)).toInt by omega) (show 0 ≤ x4.toInt by omega) (show x4.toInt ≤ 112 by omega) (show x2.toInt ≤ 8 by omega) (show 4 ≤ x3.toInt by omega) (show x3.toInt ≤ 18 by omega) (show (2147483647 - x3.toInt).toNat < n_2 + 1 by omega) (show 0 ≤ x2.toInt by omega) (by omega)
theorem cz_X10_wordAt_2 {fu : Nat} (hfu : 8589934592 ≤ fu) {F0 : PF} {G0 : PG} : ∀ (n : Nat) (x1 : Int32) (x2 : Int32) (x3 : Int32) (F : PF) (G : PG) (hI : CI F G) (hF : F0 = F) (hG : G0 = G) (i_0 : 4 ≤ x3.toInt) (i_1 : x3.toInt ≤ 19) (i_2 : 0 ≤ x2.toInt) (hn : (2147483647 - x3.toInt).toNat < n), WP (cl_X10_wordAt_2 fu n x1 x2 x3 F G) (fun r' F' G' => F0 = F' ∧ G0 = G' ∧ True) := by
  intro n
  induction n with
  | zero =>
    intro x1 x2 x3 F G hI hF hG i_0 i_1 i_2 hn
    exact absurd hn (Nat.not_lt_zero _)
  | succ n ihn =>
    intro x1 x2 x3 F G hI hF hG i_0 i_1 i_2 hn
    show WP (cb_X10_wordAt_2 fu (cl_X10_wordAt_2 fu n)  x1 x2 x3 F G) _
    unfold cb_X10_wordAt_2
    refine WP.ite (fun c_1 => ?_) (fun c_1 => ?_)
    · skip
      have l_2 : (18 : Int32).toInt = 18 := rfl
      have q_3 := i_rng x3
      have e_4 := i_lt.mp (show (18 : Int32) < x3 from c_1)
      unfold cb_X10_wordAt_113
      refine WP.ret ?_
      exact ⟨hF, hG, trivial⟩
    · skip
      have l_5 : (18 : Int32).toInt = 18 := rfl
      have q_6 := i_rng x3
      have e_7 := mt i_lt.mpr (show ¬ ((18 : Int32) < x3) from c_1)
      unfold cb_X10_wordAt_8
      refine WP.ite (fun c_8 => ?_) (fun c_8 => ?_)
      · skip
        have l_9 : (8 : Int32).toInt = 8 := rfl
        have q_10 := i_rng x2
        have e_11 := i_lt.mp (show (8 : Int32) < x2 from c_8)
        unfold cb_X10_wordAt_113
        refine WP.ret ?_
        exact ⟨hF, hG, trivial⟩
      · skip
        have l_12 : (8 : Int32).toInt = 8 := rfl
        have q_13 := i_rng x2
        have e_14 := mt i_lt.mpr (show ¬ ((8 : Int32) < x2) from c_8)
        unfold cb_X10_wordAt_14
        refine WP.ite (fun c_15 => ?_) (fun c_15 => ?_)
        · skip
          have e_16 := i_eq.mp (show x2 = (8 : Int32) from c_15)
          unfold cb_X10_wordAt_42
          unfold cb_X10_wordAt_47
          have q_17 := i_rng x1
          first | have e_18 : (x3 - (4 : Int32)).toInt = x3.toInt - (4) := i_subn x3 rfl (by omega) (by omega) | have e_19 := i_rng (x3 - (4 : Int32))
          have q_21 := i_rng ((x3 - (4 : Int32)) * (8 : Int32))
          have l_22 : (1 : Int32).toInt = 1 := rfl
          have l_23 : (0 : Int32).toInt = 0 := rfl
          exact cz_X10_wordAt_52 (F0 := F0) (G0 := G0) hfu (cl_X10_wordAt_2 fu n) ihn fu x1 x2 x3 ((x3 - (4 : Int32)) * (8 : Int32)) (1 : Int32) (0 : Int32) F G hI hF hG (show 0 ≤ (0 : Int32).toInt by omega) (show 0 ≤ ((x3 - (4 : Int32)) * (8 : Int32)).toInt by omega) (show ((x3 - (4 : Int32)) * (8 : Int32)).toInt ≤ 112 by omega) (show x2.toInt ≤ 8 by omega) (show 4 ≤ x3.toInt by omega) (show x3.toInt ≤ 18 by omega) (show (2147483647 - x3.toInt).toNat < n + 1 by omega) (show 0 ≤ x2.toInt by omega) (by omega)
        · skip
          have e_24 := mt i_eq.mpr (show ¬ (x2 = (8 : Int32)) from c_15)
          unfold cb_X10_wordAt_28
          first | have e_25 : (x3 - (4 : Int32)).toInt = x3.toInt - (4) := i_subn x3 rfl (by omega) (by omega) | have e_26 := i_rng (x3 - (4 : Int32))
          have q_28 := i_rng ((x3 - (4 : Int32)) * (8 : Int32))
          first | have e_29 : (((x3 - (4 : Int32)) * (8 : Int32)) + x2).toInt = ((x3 - (4 : Int32)) * (8 : Int32)).toInt + (x2.toInt) := i_addn ((x3 - (4 : Int32)) * (8 : Int32)) rfl (by omega) (by omega) | have e_30 := i_rng (((x3 - (4 : Int32)) * (8 : Int32)) + x2)
          refine WP.bind (cs_J0_charAt_5068e hfu 2 (((x3 - (4 : Int32)) * (8 : Int32)) + x2) F G hI (by decide) (show vp_in (((x3 - (4 : Int32)) * (8 : Int32)) + x2) 120 from vp_in_iff.mpr ⟨by omega, by omega⟩)) ?_
          rintro r31 _ _ ⟨rfl, rfl, hp31⟩
          dsimp only
          unfold cb_X10_wordAt_37
          refine WP.ite (fun c_32 => ?_) (fun c_32 => ?_)
          · skip
            have q_33 := i_rng r31
            have l_34 : (32 : Int32).toInt = 32 := rfl
            have e_35 := i_eq.mp (show r31 = (32 : Int32) from c_32)
            unfold cb_X10_wordAt_42
            unfold cb_X10_wordAt_47
            have q_36 := i_rng x1
            have l_37 : (1 : Int32).toInt = 1 := rfl
            have l_38 : (0 : Int32).toInt = 0 := rfl
            exact cz_X10_wordAt_52 (F0 := F0) (G0 := G0) hfu (cl_X10_wordAt_2 fu n) ihn fu x1 x2 x3 ((x3 - (4 : Int32)) * (8 : Int32)) (1 : Int32) (0 : Int32) F G hI hF hG (show 0 ≤ (0 : Int32).toInt by omega) (show 0 ≤ ((x3 - (4 : Int32)) * (8 : Int32)).toInt by omega) (show ((x3 - (4 : Int32)) * (8 : Int32)).toInt ≤ 112 by omega) (show x2.toInt ≤ 8 by omega) (show 4 ≤ x3.toInt by omega) (show x3.toInt ≤ 18 by omega) (show (2147483647 - x3.toInt).toNat < n + 1 by omega) (show 0 ≤ x2.toInt by omega) (by omega)
          · skip
            have q_39 := i_rng r31
            have l_40 : (32 : Int32).toInt = 32 := rfl
            have e_41 := mt i_eq.mpr (show ¬ (r31 = (32 : Int32)) from c_32)
            unfold cb_X10_wordAt_46
            unfold cb_X10_wordAt_47
            have q_42 := i_rng x1
            have l_43 : (0 : Int32).toInt = 0 := rfl
            exact cz_X10_wordAt_52 (F0 := F0) (G0 := G0) hfu (cl_X10_wordAt_2 fu n) ihn fu x1 x2 x3 ((x3 - (4 : Int32)) * (8 : Int32)) (0 : Int32) (0 : Int32) F G hI hF hG (show 0 ≤ (0 : Int32).toInt by omega) (show 0 ≤ ((x3 - (4 : Int32)) * (8 : Int32)).toInt by omega) (show ((x3 - (4 : Int32)) * (8 : Int32)).toInt ≤ 112 by omega) (show x2.toInt ≤ 8 by omega) (show 4 ≤ x3.toInt by omega) (show x3.toInt ≤ 18 by omega) (show (2147483647 - x3.toInt).toNat < n + 1 by omega) (show 0 ≤ x2.toInt by omega) (by omega)
theorem cs_X10_wordAt {fu : Nat} (hfu : 8589934592 ≤ fu) (x1 : Int32) (x2 : Int32) (F : PF) (G : PG) (hI : CI F G) (hc : 0 ≤ x2.toInt) : WP (cf_X10_wordAt fu x1 x2 F G) (fun r' F' G' => F = F' ∧ G = G' ∧ True) := by
  unfold cf_X10_wordAt
  unfold cb_X10_wordAt_0
  have q_1 := i_rng x1
  have q_2 := i_rng x2
  have l_3 : (4 : Int32).toInt = 4 := rfl
  exact cz_X10_wordAt_2 (F0 := F) (G0 := G) hfu fu x1 x2 (4 : Int32) F G hI rfl rfl (show 4 ≤ (4 : Int32).toInt by omega) (show (4 : Int32).toInt ≤ 19 by omega) (show 0 ≤ x2.toInt by omega) (by omega)
theorem cs_X10_behindName {fu : Nat} (hfu : 8589934592 ≤ fu) (x1 : Int32) (F : PF) (G : PG) (hI : CI F G) (ha : 0 ≤ x1.toInt) (hb : x1.toInt ≤ 4000) : WP (cf_X10_behindName fu x1 F G) (fun r' F' G' => CI F' G' ∧ KB F G F' G' ∧ KT F F' ∧ KO F F' ∧ KK F F' ∧ ((r'.toInt = -1 ∨ (0 ≤ r'.toInt ∧ r'.toInt ≤ 4010)))) := by
  unfold cf_X10_behindName
  unfold cb_X10_behindName_0
  have q_1 := i_rng x1
  refine WP.bind (cs_X10_behindParts hfu x1 F G hI (show 0 ≤ x1.toInt by omega) (show x1.toInt ≤ 4000 by omega)) ?_
  rintro r2 _ _ ⟨rfl, rfl, hp2⟩
  dsimp only
  have q_3 := i_rng r2
  unfold cb_X10_behindName_5
  refine WP.ite (fun c_4 => ?_) (fun c_4 => ?_)
  · skip
    first | have e_5 : (r2 - x1).toInt = r2.toInt - (x1.toInt) := i_subn r2 rfl (by omega) (by omega) | have e_6 := i_rng (r2 - x1)
    have l_7 : (16 : Int32).toInt = 16 := rfl
    have e_8 := i_le.mp (show (r2 - x1) ≤ (16 : Int32) from c_4)
    unfold cb_X10_behindName_18
    refine WP.bind (cs_X10_wordAt hfu x1 (r2 - x1) F G hI (show 0 ≤ (r2 - x1).toInt by omega)) ?_
    rintro r9 _ _ ⟨rfl, rfl, hp9⟩
    dsimp only
    unfold cb_X10_behindName_24
    refine WP.ite (fun c_10 => ?_) (fun c_10 => ?_)
    · skip
      have q_11 := i_rng r9
      have l_12 : (-1 : Int32).toInt = -1 := rfl
      have e_13 := i_eq.mp (show r9 = (-1 : Int32) from c_10)
      unfold cb_X10_behindName_43
      refine WP.bind (cs_X10_nameAt hfu x1 (r2 - x1) F G hI) ?_
      rintro r14 F14 G14 ⟨hI14, hB14, hT14, hO14, hK14, hp14⟩
      dsimp only
      have q_15 := hI.r 10 rfl
      have q_16 := hI14.r 10 rfl
      have e_17 : (F14 10).toInt = (F 10).toInt := hO14
      unfold cb_X10_behindName_51
      have l_18 : (2 : Int32).toInt = 2 := rfl
      have q_19 := i_rng r14
      refine WP.bind (cs_X10_add hfu (2 : Int32) r14 x1 F14 G14 hI14) ?_
      rintro r20 F20 G20 ⟨hI20, hB20, hT20, hO20, hK20, hp20⟩
      dsimp only
      have q_21 := hI20.r 10 rfl
      have e_22 : (F20 10).toInt = (F14 10).toInt := hO20
      unfold cb_X10_behindName_55
      refine WP.ret ?_
      exact ⟨hI20, (KB.tr (KB.tr (KB.rf : KB F G F G) hB14) hB20), (KT.tr (KT.tr (rfl : KT F F) hT14) hT20), (KO.tr (KO.tr (rfl : KO F F) hO14) hO20), (KK.tr (KK.tr (rfl : KK F F) hK14) hK20), (show r2.toInt = -1 ∨ (0 ≤ r2.toInt ∧ r2.toInt ≤ 4010) by omega)⟩
    · skip
      have q_23 := i_rng r9
      have l_24 : (-1 : Int32).toInt = -1 := rfl
      have e_25 := mt i_eq.mpr (show ¬ (r9 = (-1 : Int32)) from c_10)
      unfold cb_X10_behindName_32
      have l_26 : (0 : Int32).toInt = 0 := rfl
      refine WP.bind (cs_X10_add hfu r9 (0 : Int32) x1 F G hI) ?_
      rintro r27 F27 G27 ⟨hI27, hB27, hT27, hO27, hK27, hp27⟩
      dsimp only
      have q_28 := hI.r 10 rfl
      have q_29 := hI27.r 10 rfl
      have e_30 : (F27 10).toInt = (F 10).toInt := hO27
      unfold cb_X10_behindName_40
      unfold cb_X10_behindName_55
      refine WP.ret ?_
      exact ⟨hI27, (KB.tr (KB.rf : KB F G F G) hB27), (KT.tr (rfl : KT F F) hT27), (KO.tr (rfl : KO F F) hO27), (KK.tr (rfl : KK F F) hK27), (show r2.toInt = -1 ∨ (0 ≤ r2.toInt ∧ r2.toInt ≤ 4010) by omega)⟩
  · skip
    first | have e_31 : (r2 - x1).toInt = r2.toInt - (x1.toInt) := i_subn r2 rfl (by omega) (by omega) | have e_32 := i_rng (r2 - x1)
    have l_33 : (16 : Int32).toInt = 16 := rfl
    have e_34 := mt i_le.mpr (show ¬ ((r2 - x1) ≤ (16 : Int32)) from c_4)
    unfold cb_X10_behindName_16
    refine WP.ret ?_
    have l_35 : (-1 : Int32).toInt = -1 := rfl
    exact ⟨hI, (KB.rf : KB F G F G), (rfl : KT F F), (rfl : KO F F), (rfl : KK F F), (show (-1 : Int32).toInt = -1 ∨ (0 ≤ (-1 : Int32).toInt ∧ (-1 : Int32).toInt ≤ 4010) by omega)⟩
theorem cs_X10_behindSign {fu : Nat} (hfu : 8589934592 ≤ fu) (x1 : Int32) (x2 : Int32) (F : PF) (G : PG) (hI : CI F G) (ha : 0 ≤ x1.toInt) (hb : x1.toInt ≤ 4000) : WP (cf_X10_behindSign fu x1 x2 F G) (fun r' F' G' => CI F' G' ∧ KB F G F' G' ∧ KT F F' ∧ KO F F' ∧ KK F F' ∧ ((r'.toInt = -1 ∨ (0 ≤ r'.toInt ∧ r'.toInt ≤ 4010)))) := by
  unfold cf_X10_behindSign
  unfold cb_X10_behindSign_0
  have q_1 := i_rng ((x2.toUInt32 % 65536).toInt32)
  refine WP.bind (cs_J0_indexOf_0f7a4 hfu 3 ((x2.toUInt32 % 65536).toInt32) F G hI (by decide)) ?_
  rintro r2 _ _ ⟨rfl, rfl, hp2⟩
  dsimp only
  unfold cb_X10_behindSign_7
  have q_3 := i_rng x1
  first | have e_4 : (x1 + (1 : Int32)).toInt = x1.toInt + (1) := i_addn x1 rfl (by omega) (by omega) | have e_5 := i_rng (x1 + (1 : Int32))
  refine WP.bind (cs_X9_at hfu (x1 + (1 : Int32)) F G hI) ?_
  rintro r6 _ _ ⟨rfl, rfl, hp6⟩
  dsimp only
  unfold cb_X10_behindSign_22
  refine WP.ite (fun c_7 => ?_) (fun c_7 => ?_)
  · skip
    have q_8 := i_rng r2
    have l_9 : (0 : Int32).toInt = 0 := rfl
    have e_10 := i_lt.mp (show r2 < (0 : Int32) from c_7)
    unfold cb_X10_behindSign_49
    refine WP.ret ?_
    have l_11 : (-1 : Int32).toInt = -1 := rfl
    exact ⟨hI, (KB.rf : KB F G F G), (rfl : KT F F), (rfl : KO F F), (rfl : KK F F), (show (-1 : Int32).toInt = -1 ∨ (0 ≤ (-1 : Int32).toInt ∧ (-1 : Int32).toInt ≤ 4010) by omega)⟩
  · skip
    have q_12 := i_rng r2
    have l_13 : (0 : Int32).toInt = 0 := rfl
    have e_14 := mt i_lt.mpr (show ¬ (r2 < (0 : Int32)) from c_7)
    unfold cb_X10_behindSign_28
    refine WP.ite (fun c_15 => ?_) (fun c_15 => ?_)
    · skip
      have l_16 : (23 : Int32).toInt = 23 := rfl
      have e_17 := i_le.mp (show (23 : Int32) ≤ r2 from c_15)
      unfold cb_X10_behindSign_49
      refine WP.ret ?_
      have l_18 : (-1 : Int32).toInt = -1 := rfl
      exact ⟨hI, (KB.rf : KB F G F G), (rfl : KT F F), (rfl : KO F F), (rfl : KK F F), (show (-1 : Int32).toInt = -1 ∨ (0 ≤ (-1 : Int32).toInt ∧ (-1 : Int32).toInt ≤ 4010) by omega)⟩
    · skip
      have l_19 : (23 : Int32).toInt = 23 := rfl
      have e_20 := mt i_le.mpr (show ¬ ((23 : Int32) ≤ r2) from c_15)
      unfold cb_X10_behindSign_36
      refine WP.ite (fun c_21 => ?_) (fun c_21 => ?_)
      · skip
        have q_22 := i_rng x2
        have l_23 : (47 : Int32).toInt = 47 := rfl
        have e_24 := i_eq.mp (show x2 = (47 : Int32) from c_21)
        unfold cb_X10_behindSign_42
        refine WP.ite (fun c_25 => ?_) (fun c_25 => ?_)
        · skip
          have q_26 := i_rng r6
          have l_27 : (42 : Int32).toInt = 42 := rfl
          have e_28 := i_eq.mp (show r6 = (42 : Int32) from c_25)
          unfold cb_X10_behindSign_49
          refine WP.ret ?_
          have l_29 : (-1 : Int32).toInt = -1 := rfl
          exact ⟨hI, (KB.rf : KB F G F G), (rfl : KT F F), (rfl : KO F F), (rfl : KK F F), (show (-1 : Int32).toInt = -1 ∨ (0 ≤ (-1 : Int32).toInt ∧ (-1 : Int32).toInt ≤ 4010) by omega)⟩
        · skip
          have q_30 := i_rng r6
          have l_31 : (42 : Int32).toInt = 42 := rfl
          have e_32 := mt i_eq.mpr (show ¬ (r6 = (42 : Int32)) from c_25)
          unfold cb_X10_behindSign_51
          refine WP.ix (show vp_in r2 23 from vp_in_iff.mpr ⟨by omega, by omega⟩) ?_
          refine WP.ite (fun c_33 => ?_) (fun c_33 => ?_)
          · skip
            have e_34 := i_eq.mp (show r6 = x2 from c_33)
            unfold cb_X10_behindSign_64
            refine WP.ix (show vp_in r2 23 from vp_in_iff.mpr ⟨by omega, by omega⟩) ?_
            refine WP.ite (fun c_35 => ?_) (fun c_35 => ?_)
            · skip
              have q_36 := i_rng (tb_3 r2.toNatClampNeg)
              have e_37 := i_eq.mp (show (tb_3 r2.toNatClampNeg) = (0 : Int32) from c_35)
              unfold cb_X10_behindSign_153
              refine WP.ite (fun c_38 => ?_) (fun c_38 => ?_)
              · skip
                have l_39 : (61 : Int32).toInt = 61 := rfl
                have e_40 := i_eq.mp (show r6 = (61 : Int32) from c_38)
                unfold cb_X10_behindSign_160
                refine WP.ix (show vp_in r2 23 from vp_in_iff.mpr ⟨by omega, by omega⟩) ?_
                refine WP.ite (fun c_41 => ?_) (fun c_41 => ?_)
                · skip
                  have q_42 := i_rng (tb_4 r2.toNatClampNeg)
                  have e_43 := i_eq.mp (show (tb_4 r2.toNatClampNeg) = (0 : Int32) from c_41)
                  unfold cb_X10_behindSign_178
                  have q_44 := i_rng (tb_2 r2.toNatClampNeg)
                  refine WP.bind (cs_X10_add hfu (tb_2 r2.toNatClampNeg) (0 : Int32) x1 F G hI) ?_
                  rintro r45 F45 G45 ⟨hI45, hB45, hT45, hO45, hK45, hp45⟩
                  dsimp only
                  have q_46 := hI.r 10 rfl
                  have q_47 := hI45.r 10 rfl
                  have e_48 : (F45 10).toInt = (F 10).toInt := hO45
                  unfold cb_X10_behindSign_186
                  refine WP.ret ?_
                  exact ⟨hI45, (KB.tr (KB.rf : KB F G F G) hB45), (KT.tr (rfl : KT F F) hT45), (KO.tr (rfl : KO F F) hO45), (KK.tr (rfl : KK F F) hK45), (show (x1 + (1 : Int32)).toInt = -1 ∨ (0 ≤ (x1 + (1 : Int32)).toInt ∧ (x1 + (1 : Int32)).toInt ≤ 4010) by omega)⟩
                · skip
                  have q_49 := i_rng (tb_4 r2.toNatClampNeg)
                  have e_50 := mt i_eq.mpr (show ¬ ((tb_4 r2.toNatClampNeg) = (0 : Int32)) from c_41)
                  unfold cb_X10_behindSign_168
                  refine WP.ix (show vp_in r2 23 from vp_in_iff.mpr ⟨by omega, by omega⟩) ?_
                  unfold cb_X10_behindSign_178
                  refine WP.bind (cs_X10_add hfu (tb_4 r2.toNatClampNeg) (0 : Int32) x1 F G hI) ?_
                  rintro r51 F51 G51 ⟨hI51, hB51, hT51, hO51, hK51, hp51⟩
                  dsimp only
                  have q_52 := hI.r 10 rfl
                  have q_53 := hI51.r 10 rfl
                  have e_54 : (F51 10).toInt = (F 10).toInt := hO51
                  unfold cb_X10_behindSign_186
                  refine WP.ret ?_
                  first | have e_55 : ((x1 + (1 : Int32)) + (1 : Int32)).toInt = (x1 + (1 : Int32)).toInt + (1) := i_addn (x1 + (1 : Int32)) rfl (by omega) (by omega) | have e_56 := i_rng ((x1 + (1 : Int32)) + (1 : Int32))
                  exact ⟨hI51, (KB.tr (KB.rf : KB F G F G) hB51), (KT.tr (rfl : KT F F) hT51), (KO.tr (rfl : KO F F) hO51), (KK.tr (rfl : KK F F) hK51), (show ((x1 + (1 : Int32)) + (1 : Int32)).toInt = -1 ∨ (0 ≤ ((x1 + (1 : Int32)) + (1 : Int32)).toInt ∧ ((x1 + (1 : Int32)) + (1 : Int32)).toInt ≤ 4010) by omega)⟩
              · skip
                have l_57 : (61 : Int32).toInt = 61 := rfl
                have e_58 := mt i_eq.mpr (show ¬ (r6 = (61 : Int32)) from c_38)
                unfold cb_X10_behindSign_178
                have q_59 := i_rng (tb_2 r2.toNatClampNeg)
                refine WP.bind (cs_X10_add hfu (tb_2 r2.toNatClampNeg) (0 : Int32) x1 F G hI) ?_
                rintro r60 F60 G60 ⟨hI60, hB60, hT60, hO60, hK60, hp60⟩
                dsimp only
                have q_61 := hI.r 10 rfl
                have q_62 := hI60.r 10 rfl
                have e_63 : (F60 10).toInt = (F 10).toInt := hO60
                unfold cb_X10_behindSign_186
                refine WP.ret ?_
                exact ⟨hI60, (KB.tr (KB.rf : KB F G F G) hB60), (KT.tr (rfl : KT F F) hT60), (KO.tr (rfl : KO F F) hO60), (KK.tr (rfl : KK F F) hK60), (show (x1 + (1 : Int32)).toInt = -1 ∨ (0 ≤ (x1 + (1 : Int32)).toInt ∧ (x1 + (1 : Int32)).toInt ≤ 4010) by omega)⟩
            · skip
              have q_64 := i_rng (tb_3 r2.toNatClampNeg)
              have e_65 := mt i_eq.mpr (show ¬ ((tb_3 r2.toNatClampNeg) = (0 : Int32)) from c_35)
              unfold cb_X10_behindSign_72
              refine WP.ix (show vp_in r2 23 from vp_in_iff.mpr ⟨by omega, by omega⟩) ?_
              refine WP.ite (fun c_66 => ?_) (fun c_66 => ?_)
              · skip
                have l_67 : (55 : Int32).toInt = 55 := rfl
                have e_68 := i_eq.mp (show (tb_3 r2.toNatClampNeg) = (55 : Int32) from c_66)
                unfold cb_X10_behindSign_89
                first | have e_69 : ((x1 + (1 : Int32)) + (1 : Int32)).toInt = (x1 + (1 : Int32)).toInt + (1) := i_addn (x1 + (1 : Int32)) rfl (by omega) (by omega) | have e_70 := i_rng ((x1 + (1 : Int32)) + (1 : Int32))
                refine WP.bind (cs_X9_at hfu ((x1 + (1 : Int32)) + (1 : Int32)) F G hI) ?_
                rintro r71 _ _ ⟨rfl, rfl, hp71⟩
                dsimp only
                unfold cb_X10_behindSign_98
                refine WP.ite (fun c_72 => ?_) (fun c_72 => ?_)
                · skip
                  have q_73 := i_rng r71
                  have e_74 := i_eq.mp (show r71 = x2 from c_72)
                  unfold cb_X10_behindSign_102
                  unfold cb_X10_behindSign_109
                  refine WP.ite (fun c_75 => absurd c_75 (by decide)) (fun _ => ?_)
                  unfold cb_X10_behindSign_116
                  refine WP.ite (fun c_76 => absurd c_76 (by decide)) (fun _ => ?_)
                  unfold cb_X10_behindSign_123
                  first | have e_77 : (((x1 + (1 : Int32)) + (1 : Int32)) + (1 : Int32)).toInt = ((x1 + (1 : Int32)) + (1 : Int32)).toInt + (1) := i_addn ((x1 + (1 : Int32)) + (1 : Int32)) rfl (by omega) (by omega) | have e_78 := i_rng (((x1 + (1 : Int32)) + (1 : Int32)) + (1 : Int32))
                  refine WP.bind (cs_X9_at hfu (((x1 + (1 : Int32)) + (1 : Int32)) + (1 : Int32)) F G hI) ?_
                  rintro r79 _ _ ⟨rfl, rfl, hp79⟩
                  dsimp only
                  unfold cb_X10_behindSign_132
                  refine WP.ite (fun c_80 => ?_) (fun c_80 => ?_)
                  · skip
                    have q_81 := i_rng r79
                    have l_82 : (61 : Int32).toInt = 61 := rfl
                    have e_83 := i_eq.mp (show r79 = (61 : Int32) from c_80)
                    unfold cb_X10_behindSign_137
                    unfold cb_X10_behindSign_178
                    have l_84 : (56 : Int32).toInt = 56 := rfl
                    first | have e_85 : ((56 : Int32) - (54 : Int32)).toInt = (56 : Int32).toInt - (54) := i_subn (56 : Int32) rfl (by omega) (by omega) | have e_86 := i_rng ((56 : Int32) - (54 : Int32))
                    first | have e_87 : (((56 : Int32) - (54 : Int32)) + (38 : Int32)).toInt = ((56 : Int32) - (54 : Int32)).toInt + (38) := i_addn ((56 : Int32) - (54 : Int32)) rfl (by omega) (by omega) | have e_88 := i_rng (((56 : Int32) - (54 : Int32)) + (38 : Int32))
                    refine WP.bind (cs_X10_add hfu (((56 : Int32) - (54 : Int32)) + (38 : Int32)) (0 : Int32) x1 F G hI) ?_
                    rintro r89 F89 G89 ⟨hI89, hB89, hT89, hO89, hK89, hp89⟩
                    dsimp only
                    have q_90 := hI.r 10 rfl
                    have q_91 := hI89.r 10 rfl
                    have e_92 : (F89 10).toInt = (F 10).toInt := hO89
                    unfold cb_X10_behindSign_186
                    refine WP.ret ?_
                    first | have e_93 : ((((x1 + (1 : Int32)) + (1 : Int32)) + (1 : Int32)) + (1 : Int32)).toInt = (((x1 + (1 : Int32)) + (1 : Int32)) + (1 : Int32)).toInt + (1) := i_addn (((x1 + (1 : Int32)) + (1 : Int32)) + (1 : Int32)) rfl (by omega) (by omega) | have e_94 := i_rng ((((x1 + (1 : Int32)) + (1 : Int32)) + (1 : Int32)) + (1 : Int32))
                    exact ⟨hI89, (KB.tr (KB.rf : KB F G F G) hB89), (KT.tr (rfl : KT F F) hT89), (KO.tr (rfl : KO F F) hO89), (KK.tr (rfl : KK F F) hK89), (show ((((x1 + (1 : Int32)) + (1 : Int32)) + (1 : Int32)) + (1 : Int32)).toInt = -1 ∨ (0 ≤ ((((x1 + (1 : Int32)) + (1 : Int32)) + (1 : Int32)) + (1 : Int32)).toInt ∧ ((((x1 + (1 : Int32)) + (1 : Int32)) + (1 : Int32)) + (1 : Int32)).toInt ≤ 4010) by omega)⟩
                  · skip
                    have q_95 := i_rng r79
                    have l_96 : (61 : Int32).toInt = 61 := rfl
                    have e_97 := mt i_eq.mpr (show ¬ (r79 = (61 : Int32)) from c_80)
                    unfold cb_X10_behindSign_178
                    have l_98 : (56 : Int32).toInt = 56 := rfl
                    refine WP.bind (cs_X10_add hfu (56 : Int32) (0 : Int32) x1 F G hI) ?_
                    rintro r99 F99 G99 ⟨hI99, hB99, hT99, hO99, hK99, hp99⟩
                    dsimp only
                    have q_100 := hI.r 10 rfl
                    have q_101 := hI99.r 10 rfl
                    have e_102 : (F99 10).toInt = (F 10).toInt := hO99
                    unfold cb_X10_behindSign_186
                    refine WP.ret ?_
                    exact ⟨hI99, (KB.tr (KB.rf : KB F G F G) hB99), (KT.tr (rfl : KT F F) hT99), (KO.tr (rfl : KO F F) hO99), (KK.tr (rfl : KK F F) hK99), (show (((x1 + (1 : Int32)) + (1 : Int32)) + (1 : Int32)).toInt = -1 ∨ (0 ≤ (((x1 + (1 : Int32)) + (1 : Int32)) + (1 : Int32)).toInt ∧ (((x1 + (1 : Int32)) + (1 : Int32)) + (1 : Int32)).toInt ≤ 4010) by omega)⟩
                · skip
                  have q_103 := i_rng r71
                  have e_104 := mt i_eq.mpr (show ¬ (r71 = x2) from c_72)
                  unfold cb_X10_behindSign_109
                  refine WP.ite (fun c_105 => ?_) (fun c_105 => ?_)
                  · skip
                    have l_106 : (54 : Int32).toInt = 54 := rfl
                    have e_107 := i_lt.mp (show (tb_3 r2.toNatClampNeg) < (54 : Int32) from c_105)
                    unfold cb_X10_behindSign_178
                    refine WP.bind (cs_X10_add hfu (tb_3 r2.toNatClampNeg) (0 : Int32) x1 F G hI) ?_
                    rintro r108 F108 G108 ⟨hI108, hB108, hT108, hO108, hK108, hp108⟩
                    dsimp only
                    have q_109 := hI.r 10 rfl
                    have q_110 := hI108.r 10 rfl
                    have e_111 : (F108 10).toInt = (F 10).toInt := hO108
                    unfold cb_X10_behindSign_186
                    refine WP.ret ?_
                    exact ⟨hI108, (KB.tr (KB.rf : KB F G F G) hB108), (KT.tr (rfl : KT F F) hT108), (KO.tr (rfl : KO F F) hO108), (KK.tr (rfl : KK F F) hK108), (show ((x1 + (1 : Int32)) + (1 : Int32)).toInt = -1 ∨ (0 ≤ ((x1 + (1 : Int32)) + (1 : Int32)).toInt ∧ ((x1 + (1 : Int32)) + (1 : Int32)).toInt ≤ 4010) by omega)⟩
                  · skip
                    have l_112 : (54 : Int32).toInt = 54 := rfl
                    have e_113 := mt i_lt.mpr (show ¬ ((tb_3 r2.toNatClampNeg) < (54 : Int32)) from c_105)
                    unfold cb_X10_behindSign_116
                    refine WP.ite (fun c_114 => ?_) (fun c_114 => ?_)
                    · skip
                      have l_115 : (56 : Int32).toInt = 56 := rfl
                      have e_116 := i_lt.mp (show (56 : Int32) < (tb_3 r2.toNatClampNeg) from c_114)
                      unfold cb_X10_behindSign_178
                      refine WP.bind (cs_X10_add hfu (tb_3 r2.toNatClampNeg) (0 : Int32) x1 F G hI) ?_
                      rintro r117 F117 G117 ⟨hI117, hB117, hT117, hO117, hK117, hp117⟩
                      dsimp only
                      have q_118 := hI.r 10 rfl
                      have q_119 := hI117.r 10 rfl
                      have e_120 : (F117 10).toInt = (F 10).toInt := hO117
                      unfold cb_X10_behindSign_186
                      refine WP.ret ?_
                      exact ⟨hI117, (KB.tr (KB.rf : KB F G F G) hB117), (KT.tr (rfl : KT F F) hT117), (KO.tr (rfl : KO F F) hO117), (KK.tr (rfl : KK F F) hK117), (show ((x1 + (1 : Int32)) + (1 : Int32)).toInt = -1 ∨ (0 ≤ ((x1 + (1 : Int32)) + (1 : Int32)).toInt ∧ ((x1 + (1 : Int32)) + (1 : Int32)).toInt ≤ 4010) by omega)⟩
                    · skip
                      have l_121 : (56 : Int32).toInt = 56 := rfl
                      have e_122 := mt i_lt.mpr (show ¬ ((56 : Int32) < (tb_3 r2.toNatClampNeg)) from c_114)
                      unfold cb_X10_behindSign_123
                      refine WP.bind (cs_X9_at hfu ((x1 + (1 : Int32)) + (1 : Int32)) F G hI) ?_
                      rintro r123 _ _ ⟨rfl, rfl, hp123⟩
                      dsimp only
                      unfold cb_X10_behindSign_132
                      refine WP.ite (fun c_124 => ?_) (fun c_124 => ?_)
                      · skip
                        have q_125 := i_rng r123
                        have l_126 : (61 : Int32).toInt = 61 := rfl
                        have e_127 := i_eq.mp (show r123 = (61 : Int32) from c_124)
                        unfold cb_X10_behindSign_137
                        unfold cb_X10_behindSign_178
                        first | have e_128 : ((tb_3 r2.toNatClampNeg) - (54 : Int32)).toInt = (tb_3 r2.toNatClampNeg).toInt - (54) := i_subn (tb_3 r2.toNatClampNeg) rfl (by omega) (by omega) | have e_129 := i_rng ((tb_3 r2.toNatClampNeg) - (54 : Int32))
                        first | have e_130 : (((tb_3 r2.toNatClampNeg) - (54 : Int32)) + (38 : Int32)).toInt = ((tb_3 r2.toNatClampNeg) - (54 : Int32)).toInt + (38) := i_addn ((tb_3 r2.toNatClampNeg) - (54 : Int32)) rfl (by omega) (by omega) | have e_131 := i_rng (((tb_3 r2.toNatClampNeg) - (54 : Int32)) + (38 : Int32))
                        refine WP.bind (cs_X10_add hfu (((tb_3 r2.toNatClampNeg) - (54 : Int32)) + (38 : Int32)) (0 : Int32) x1 F G hI) ?_
                        rintro r132 F132 G132 ⟨hI132, hB132, hT132, hO132, hK132, hp132⟩
                        dsimp only
                        have q_133 := hI.r 10 rfl
                        have q_134 := hI132.r 10 rfl
                        have e_135 : (F132 10).toInt = (F 10).toInt := hO132
                        unfold cb_X10_behindSign_186
                        refine WP.ret ?_
                        first | have e_136 : (((x1 + (1 : Int32)) + (1 : Int32)) + (1 : Int32)).toInt = ((x1 + (1 : Int32)) + (1 : Int32)).toInt + (1) := i_addn ((x1 + (1 : Int32)) + (1 : Int32)) rfl (by omega) (by omega) | have e_137 := i_rng (((x1 + (1 : Int32)) + (1 : Int32)) + (1 : Int32))
                        exact ⟨hI132, (KB.tr (KB.rf : KB F G F G) hB132), (KT.tr (rfl : KT F F) hT132), (KO.tr (rfl : KO F F) hO132), (KK.tr (rfl : KK F F) hK132), (show (((x1 + (1 : Int32)) + (1 : Int32)) + (1 : Int32)).toInt = -1 ∨ (0 ≤ (((x1 + (1 : Int32)) + (1 : Int32)) + (1 : Int32)).toInt ∧ (((x1 + (1 : Int32)) + (1 : Int32)) + (1 : Int32)).toInt ≤ 4010) by omega)⟩
                      · skip
                        have q_138 := i_rng r123
                        have l_139 : (61 : Int32).toInt = 61 := rfl
                        have e_140 := mt i_eq.mpr (show ¬ (r123 = (61 : Int32)) from c_124)
                        unfold cb_X10_behindSign_178
                        refine WP.bind (cs_X10_add hfu (tb_3 r2.toNatClampNeg) (0 : Int32) x1 F G hI) ?_
                        rintro r141 F141 G141 ⟨hI141, hB141, hT141, hO141, hK141, hp141⟩
                        dsimp only
                        have q_142 := hI.r 10 rfl
                        have q_143 := hI141.r 10 rfl
                        have e_144 : (F141 10).toInt = (F 10).toInt := hO141
                        unfold cb_X10_behindSign_186
                        refine WP.ret ?_
                        exact ⟨hI141, (KB.tr (KB.rf : KB F G F G) hB141), (KT.tr (rfl : KT F F) hT141), (KO.tr (rfl : KO F F) hO141), (KK.tr (rfl : KK F F) hK141), (show ((x1 + (1 : Int32)) + (1 : Int32)).toInt = -1 ∨ (0 ≤ ((x1 + (1 : Int32)) + (1 : Int32)).toInt ∧ ((x1 + (1 : Int32)) + (1 : Int32)).toInt ≤ 4010) by omega)⟩
              · skip
                have l_145 : (55 : Int32).toInt = 55 := rfl
                have e_146 := mt i_eq.mpr (show ¬ ((tb_3 r2.toNatClampNeg) = (55 : Int32)) from c_66)
                unfold cb_X10_behindSign_109
                refine WP.ite (fun c_147 => ?_) (fun c_147 => ?_)
                · skip
                  have l_148 : (54 : Int32).toInt = 54 := rfl
                  have e_149 := i_lt.mp (show (tb_3 r2.toNatClampNeg) < (54 : Int32) from c_147)
                  unfold cb_X10_behindSign_178
                  refine WP.bind (cs_X10_add hfu (tb_3 r2.toNatClampNeg) (0 : Int32) x1 F G hI) ?_
                  rintro r150 F150 G150 ⟨hI150, hB150, hT150, hO150, hK150, hp150⟩
                  dsimp only
                  have q_151 := hI.r 10 rfl
                  have q_152 := hI150.r 10 rfl
                  have e_153 : (F150 10).toInt = (F 10).toInt := hO150
                  unfold cb_X10_behindSign_186
                  refine WP.ret ?_
                  first | have e_154 : ((x1 + (1 : Int32)) + (1 : Int32)).toInt = (x1 + (1 : Int32)).toInt + (1) := i_addn (x1 + (1 : Int32)) rfl (by omega) (by omega) | have e_155 := i_rng ((x1 + (1 : Int32)) + (1 : Int32))
                  exact ⟨hI150, (KB.tr (KB.rf : KB F G F G) hB150), (KT.tr (rfl : KT F F) hT150), (KO.tr (rfl : KO F F) hO150), (KK.tr (rfl : KK F F) hK150), (show ((x1 + (1 : Int32)) + (1 : Int32)).toInt = -1 ∨ (0 ≤ ((x1 + (1 : Int32)) + (1 : Int32)).toInt ∧ ((x1 + (1 : Int32)) + (1 : Int32)).toInt ≤ 4010) by omega)⟩
                · skip
                  have l_156 : (54 : Int32).toInt = 54 := rfl
                  have e_157 := mt i_lt.mpr (show ¬ ((tb_3 r2.toNatClampNeg) < (54 : Int32)) from c_147)
                  unfold cb_X10_behindSign_116
                  refine WP.ite (fun c_158 => ?_) (fun c_158 => ?_)
                  · skip
                    have l_159 : (56 : Int32).toInt = 56 := rfl
                    have e_160 := i_lt.mp (show (56 : Int32) < (tb_3 r2.toNatClampNeg) from c_158)
                    unfold cb_X10_behindSign_178
                    refine WP.bind (cs_X10_add hfu (tb_3 r2.toNatClampNeg) (0 : Int32) x1 F G hI) ?_
                    rintro r161 F161 G161 ⟨hI161, hB161, hT161, hO161, hK161, hp161⟩
                    dsimp only
                    have q_162 := hI.r 10 rfl
                    have q_163 := hI161.r 10 rfl
                    have e_164 : (F161 10).toInt = (F 10).toInt := hO161
                    unfold cb_X10_behindSign_186
                    refine WP.ret ?_
                    first | have e_165 : ((x1 + (1 : Int32)) + (1 : Int32)).toInt = (x1 + (1 : Int32)).toInt + (1) := i_addn (x1 + (1 : Int32)) rfl (by omega) (by omega) | have e_166 := i_rng ((x1 + (1 : Int32)) + (1 : Int32))
                    exact ⟨hI161, (KB.tr (KB.rf : KB F G F G) hB161), (KT.tr (rfl : KT F F) hT161), (KO.tr (rfl : KO F F) hO161), (KK.tr (rfl : KK F F) hK161), (show ((x1 + (1 : Int32)) + (1 : Int32)).toInt = -1 ∨ (0 ≤ ((x1 + (1 : Int32)) + (1 : Int32)).toInt ∧ ((x1 + (1 : Int32)) + (1 : Int32)).toInt ≤ 4010) by omega)⟩
                  · skip
                    have l_167 : (56 : Int32).toInt = 56 := rfl
                    have e_168 := mt i_lt.mpr (show ¬ ((56 : Int32) < (tb_3 r2.toNatClampNeg)) from c_158)
                    unfold cb_X10_behindSign_123
                    first | have e_169 : ((x1 + (1 : Int32)) + (1 : Int32)).toInt = (x1 + (1 : Int32)).toInt + (1) := i_addn (x1 + (1 : Int32)) rfl (by omega) (by omega) | have e_170 := i_rng ((x1 + (1 : Int32)) + (1 : Int32))
                    refine WP.bind (cs_X9_at hfu ((x1 + (1 : Int32)) + (1 : Int32)) F G hI) ?_
                    rintro r171 _ _ ⟨rfl, rfl, hp171⟩
                    dsimp only
                    unfold cb_X10_behindSign_132
                    refine WP.ite (fun c_172 => ?_) (fun c_172 => ?_)
                    · skip
                      have q_173 := i_rng r171
                      have l_174 : (61 : Int32).toInt = 61 := rfl
                      have e_175 := i_eq.mp (show r171 = (61 : Int32) from c_172)
                      unfold cb_X10_behindSign_137
                      unfold cb_X10_behindSign_178
                      first | have e_176 : ((tb_3 r2.toNatClampNeg) - (54 : Int32)).toInt = (tb_3 r2.toNatClampNeg).toInt - (54) := i_subn (tb_3 r2.toNatClampNeg) rfl (by omega) (by omega) | have e_177 := i_rng ((tb_3 r2.toNatClampNeg) - (54 : Int32))
                      first | have e_178 : (((tb_3 r2.toNatClampNeg) - (54 : Int32)) + (38 : Int32)).toInt = ((tb_3 r2.toNatClampNeg) - (54 : Int32)).toInt + (38) := i_addn ((tb_3 r2.toNatClampNeg) - (54 : Int32)) rfl (by omega) (by omega) | have e_179 := i_rng (((tb_3 r2.toNatClampNeg) - (54 : Int32)) + (38 : Int32))
                      refine WP.bind (cs_X10_add hfu (((tb_3 r2.toNatClampNeg) - (54 : Int32)) + (38 : Int32)) (0 : Int32) x1 F G hI) ?_
                      rintro r180 F180 G180 ⟨hI180, hB180, hT180, hO180, hK180, hp180⟩
                      dsimp only
                      have q_181 := hI.r 10 rfl
                      have q_182 := hI180.r 10 rfl
                      have e_183 : (F180 10).toInt = (F 10).toInt := hO180
                      unfold cb_X10_behindSign_186
                      refine WP.ret ?_
                      first | have e_184 : (((x1 + (1 : Int32)) + (1 : Int32)) + (1 : Int32)).toInt = ((x1 + (1 : Int32)) + (1 : Int32)).toInt + (1) := i_addn ((x1 + (1 : Int32)) + (1 : Int32)) rfl (by omega) (by omega) | have e_185 := i_rng (((x1 + (1 : Int32)) + (1 : Int32)) + (1 : Int32))
                      exact ⟨hI180, (KB.tr (KB.rf : KB F G F G) hB180), (KT.tr (rfl : KT F F) hT180), (KO.tr (rfl : KO F F) hO180), (KK.tr (rfl : KK F F) hK180), (show (((x1 + (1 : Int32)) + (1 : Int32)) + (1 : Int32)).toInt = -1 ∨ (0 ≤ (((x1 + (1 : Int32)) + (1 : Int32)) + (1 : Int32)).toInt ∧ (((x1 + (1 : Int32)) + (1 : Int32)) + (1 : Int32)).toInt ≤ 4010) by omega)⟩
                    · skip
                      have q_186 := i_rng r171
                      have l_187 : (61 : Int32).toInt = 61 := rfl
                      have e_188 := mt i_eq.mpr (show ¬ (r171 = (61 : Int32)) from c_172)
                      unfold cb_X10_behindSign_178
                      refine WP.bind (cs_X10_add hfu (tb_3 r2.toNatClampNeg) (0 : Int32) x1 F G hI) ?_
                      rintro r189 F189 G189 ⟨hI189, hB189, hT189, hO189, hK189, hp189⟩
                      dsimp only
                      have q_190 := hI.r 10 rfl
                      have q_191 := hI189.r 10 rfl
                      have e_192 : (F189 10).toInt = (F 10).toInt := hO189
                      unfold cb_X10_behindSign_186
                      refine WP.ret ?_
                      exact ⟨hI189, (KB.tr (KB.rf : KB F G F G) hB189), (KT.tr (rfl : KT F F) hT189), (KO.tr (rfl : KO F F) hO189), (KK.tr (rfl : KK F F) hK189), (show ((x1 + (1 : Int32)) + (1 : Int32)).toInt = -1 ∨ (0 ≤ ((x1 + (1 : Int32)) + (1 : Int32)).toInt ∧ ((x1 + (1 : Int32)) + (1 : Int32)).toInt ≤ 4010) by omega)⟩
          · skip
            have e_193 := mt i_eq.mpr (show ¬ (r6 = x2) from c_33)
            unfold cb_X10_behindSign_153
            refine WP.ite (fun c_194 => ?_) (fun c_194 => ?_)
            · skip
              have l_195 : (61 : Int32).toInt = 61 := rfl
              have e_196 := i_eq.mp (show r6 = (61 : Int32) from c_194)
              unfold cb_X10_behindSign_160
              refine WP.ix (show vp_in r2 23 from vp_in_iff.mpr ⟨by omega, by omega⟩) ?_
              refine WP.ite (fun c_197 => ?_) (fun c_197 => ?_)
              · skip
                have q_198 := i_rng (tb_4 r2.toNatClampNeg)
                have e_199 := i_eq.mp (show (tb_4 r2.toNatClampNeg) = (0 : Int32) from c_197)
                unfold cb_X10_behindSign_178
                have q_200 := i_rng (tb_2 r2.toNatClampNeg)
                refine WP.bind (cs_X10_add hfu (tb_2 r2.toNatClampNeg) (0 : Int32) x1 F G hI) ?_
                rintro r201 F201 G201 ⟨hI201, hB201, hT201, hO201, hK201, hp201⟩
                dsimp only
                have q_202 := hI.r 10 rfl
                have q_203 := hI201.r 10 rfl
                have e_204 : (F201 10).toInt = (F 10).toInt := hO201
                unfold cb_X10_behindSign_186
                refine WP.ret ?_
                exact ⟨hI201, (KB.tr (KB.rf : KB F G F G) hB201), (KT.tr (rfl : KT F F) hT201), (KO.tr (rfl : KO F F) hO201), (KK.tr (rfl : KK F F) hK201), (show (x1 + (1 : Int32)).toInt = -1 ∨ (0 ≤ (x1 + (1 : Int32)).toInt ∧ (x1 + (1 : Int32)).toInt ≤ 4010) by omega)⟩
              · skip
                have q_205 := i_rng (tb_4 r2.toNatClampNeg)
                have e_206 := mt i_eq.mpr (show ¬ ((tb_4 r2.toNatClampNeg) = (0 : Int32)) from c_197)
                unfold cb_X10_behindSign_168
                refine WP.ix (show vp_in r2 23 from vp_in_iff.mpr ⟨by omega, by omega⟩) ?_
                unfold cb_X10_behindSign_178
                refine WP.bind (cs_X10_add hfu (tb_4 r2.toNatClampNeg) (0 : Int32) x1 F G hI) ?_
                rintro r207 F207 G207 ⟨hI207, hB207, hT207, hO207, hK207, hp207⟩
                dsimp only
                have q_208 := hI.r 10 rfl
                have q_209 := hI207.r 10 rfl
                have e_210 : (F207 10).toInt = (F 10).toInt := hO207
                unfold cb_X10_behindSign_186
                refine WP.ret ?_
                first | have e_211 : ((x1 + (1 : Int32)) + (1 : Int32)).toInt = (x1 + (1 : Int32)).toInt + (1) := i_addn (x1 + (1 : Int32)) rfl (by omega) (by omega) | have e_212 := i_rng ((x1 + (1 : Int32)) + (1 : Int32))
                exact ⟨hI207, (KB.tr (KB.rf : KB F G F G) hB207), (KT.tr (rfl : KT F F) hT207), (KO.tr (rfl : KO F F) hO207), (KK.tr (rfl : KK F F) hK207), (show ((x1 + (1 : Int32)) + (1 : Int32)).toInt = -1 ∨ (0 ≤ ((x1 + (1 : Int32)) + (1 : Int32)).toInt ∧ ((x1 + (1 : Int32)) + (1 : Int32)).toInt ≤ 4010) by omega)⟩
            · skip
              have l_213 : (61 : Int32).toInt = 61 := rfl
              have e_214 := mt i_eq.mpr (show ¬ (r6 = (61 : Int32)) from c_194)
              unfold cb_X10_behindSign_178
              have q_215 := i_rng (tb_2 r2.toNatClampNeg)
              refine WP.bind (cs_X10_add hfu (tb_2 r2.toNatClampNeg) (0 : Int32) x1 F G hI) ?_
              rintro r216 F216 G216 ⟨hI216, hB216, hT216, hO216, hK216, hp216⟩
              dsimp only
              have q_217 := hI.r 10 rfl
              have q_218 := hI216.r 10 rfl
              have e_219 : (F216 10).toInt = (F 10).toInt := hO216
              unfold cb_X10_behindSign_186
              refine WP.ret ?_
              exact ⟨hI216, (KB.tr (KB.rf : KB F G F G) hB216), (KT.tr (rfl : KT F F) hT216), (KO.tr (rfl : KO F F) hO216), (KK.tr (rfl : KK F F) hK216), (show (x1 + (1 : Int32)).toInt = -1 ∨ (0 ≤ (x1 + (1 : Int32)).toInt ∧ (x1 + (1 : Int32)).toInt ≤ 4010) by omega)⟩
      · skip
        have q_220 := i_rng x2
        have l_221 : (47 : Int32).toInt = 47 := rfl
        have e_222 := mt i_eq.mpr (show ¬ (x2 = (47 : Int32)) from c_21)
        unfold cb_X10_behindSign_51
        refine WP.ix (show vp_in r2 23 from vp_in_iff.mpr ⟨by omega, by omega⟩) ?_
        refine WP.ite (fun c_223 => ?_) (fun c_223 => ?_)
        · skip
          have q_224 := i_rng r6
          have e_225 := i_eq.mp (show r6 = x2 from c_223)
          unfold cb_X10_behindSign_64
          refine WP.ix (show vp_in r2 23 from vp_in_iff.mpr ⟨by omega, by omega⟩) ?_
          refine WP.ite (fun c_226 => ?_) (fun c_226 => ?_)
          · skip
            have q_227 := i_rng (tb_3 r2.toNatClampNeg)
            have e_228 := i_eq.mp (show (tb_3 r2.toNatClampNeg) = (0 : Int32) from c_226)
            unfold cb_X10_behindSign_153
            refine WP.ite (fun c_229 => ?_) (fun c_229 => ?_)
            · skip
              have l_230 : (61 : Int32).toInt = 61 := rfl
              have e_231 := i_eq.mp (show r6 = (61 : Int32) from c_229)
              unfold cb_X10_behindSign_160
              refine WP.ix (show vp_in r2 23 from vp_in_iff.mpr ⟨by omega, by omega⟩) ?_
              refine WP.ite (fun c_232 => ?_) (fun c_232 => ?_)
              · skip
                have q_233 := i_rng (tb_4 r2.toNatClampNeg)
                have e_234 := i_eq.mp (show (tb_4 r2.toNatClampNeg) = (0 : Int32) from c_232)
                unfold cb_X10_behindSign_178
                have q_235 := i_rng (tb_2 r2.toNatClampNeg)
                refine WP.bind (cs_X10_add hfu (tb_2 r2.toNatClampNeg) (0 : Int32) x1 F G hI) ?_
                rintro r236 F236 G236 ⟨hI236, hB236, hT236, hO236, hK236, hp236⟩
                dsimp only
                have q_237 := hI.r 10 rfl
                have q_238 := hI236.r 10 rfl
                have e_239 : (F236 10).toInt = (F 10).toInt := hO236
                unfold cb_X10_behindSign_186
                refine WP.ret ?_
                exact ⟨hI236, (KB.tr (KB.rf : KB F G F G) hB236), (KT.tr (rfl : KT F F) hT236), (KO.tr (rfl : KO F F) hO236), (KK.tr (rfl : KK F F) hK236), (show (x1 + (1 : Int32)).toInt = -1 ∨ (0 ≤ (x1 + (1 : Int32)).toInt ∧ (x1 + (1 : Int32)).toInt ≤ 4010) by omega)⟩
              · skip
                have q_240 := i_rng (tb_4 r2.toNatClampNeg)
                have e_241 := mt i_eq.mpr (show ¬ ((tb_4 r2.toNatClampNeg) = (0 : Int32)) from c_232)
                unfold cb_X10_behindSign_168
                refine WP.ix (show vp_in r2 23 from vp_in_iff.mpr ⟨by omega, by omega⟩) ?_
                unfold cb_X10_behindSign_178
                refine WP.bind (cs_X10_add hfu (tb_4 r2.toNatClampNeg) (0 : Int32) x1 F G hI) ?_
                rintro r242 F242 G242 ⟨hI242, hB242, hT242, hO242, hK242, hp242⟩
                dsimp only
                have q_243 := hI.r 10 rfl
                have q_244 := hI242.r 10 rfl
                have e_245 : (F242 10).toInt = (F 10).toInt := hO242
                unfold cb_X10_behindSign_186
                refine WP.ret ?_
                first | have e_246 : ((x1 + (1 : Int32)) + (1 : Int32)).toInt = (x1 + (1 : Int32)).toInt + (1) := i_addn (x1 + (1 : Int32)) rfl (by omega) (by omega) | have e_247 := i_rng ((x1 + (1 : Int32)) + (1 : Int32))
                exact ⟨hI242, (KB.tr (KB.rf : KB F G F G) hB242), (KT.tr (rfl : KT F F) hT242), (KO.tr (rfl : KO F F) hO242), (KK.tr (rfl : KK F F) hK242), (show ((x1 + (1 : Int32)) + (1 : Int32)).toInt = -1 ∨ (0 ≤ ((x1 + (1 : Int32)) + (1 : Int32)).toInt ∧ ((x1 + (1 : Int32)) + (1 : Int32)).toInt ≤ 4010) by omega)⟩
            · skip
              have l_248 : (61 : Int32).toInt = 61 := rfl
              have e_249 := mt i_eq.mpr (show ¬ (r6 = (61 : Int32)) from c_229)
              unfold cb_X10_behindSign_178
              have q_250 := i_rng (tb_2 r2.toNatClampNeg)
              refine WP.bind (cs_X10_add hfu (tb_2 r2.toNatClampNeg) (0 : Int32) x1 F G hI) ?_
              rintro r251 F251 G251 ⟨hI251, hB251, hT251, hO251, hK251, hp251⟩
              dsimp only
              have q_252 := hI.r 10 rfl
              have q_253 := hI251.r 10 rfl
              have e_254 : (F251 10).toInt = (F 10).toInt := hO251
              unfold cb_X10_behindSign_186
              refine WP.ret ?_
              exact ⟨hI251, (KB.tr (KB.rf : KB F G F G) hB251), (KT.tr (rfl : KT F F) hT251), (KO.tr (rfl : KO F F) hO251), (KK.tr (rfl : KK F F) hK251), (show (x1 + (1 : Int32)).toInt = -1 ∨ (0 ≤ (x1 + (1 : Int32)).toInt ∧ (x1 + (1 : Int32)).toInt ≤ 4010) by omega)⟩
          · skip
            have q_255 := i_rng (tb_3 r2.toNatClampNeg)
            have e_256 := mt i_eq.mpr (show ¬ ((tb_3 r2.toNatClampNeg) = (0 : Int32)) from c_226)
            unfold cb_X10_behindSign_72
            refine WP.ix (show vp_in r2 23 from vp_in_iff.mpr ⟨by omega, by omega⟩) ?_
            refine WP.ite (fun c_257 => ?_) (fun c_257 => ?_)
            · skip
              have l_258 : (55 : Int32).toInt = 55 := rfl
              have e_259 := i_eq.mp (show (tb_3 r2.toNatClampNeg) = (55 : Int32) from c_257)
              unfold cb_X10_behindSign_89
              first | have e_260 : ((x1 + (1 : Int32)) + (1 : Int32)).toInt = (x1 + (1 : Int32)).toInt + (1) := i_addn (x1 + (1 : Int32)) rfl (by omega) (by omega) | have e_261 := i_rng ((x1 + (1 : Int32)) + (1 : Int32))
              refine WP.bind (cs_X9_at hfu ((x1 + (1 : Int32)) + (1 : Int32)) F G hI) ?_
              rintro r262 _ _ ⟨rfl, rfl, hp262⟩
              dsimp only
              unfold cb_X10_behindSign_98
              refine WP.ite (fun c_263 => ?_) (fun c_263 => ?_)
              · skip
                have q_264 := i_rng r262
                have e_265 := i_eq.mp (show r262 = x2 from c_263)
                unfold cb_X10_behindSign_102
                unfold cb_X10_behindSign_109
                refine WP.ite (fun c_266 => absurd c_266 (by decide)) (fun _ => ?_)
                unfold cb_X10_behindSign_116
                refine WP.ite (fun c_267 => absurd c_267 (by decide)) (fun _ => ?_)
                unfold cb_X10_behindSign_123
                first | have e_268 : (((x1 + (1 : Int32)) + (1 : Int32)) + (1 : Int32)).toInt = ((x1 + (1 : Int32)) + (1 : Int32)).toInt + (1) := i_addn ((x1 + (1 : Int32)) + (1 : Int32)) rfl (by omega) (by omega) | have e_269 := i_rng (((x1 + (1 : Int32)) + (1 : Int32)) + (1 : Int32))
                refine WP.bind (cs_X9_at hfu (((x1 + (1 : Int32)) + (1 : Int32)) + (1 : Int32)) F G hI) ?_
                rintro r270 _ _ ⟨rfl, rfl, hp270⟩
                dsimp only
                unfold cb_X10_behindSign_132
                refine WP.ite (fun c_271 => ?_) (fun c_271 => ?_)
                · skip
                  have q_272 := i_rng r270
                  have l_273 : (61 : Int32).toInt = 61 := rfl
                  have e_274 := i_eq.mp (show r270 = (61 : Int32) from c_271)
                  unfold cb_X10_behindSign_137
                  unfold cb_X10_behindSign_178
                  have l_275 : (56 : Int32).toInt = 56 := rfl
                  first | have e_276 : ((56 : Int32) - (54 : Int32)).toInt = (56 : Int32).toInt - (54) := i_subn (56 : Int32) rfl (by omega) (by omega) | have e_277 := i_rng ((56 : Int32) - (54 : Int32))
                  first | have e_278 : (((56 : Int32) - (54 : Int32)) + (38 : Int32)).toInt = ((56 : Int32) - (54 : Int32)).toInt + (38) := i_addn ((56 : Int32) - (54 : Int32)) rfl (by omega) (by omega) | have e_279 := i_rng (((56 : Int32) - (54 : Int32)) + (38 : Int32))
                  refine WP.bind (cs_X10_add hfu (((56 : Int32) - (54 : Int32)) + (38 : Int32)) (0 : Int32) x1 F G hI) ?_
                  rintro r280 F280 G280 ⟨hI280, hB280, hT280, hO280, hK280, hp280⟩
                  dsimp only
                  have q_281 := hI.r 10 rfl
                  have q_282 := hI280.r 10 rfl
                  have e_283 : (F280 10).toInt = (F 10).toInt := hO280
                  unfold cb_X10_behindSign_186
                  refine WP.ret ?_
                  first | have e_284 : ((((x1 + (1 : Int32)) + (1 : Int32)) + (1 : Int32)) + (1 : Int32)).toInt = (((x1 + (1 : Int32)) + (1 : Int32)) + (1 : Int32)).toInt + (1) := i_addn (((x1 + (1 : Int32)) + (1 : Int32)) + (1 : Int32)) rfl (by omega) (by omega) | have e_285 := i_rng ((((x1 + (1 : Int32)) + (1 : Int32)) + (1 : Int32)) + (1 : Int32))
                  exact ⟨hI280, (KB.tr (KB.rf : KB F G F G) hB280), (KT.tr (rfl : KT F F) hT280), (KO.tr (rfl : KO F F) hO280), (KK.tr (rfl : KK F F) hK280), (show ((((x1 + (1 : Int32)) + (1 : Int32)) + (1 : Int32)) + (1 : Int32)).toInt = -1 ∨ (0 ≤ ((((x1 + (1 : Int32)) + (1 : Int32)) + (1 : Int32)) + (1 : Int32)).toInt ∧ ((((x1 + (1 : Int32)) + (1 : Int32)) + (1 : Int32)) + (1 : Int32)).toInt ≤ 4010) by omega)⟩
                · skip
                  have q_286 := i_rng r270
                  have l_287 : (61 : Int32).toInt = 61 := rfl
                  have e_288 := mt i_eq.mpr (show ¬ (r270 = (61 : Int32)) from c_271)
                  unfold cb_X10_behindSign_178
                  have l_289 : (56 : Int32).toInt = 56 := rfl
                  refine WP.bind (cs_X10_add hfu (56 : Int32) (0 : Int32) x1 F G hI) ?_
                  rintro r290 F290 G290 ⟨hI290, hB290, hT290, hO290, hK290, hp290⟩
                  dsimp only
                  have q_291 := hI.r 10 rfl
                  have q_292 := hI290.r 10 rfl
                  have e_293 : (F290 10).toInt = (F 10).toInt := hO290
                  unfold cb_X10_behindSign_186
                  refine WP.ret ?_
                  exact ⟨hI290, (KB.tr (KB.rf : KB F G F G) hB290), (KT.tr (rfl : KT F F) hT290), (KO.tr (rfl : KO F F) hO290), (KK.tr (rfl : KK F F) hK290), (show (((x1 + (1 : Int32)) + (1 : Int32)) + (1 : Int32)).toInt = -1 ∨ (0 ≤ (((x1 + (1 : Int32)) + (1 : Int32)) + (1 : Int32)).toInt ∧ (((x1 + (1 : Int32)) + (1 : Int32)) + (1 : Int32)).toInt ≤ 4010) by omega)⟩
              · skip
                have q_294 := i_rng r262
                have e_295 := mt i_eq.mpr (show ¬ (r262 = x2) from c_263)
                unfold cb_X10_behindSign_109
                refine WP.ite (fun c_296 => ?_) (fun c_296 => ?_)
                · skip
                  have l_297 : (54 : Int32).toInt = 54 := rfl
                  have e_298 := i_lt.mp (show (tb_3 r2.toNatClampNeg) < (54 : Int32) from c_296)
                  unfold cb_X10_behindSign_178
                  refine WP.bind (cs_X10_add hfu (tb_3 r2.toNatClampNeg) (0 : Int32) x1 F G hI) ?_
                  rintro r299 F299 G299 ⟨hI299, hB299, hT299, hO299, hK299, hp299⟩
                  dsimp only
                  have q_300 := hI.r 10 rfl
                  have q_301 := hI299.r 10 rfl
                  have e_302 : (F299 10).toInt = (F 10).toInt := hO299
                  unfold cb_X10_behindSign_186
                  refine WP.ret ?_
                  exact ⟨hI299, (KB.tr (KB.rf : KB F G F G) hB299), (KT.tr (rfl : KT F F) hT299), (KO.tr (rfl : KO F F) hO299), (KK.tr (rfl : KK F F) hK299), (show ((x1 + (1 : Int32)) + (1 : Int32)).toInt = -1 ∨ (0 ≤ ((x1 + (1 : Int32)) + (1 : Int32)).toInt ∧ ((x1 + (1 : Int32)) + (1 : Int32)).toInt ≤ 4010) by omega)⟩
                · skip
                  have l_303 : (54 : Int32).toInt = 54 := rfl
                  have e_304 := mt i_lt.mpr (show ¬ ((tb_3 r2.toNatClampNeg) < (54 : Int32)) from c_296)
                  unfold cb_X10_behindSign_116
                  refine WP.ite (fun c_305 => ?_) (fun c_305 => ?_)
                  · skip
                    have l_306 : (56 : Int32).toInt = 56 := rfl
                    have e_307 := i_lt.mp (show (56 : Int32) < (tb_3 r2.toNatClampNeg) from c_305)
                    unfold cb_X10_behindSign_178
                    refine WP.bind (cs_X10_add hfu (tb_3 r2.toNatClampNeg) (0 : Int32) x1 F G hI) ?_
                    rintro r308 F308 G308 ⟨hI308, hB308, hT308, hO308, hK308, hp308⟩
                    dsimp only
                    have q_309 := hI.r 10 rfl
                    have q_310 := hI308.r 10 rfl
                    have e_311 : (F308 10).toInt = (F 10).toInt := hO308
                    unfold cb_X10_behindSign_186
                    refine WP.ret ?_
                    exact ⟨hI308, (KB.tr (KB.rf : KB F G F G) hB308), (KT.tr (rfl : KT F F) hT308), (KO.tr (rfl : KO F F) hO308), (KK.tr (rfl : KK F F) hK308), (show ((x1 + (1 : Int32)) + (1 : Int32)).toInt = -1 ∨ (0 ≤ ((x1 + (1 : Int32)) + (1 : Int32)).toInt ∧ ((x1 + (1 : Int32)) + (1 : Int32)).toInt ≤ 4010) by omega)⟩
                  · skip
                    have l_312 : (56 : Int32).toInt = 56 := rfl
                    have e_313 := mt i_lt.mpr (show ¬ ((56 : Int32) < (tb_3 r2.toNatClampNeg)) from c_305)
                    unfold cb_X10_behindSign_123
                    refine WP.bind (cs_X9_at hfu ((x1 + (1 : Int32)) + (1 : Int32)) F G hI) ?_
                    rintro r314 _ _ ⟨rfl, rfl, hp314⟩
                    dsimp only
                    unfold cb_X10_behindSign_132
                    refine WP.ite (fun c_315 => ?_) (fun c_315 => ?_)
                    · skip
                      have q_316 := i_rng r314
                      have l_317 : (61 : Int32).toInt = 61 := rfl
                      have e_318 := i_eq.mp (show r314 = (61 : Int32) from c_315)
                      unfold cb_X10_behindSign_137
                      unfold cb_X10_behindSign_178
                      first | have e_319 : ((tb_3 r2.toNatClampNeg) - (54 : Int32)).toInt = (tb_3 r2.toNatClampNeg).toInt - (54) := i_subn (tb_3 r2.toNatClampNeg) rfl (by omega) (by omega) | have e_320 := i_rng ((tb_3 r2.toNatClampNeg) - (54 : Int32))
                      first | have e_321 : (((tb_3 r2.toNatClampNeg) - (54 : Int32)) + (38 : Int32)).toInt = ((tb_3 r2.toNatClampNeg) - (54 : Int32)).toInt + (38) := i_addn ((tb_3 r2.toNatClampNeg) - (54 : Int32)) rfl (by omega) (by omega) | have e_322 := i_rng (((tb_3 r2.toNatClampNeg) - (54 : Int32)) + (38 : Int32))
                      refine WP.bind (cs_X10_add hfu (((tb_3 r2.toNatClampNeg) - (54 : Int32)) + (38 : Int32)) (0 : Int32) x1 F G hI) ?_
                      rintro r323 F323 G323 ⟨hI323, hB323, hT323, hO323, hK323, hp323⟩
                      dsimp only
                      have q_324 := hI.r 10 rfl
                      have q_325 := hI323.r 10 rfl
                      have e_326 : (F323 10).toInt = (F 10).toInt := hO323
                      unfold cb_X10_behindSign_186
                      refine WP.ret ?_
                      first | have e_327 : (((x1 + (1 : Int32)) + (1 : Int32)) + (1 : Int32)).toInt = ((x1 + (1 : Int32)) + (1 : Int32)).toInt + (1) := i_addn ((x1 + (1 : Int32)) + (1 : Int32)) rfl (by omega) (by omega) | have e_328 := i_rng (((x1 + (1 : Int32)) + (1 : Int32)) + (1 : Int32))
                      exact ⟨hI323, (KB.tr (KB.rf : KB F G F G) hB323), (KT.tr (rfl : KT F F) hT323), (KO.tr (rfl : KO F F) hO323), (KK.tr (rfl : KK F F) hK323), (show (((x1 + (1 : Int32)) + (1 : Int32)) + (1 : Int32)).toInt = -1 ∨ (0 ≤ (((x1 + (1 : Int32)) + (1 : Int32)) + (1 : Int32)).toInt ∧ (((x1 + (1 : Int32)) + (1 : Int32)) + (1 : Int32)).toInt ≤ 4010) by omega)⟩
                    · skip
                      have q_329 := i_rng r314
                      have l_330 : (61 : Int32).toInt = 61 := rfl
                      have e_331 := mt i_eq.mpr (show ¬ (r314 = (61 : Int32)) from c_315)
                      unfold cb_X10_behindSign_178
                      refine WP.bind (cs_X10_add hfu (tb_3 r2.toNatClampNeg) (0 : Int32) x1 F G hI) ?_
                      rintro r332 F332 G332 ⟨hI332, hB332, hT332, hO332, hK332, hp332⟩
                      dsimp only
                      have q_333 := hI.r 10 rfl
                      have q_334 := hI332.r 10 rfl
                      have e_335 : (F332 10).toInt = (F 10).toInt := hO332
                      unfold cb_X10_behindSign_186
                      refine WP.ret ?_
                      exact ⟨hI332, (KB.tr (KB.rf : KB F G F G) hB332), (KT.tr (rfl : KT F F) hT332), (KO.tr (rfl : KO F F) hO332), (KK.tr (rfl : KK F F) hK332), (show ((x1 + (1 : Int32)) + (1 : Int32)).toInt = -1 ∨ (0 ≤ ((x1 + (1 : Int32)) + (1 : Int32)).toInt ∧ ((x1 + (1 : Int32)) + (1 : Int32)).toInt ≤ 4010) by omega)⟩
            · skip
              have l_336 : (55 : Int32).toInt = 55 := rfl
              have e_337 := mt i_eq.mpr (show ¬ ((tb_3 r2.toNatClampNeg) = (55 : Int32)) from c_257)
              unfold cb_X10_behindSign_109
              refine WP.ite (fun c_338 => ?_) (fun c_338 => ?_)
              · skip
                have l_339 : (54 : Int32).toInt = 54 := rfl
                have e_340 := i_lt.mp (show (tb_3 r2.toNatClampNeg) < (54 : Int32) from c_338)
                unfold cb_X10_behindSign_178
                refine WP.bind (cs_X10_add hfu (tb_3 r2.toNatClampNeg) (0 : Int32) x1 F G hI) ?_
                rintro r341 F341 G341 ⟨hI341, hB341, hT341, hO341, hK341, hp341⟩
                dsimp only
                have q_342 := hI.r 10 rfl
                have q_343 := hI341.r 10 rfl
                have e_344 : (F341 10).toInt = (F 10).toInt := hO341
                unfold cb_X10_behindSign_186
                refine WP.ret ?_
                first | have e_345 : ((x1 + (1 : Int32)) + (1 : Int32)).toInt = (x1 + (1 : Int32)).toInt + (1) := i_addn (x1 + (1 : Int32)) rfl (by omega) (by omega) | have e_346 := i_rng ((x1 + (1 : Int32)) + (1 : Int32))
                exact ⟨hI341, (KB.tr (KB.rf : KB F G F G) hB341), (KT.tr (rfl : KT F F) hT341), (KO.tr (rfl : KO F F) hO341), (KK.tr (rfl : KK F F) hK341), (show ((x1 + (1 : Int32)) + (1 : Int32)).toInt = -1 ∨ (0 ≤ ((x1 + (1 : Int32)) + (1 : Int32)).toInt ∧ ((x1 + (1 : Int32)) + (1 : Int32)).toInt ≤ 4010) by omega)⟩
              · skip
                have l_347 : (54 : Int32).toInt = 54 := rfl
                have e_348 := mt i_lt.mpr (show ¬ ((tb_3 r2.toNatClampNeg) < (54 : Int32)) from c_338)
                unfold cb_X10_behindSign_116
                refine WP.ite (fun c_349 => ?_) (fun c_349 => ?_)
                · skip
                  have l_350 : (56 : Int32).toInt = 56 := rfl
                  have e_351 := i_lt.mp (show (56 : Int32) < (tb_3 r2.toNatClampNeg) from c_349)
                  unfold cb_X10_behindSign_178
                  refine WP.bind (cs_X10_add hfu (tb_3 r2.toNatClampNeg) (0 : Int32) x1 F G hI) ?_
                  rintro r352 F352 G352 ⟨hI352, hB352, hT352, hO352, hK352, hp352⟩
                  dsimp only
                  have q_353 := hI.r 10 rfl
                  have q_354 := hI352.r 10 rfl
                  have e_355 : (F352 10).toInt = (F 10).toInt := hO352
                  unfold cb_X10_behindSign_186
                  refine WP.ret ?_
                  first | have e_356 : ((x1 + (1 : Int32)) + (1 : Int32)).toInt = (x1 + (1 : Int32)).toInt + (1) := i_addn (x1 + (1 : Int32)) rfl (by omega) (by omega) | have e_357 := i_rng ((x1 + (1 : Int32)) + (1 : Int32))
                  exact ⟨hI352, (KB.tr (KB.rf : KB F G F G) hB352), (KT.tr (rfl : KT F F) hT352), (KO.tr (rfl : KO F F) hO352), (KK.tr (rfl : KK F F) hK352), (show ((x1 + (1 : Int32)) + (1 : Int32)).toInt = -1 ∨ (0 ≤ ((x1 + (1 : Int32)) + (1 : Int32)).toInt ∧ ((x1 + (1 : Int32)) + (1 : Int32)).toInt ≤ 4010) by omega)⟩
                · skip
                  have l_358 : (56 : Int32).toInt = 56 := rfl
                  have e_359 := mt i_lt.mpr (show ¬ ((56 : Int32) < (tb_3 r2.toNatClampNeg)) from c_349)
                  unfold cb_X10_behindSign_123
                  first | have e_360 : ((x1 + (1 : Int32)) + (1 : Int32)).toInt = (x1 + (1 : Int32)).toInt + (1) := i_addn (x1 + (1 : Int32)) rfl (by omega) (by omega) | have e_361 := i_rng ((x1 + (1 : Int32)) + (1 : Int32))
                  refine WP.bind (cs_X9_at hfu ((x1 + (1 : Int32)) + (1 : Int32)) F G hI) ?_
                  rintro r362 _ _ ⟨rfl, rfl, hp362⟩
                  dsimp only
                  unfold cb_X10_behindSign_132
                  refine WP.ite (fun c_363 => ?_) (fun c_363 => ?_)
                  · skip
                    have q_364 := i_rng r362
                    have l_365 : (61 : Int32).toInt = 61 := rfl
                    have e_366 := i_eq.mp (show r362 = (61 : Int32) from c_363)
                    unfold cb_X10_behindSign_137
                    unfold cb_X10_behindSign_178
                    first | have e_367 : ((tb_3 r2.toNatClampNeg) - (54 : Int32)).toInt = (tb_3 r2.toNatClampNeg).toInt - (54) := i_subn (tb_3 r2.toNatClampNeg) rfl (by omega) (by omega) | have e_368 := i_rng ((tb_3 r2.toNatClampNeg) - (54 : Int32))
                    first | have e_369 : (((tb_3 r2.toNatClampNeg) - (54 : Int32)) + (38 : Int32)).toInt = ((tb_3 r2.toNatClampNeg) - (54 : Int32)).toInt + (38) := i_addn ((tb_3 r2.toNatClampNeg) - (54 : Int32)) rfl (by omega) (by omega) | have e_370 := i_rng (((tb_3 r2.toNatClampNeg) - (54 : Int32)) + (38 : Int32))
                    refine WP.bind (cs_X10_add hfu (((tb_3 r2.toNatClampNeg) - (54 : Int32)) + (38 : Int32)) (0 : Int32) x1 F G hI) ?_
                    rintro r371 F371 G371 ⟨hI371, hB371, hT371, hO371, hK371, hp371⟩
                    dsimp only
                    have q_372 := hI.r 10 rfl
                    have q_373 := hI371.r 10 rfl
                    have e_374 : (F371 10).toInt = (F 10).toInt := hO371
                    unfold cb_X10_behindSign_186
                    refine WP.ret ?_
                    first | have e_375 : (((x1 + (1 : Int32)) + (1 : Int32)) + (1 : Int32)).toInt = ((x1 + (1 : Int32)) + (1 : Int32)).toInt + (1) := i_addn ((x1 + (1 : Int32)) + (1 : Int32)) rfl (by omega) (by omega) | have e_376 := i_rng (((x1 + (1 : Int32)) + (1 : Int32)) + (1 : Int32))
                    exact ⟨hI371, (KB.tr (KB.rf : KB F G F G) hB371), (KT.tr (rfl : KT F F) hT371), (KO.tr (rfl : KO F F) hO371), (KK.tr (rfl : KK F F) hK371), (show (((x1 + (1 : Int32)) + (1 : Int32)) + (1 : Int32)).toInt = -1 ∨ (0 ≤ (((x1 + (1 : Int32)) + (1 : Int32)) + (1 : Int32)).toInt ∧ (((x1 + (1 : Int32)) + (1 : Int32)) + (1 : Int32)).toInt ≤ 4010) by omega)⟩
                  · skip
                    have q_377 := i_rng r362
                    have l_378 : (61 : Int32).toInt = 61 := rfl
                    have e_379 := mt i_eq.mpr (show ¬ (r362 = (61 : Int32)) from c_363)
                    unfold cb_X10_behindSign_178
                    refine WP.bind (cs_X10_add hfu (tb_3 r2.toNatClampNeg) (0 : Int32) x1 F G hI) ?_
                    rintro r380 F380 G380 ⟨hI380, hB380, hT380, hO380, hK380, hp380⟩
                    dsimp only
                    have q_381 := hI.r 10 rfl
                    have q_382 := hI380.r 10 rfl
                    have e_383 : (F380 10).toInt = (F 10).toInt := hO380
                    unfold cb_X10_behindSign_186
                    refine WP.ret ?_
                    exact ⟨hI380, (KB.tr (KB.rf : KB F G F G) hB380), (KT.tr (rfl : KT F F) hT380), (KO.tr (rfl : KO F F) hO380), (KK.tr (rfl : KK F F) hK380), (show ((x1 + (1 : Int32)) + (1 : Int32)).toInt = -1 ∨ (0 ≤ ((x1 + (1 : Int32)) + (1 : Int32)).toInt ∧ ((x1 + (1 : Int32)) + (1 : Int32)).toInt ≤ 4010) by omega)⟩
        · skip
          have q_384 := i_rng r6
          have e_385 := mt i_eq.mpr (show ¬ (r6 = x2) from c_223)
          unfold cb_X10_behindSign_153
          refine WP.ite (fun c_386 => ?_) (fun c_386 => ?_)
          · skip
            have l_387 : (61 : Int32).toInt = 61 := rfl
            have e_388 := i_eq.mp (show r6 = (61 : Int32) from c_386)
            unfold cb_X10_behindSign_160
            refine WP.ix (show vp_in r2 23 from vp_in_iff.mpr ⟨by omega, by omega⟩) ?_
            refine WP.ite (fun c_389 => ?_) (fun c_389 => ?_)
            · skip
              have q_390 := i_rng (tb_4 r2.toNatClampNeg)
              have e_391 := i_eq.mp (show (tb_4 r2.toNatClampNeg) = (0 : Int32) from c_389)
              unfold cb_X10_behindSign_178
              have q_392 := i_rng (tb_2 r2.toNatClampNeg)
              refine WP.bind (cs_X10_add hfu (tb_2 r2.toNatClampNeg) (0 : Int32) x1 F G hI) ?_
              rintro r393 F393 G393 ⟨hI393, hB393, hT393, hO393, hK393, hp393⟩
              dsimp only
              have q_394 := hI.r 10 rfl
              have q_395 := hI393.r 10 rfl
              have e_396 : (F393 10).toInt = (F 10).toInt := hO393
              unfold cb_X10_behindSign_186
              refine WP.ret ?_
              exact ⟨hI393, (KB.tr (KB.rf : KB F G F G) hB393), (KT.tr (rfl : KT F F) hT393), (KO.tr (rfl : KO F F) hO393), (KK.tr (rfl : KK F F) hK393), (show (x1 + (1 : Int32)).toInt = -1 ∨ (0 ≤ (x1 + (1 : Int32)).toInt ∧ (x1 + (1 : Int32)).toInt ≤ 4010) by omega)⟩
            · skip
              have q_397 := i_rng (tb_4 r2.toNatClampNeg)
              have e_398 := mt i_eq.mpr (show ¬ ((tb_4 r2.toNatClampNeg) = (0 : Int32)) from c_389)
              unfold cb_X10_behindSign_168
              refine WP.ix (show vp_in r2 23 from vp_in_iff.mpr ⟨by omega, by omega⟩) ?_
              unfold cb_X10_behindSign_178
              refine WP.bind (cs_X10_add hfu (tb_4 r2.toNatClampNeg) (0 : Int32) x1 F G hI) ?_
              rintro r399 F399 G399 ⟨hI399, hB399, hT399, hO399, hK399, hp399⟩
              dsimp only
              have q_400 := hI.r 10 rfl
              have q_401 := hI399.r 10 rfl
              have e_402 : (F399 10).toInt = (F 10).toInt := hO399
              unfold cb_X10_behindSign_186
              refine WP.ret ?_
              first | have e_403 : ((x1 + (1 : Int32)) + (1 : Int32)).toInt = (x1 + (1 : Int32)).toInt + (1) := i_addn (x1 + (1 : Int32)) rfl (by omega) (by omega) | have e_404 := i_rng ((x1 + (1 : Int32)) + (1 : Int32))
              exact ⟨hI399, (KB.tr (KB.rf : KB F G F G) hB399), (KT.tr (rfl : KT F F) hT399), (KO.tr (rfl : KO F F) hO399), (KK.tr (rfl : KK F F) hK399), (show ((x1 + (1 : Int32)) + (1 : Int32)).toInt = -1 ∨ (0 ≤ ((x1 + (1 : Int32)) + (1 : Int32)).toInt ∧ ((x1 + (1 : Int32)) + (1 : Int32)).toInt ≤ 4010) by omega)⟩
          · skip
            have l_405 : (61 : Int32).toInt = 61 := rfl
            have e_406 := mt i_eq.mpr (show ¬ (r6 = (61 : Int32)) from c_386)
            unfold cb_X10_behindSign_178
            have q_407 := i_rng (tb_2 r2.toNatClampNeg)
            refine WP.bind (cs_X10_add hfu (tb_2 r2.toNatClampNeg) (0 : Int32) x1 F G hI) ?_
            rintro r408 F408 G408 ⟨hI408, hB408, hT408, hO408, hK408, hp408⟩
            dsimp only
            have q_409 := hI.r 10 rfl
            have q_410 := hI408.r 10 rfl
            have e_411 : (F408 10).toInt = (F 10).toInt := hO408
            unfold cb_X10_behindSign_186
            refine WP.ret ?_
            exact ⟨hI408, (KB.tr (KB.rf : KB F G F G) hB408), (KT.tr (rfl : KT F F) hT408), (KO.tr (rfl : KO F F) hO408), (KK.tr (rfl : KK F F) hK408), (show (x1 + (1 : Int32)).toInt = -1 ∨ (0 ≤ (x1 + (1 : Int32)).toInt ∧ (x1 + (1 : Int32)).toInt ≤ 4010) by omega)⟩
