theorem cs_X6_enterMain {fu : Nat} (hfu : 8589934592 ≤ fu) (F : PF) (G : PG) (hI : CI F G) : WP (cf_X6_enterMain fu F G) (fun r' F' G' => CI F' G' ∧ KB F G F' G' ∧ KT F F' ∧ KO F F' ∧ KK F F' ∧ True) := by
  unfold cf_X6_enterMain
  unfold cb_X6_enterMain_0
  have q_1 := i_rng (F 76)
  refine WP.bind (cs_X8_has hfu (F 76) F G hI) ?_
  rintro r2 _ _ ⟨rfl, rfl, hp2⟩
  dsimp only
  have q_3 := b_rng (hp2.1)
  unfold cb_X6_enterMain_14
  refine WP.ite (fun c_4 => ?_) (fun c_4 => ?_)
  · skip
    have l_5 : (0 : Int32).toInt = 0 := rfl
    have e_6 := i_eq.mp (show r2 = (0 : Int32) from c_4)
    unfold cb_X6_enterMain_17
    have l_7 : (3 : Int32).toInt = 3 := rfl
    refine WP.bind (cs_X6_over hfu (3 : Int32) F G hI) ?_
    rintro r8 F8 G8 ⟨hI8, hB8, hT8, hO8, hK8, hp8⟩
    dsimp only
    have q_9 := hI.r 10 rfl
    have q_10 := hI8.r 10 rfl
    have e_11 : (F8 10).toInt = (F 10).toInt := hO8
    unfold cb_X6_enterMain_22
    refine WP.ret ?_
    exact ⟨hI8, (KB.tr (KB.rf : KB F G F G) hB8), (KT.tr (rfl : KT F F) hT8), (KO.tr (rfl : KO F F) hO8), (KK.tr (rfl : KK F F) hK8), trivial⟩
  · skip
    have l_12 : (0 : Int32).toInt = 0 := rfl
    have e_13 := mt i_eq.mpr (show ¬ (r2 = (0 : Int32)) from c_4)
    unfold cb_X6_enterMain_23
    refine WP.ix (show vp_in (F 76) 450 from vp_in_iff.mpr ⟨by omega, by omega⟩) ?_
    have q_14 := i_rng (G 77 (F 76).toNatClampNeg)
    refine WP.bind (cs_X6_enters hfu (F 76) (G 77 (F 76).toNatClampNeg) F G hI (show 0 ≤ (F 76).toInt by omega) (show (F 76).toInt < 450 by omega)) ?_
    rintro r15 F15 G15 ⟨hI15, hB15, hT15, hO15, hK15, hp15⟩
    dsimp only
    have q_16 := hI.r 10 rfl
    have q_17 := hI15.r 10 rfl
    have e_18 : (F15 10).toInt = (F 10).toInt := hO15
    have q_19 := b_rng hp15
    unfold cb_X6_enterMain_50
    refine WP.bz (show r15 = 0 ∨ r15 = 1 from hp15) ?_
    have q_20 := b_rng (show r15 = 0 ∨ r15 = 1 from hp15)
    have j_21 : CI (fup F15 60 r15) G15 := CI.rg (k := 60) (x := r15) rfl (by decide) (by decide) hI15 ⟨by omega, by omega⟩
    unfold cb_X6_enterMain_53
    refine WP.ret ?_
    exact ⟨j_21, (KB.f (by decide) (KB.tr (KB.rf : KB F G F G) hB15)), (KT.f (by decide) (KT.tr (rfl : KT F F) hT15)), (KO.f (by decide) (KO.tr (rfl : KO F F) hO15)), (KK.f (by decide) (KK.tr (rfl : KK F F) hK15)), trivial⟩
theorem cz_X6_goOn_45 {fu : Nat} (hfu : 8589934592 ≤ fu) {F0 : PF} {G0 : PG} : ∀ (n : Nat) (x2 : Int32) (F : PF) (G : PG) (hI : CI F G) (hB : KB F0 G0 F G) (hT : KT F0 F) (hO : KO F0 F) (hK : KK F0 F) (hn : (2147483647 - x2.toInt).toNat < n), WP (cl_X6_goOn_45 fu n x2 F G) (fun r' F' G' => CI F' G' ∧ KB F0 G0 F' G' ∧ KT F0 F' ∧ KO F0 F' ∧ KK F0 F' ∧ True) := by
  intro n
  induction n with
  | zero =>
    intro x2 F G hI hB hT hO hK hn
    exact absurd hn (Nat.not_lt_zero _)
  | succ n ihn =>
    intro x2 F G hI hB hT hO hK hn
    show WP (cb_X6_goOn_45 fu (cl_X6_goOn_45 fu n)  x2 F G) _
    unfold cb_X6_goOn_45
    refine WP.ite (fun c_1 => ?_) (fun c_1 => ?_)
    · skip
      have l_2 : (100000000 : Int32).toInt = 100000000 := rfl
      have q_3 := i_rng x2
      have e_4 := i_le.mp (show (100000000 : Int32) ≤ x2 from c_1)
      unfold cb_X6_goOn_68
      refine WP.ret ?_
      exact ⟨hI, hB, hT, hO, hK, trivial⟩
    · skip
      have l_5 : (100000000 : Int32).toInt = 100000000 := rfl
      have q_6 := i_rng x2
      have e_7 := mt i_le.mpr (show ¬ ((100000000 : Int32) ≤ x2) from c_1)
      unfold cb_X6_goOn_51
      refine WP.ite (fun c_8 => ?_) (fun c_8 => ?_)
      · skip
        have q_9 := hI.r 61 rfl
        have l_10 : (0 : Int32).toInt = 0 := rfl
        have e_11 := i_eq.mp (show (F 61) = (0 : Int32) from c_8)
        unfold cb_X6_goOn_68
        refine WP.ret ?_
        exact ⟨hI, hB, hT, hO, hK, trivial⟩
      · skip
        have q_12 := hI.r 61 rfl
        have l_13 : (0 : Int32).toInt = 0 := rfl
        have e_14 := mt i_eq.mpr (show ¬ ((F 61) = (0 : Int32)) from c_8)
        unfold cb_X6_goOn_58
        refine WP.bind (cs_X6_step hfu F G hI) ?_
        rintro r15 F15 G15 ⟨hI15, hB15, hT15, hO15, hK15, hp15⟩
        dsimp only
        have q_16 := hI.r 10 rfl
        have q_17 := hI15.r 10 rfl
        have e_18 : (F15 10).toInt = (F 10).toInt := hO15
        unfold cb_X6_goOn_62
        first | have e_19 : (x2 + (1 : Int32)).toInt = x2.toInt + (1) := i_addn x2 rfl (by omega) (by omega) | have e_20 := i_rng (x2 + (1 : Int32))
        exact ihn (x2 + (1 : Int32)) F15 G15 hI15 (KB.tr hB hB15) (KT.tr hT hT15) (KO.tr hO hO15) (KK.tr hK hK15) (by omega)
theorem cs_X6_goOn {fu : Nat} (hfu : 8589934592 ≤ fu) (x1 : Int32) (F : PF) (G : PG) (hI : CI F G) : WP (cf_X6_goOn fu x1 F G) (fun r' F' G' => CI F' G' ∧ KB F G F' G' ∧ KT F F' ∧ KO F F' ∧ KK F F' ∧ True) := by
  unfold cf_X6_goOn
  unfold cb_X6_goOn_0
  refine WP.ite (fun c_1 => ?_) (fun c_1 => ?_)
  · skip
    have q_2 := i_rng (F 63)
    have l_3 : (1 : Int32).toInt = 1 := rfl
    have e_4 := i_eq.mp (show (F 63) = (1 : Int32) from c_1)
    unfold cb_X6_goOn_17
    have j_5 : CI (fup F 63 (1 : Int32)) G := CI.fr rfl hI
    unfold cb_X6_goOn_22
    have q_6 := i_rng x1
    have j_7 : CI (fup (fup F 63 (1 : Int32)) 62 x1) G := CI.fr rfl j_5
    unfold cb_X6_goOn_27
    have j_8 : CI (fup (fup (fup F 63 (1 : Int32)) 62 x1) 61 (1 : Int32)) G := CI.rg (k := 61) (x := (1 : Int32)) rfl (by decide) (by decide) j_7 ⟨by omega, by omega⟩
    unfold cb_X6_goOn_32
    refine WP.ite (fun c_9 => ?_) (fun c_9 => ?_)
    · skip
      have q_10 := hI.r 60 rfl
      have l_11 : (0 : Int32).toInt = 0 := rfl
      have e_12 := i_eq.mp (show (F 60) = (0 : Int32) from c_9)
      unfold cb_X6_goOn_39
      refine WP.bind (cs_X6_enterMain hfu (fup (fup (fup F 63 (1 : Int32)) 62 x1) 61 (1 : Int32)) G j_8) ?_
      rintro r13 F13 G13 ⟨hI13, hB13, hT13, hO13, hK13, hp13⟩
      dsimp only
      have q_14 := hI.r 10 rfl
      have q_15 := hI13.r 10 rfl
      have e_16 : (F13 10).toInt = (F 10).toInt := hO13
      unfold cb_X6_goOn_43
      exact cz_X6_goOn_45 (F0 := F) (G0 := G) hfu fu (0 : Int32) F13 G13 hI13 (KB.tr (KB.f (by decide) (KB.f (by decide) (KB.f (by decide) (KB.rf : KB F G F G)))) hB13) (KT.tr (KT.f (by decide) (KT.f (by decide) (KT.f (by decide) (rfl : KT F F)))) hT13) (KO.tr (KO.f (by decide) (KO.f (by decide) (KO.f (by decide) (rfl : KO F F)))) hO13) (KK.tr (KK.f (by decide) (KK.f (by decide) (KK.f (by decide) (rfl : KK F F)))) hK13) (by omega)
    · skip
      have q_17 := hI.r 60 rfl
      have l_18 : (0 : Int32).toInt = 0 := rfl
      have e_19 := mt i_eq.mpr (show ¬ ((F 60) = (0 : Int32)) from c_9)
      unfold cb_X6_goOn_43
      exact cz_X6_goOn_45 (F0 := F) (G0 := G) hfu fu (0 : Int32) (fup (fup (fup F 63 (1 : Int32)) 62 x1) 61 (1 : Int32)) G j_8 (KB.f (by decide) (KB.f (by decide) (KB.f (by decide) (KB.rf : KB F G F G)))) (KT.f (by decide) (KT.f (by decide) (KT.f (by decide) (rfl : KT F F)))) (KO.f (by decide) (KO.f (by decide) (KO.f (by decide) (rfl : KO F F)))) (KK.f (by decide) (KK.f (by decide) (KK.f (by decide) (rfl : KK F F)))) (by omega)
  · skip
    have q_20 := i_rng (F 63)
    have l_21 : (1 : Int32).toInt = 1 := rfl
    have e_22 := mt i_eq.mpr (show ¬ ((F 63) = (1 : Int32)) from c_1)
    unfold cb_X6_goOn_8
    refine WP.ite (fun c_23 => ?_) (fun c_23 => ?_)
    · skip
      have l_24 : (2 : Int32).toInt = 2 := rfl
      have e_25 := i_eq.mp (show (F 63) = (2 : Int32) from c_23)
      unfold cb_X6_goOn_17
      have j_26 : CI (fup F 63 (1 : Int32)) G := CI.fr rfl hI
      unfold cb_X6_goOn_22
      have q_27 := i_rng x1
      have j_28 : CI (fup (fup F 63 (1 : Int32)) 62 x1) G := CI.fr rfl j_26
      unfold cb_X6_goOn_27
      have j_29 : CI (fup (fup (fup F 63 (1 : Int32)) 62 x1) 61 (1 : Int32)) G := CI.rg (k := 61) (x := (1 : Int32)) rfl (by decide) (by decide) j_28 ⟨by omega, by omega⟩
      unfold cb_X6_goOn_32
      refine WP.ite (fun c_30 => ?_) (fun c_30 => ?_)
      · skip
        have q_31 := hI.r 60 rfl
        have l_32 : (0 : Int32).toInt = 0 := rfl
        have e_33 := i_eq.mp (show (F 60) = (0 : Int32) from c_30)
        unfold cb_X6_goOn_39
        refine WP.bind (cs_X6_enterMain hfu (fup (fup (fup F 63 (1 : Int32)) 62 x1) 61 (1 : Int32)) G j_29) ?_
        rintro r34 F34 G34 ⟨hI34, hB34, hT34, hO34, hK34, hp34⟩
        dsimp only
        have q_35 := hI.r 10 rfl
        have q_36 := hI34.r 10 rfl
        have e_37 : (F34 10).toInt = (F 10).toInt := hO34
        unfold cb_X6_goOn_43
        exact cz_X6_goOn_45 (F0 := F) (G0 := G) hfu fu (0 : Int32) F34 G34 hI34 (KB.tr (KB.f (by decide) (KB.f (by decide) (KB.f (by decide) (KB.rf : KB F G F G)))) hB34) (KT.tr (KT.f (by decide) (KT.f (by decide) (KT.f (by decide) (rfl : KT F F)))) hT34) (KO.tr (KO.f (by decide) (KO.f (by decide) (KO.f (by decide) (rfl : KO F F)))) hO34) (KK.tr (KK.f (by decide) (KK.f (by decide) (KK.f (by decide) (rfl : KK F F)))) hK34) (by omega)
      · skip
        have q_38 := hI.r 60 rfl
        have l_39 : (0 : Int32).toInt = 0 := rfl
        have e_40 := mt i_eq.mpr (show ¬ ((F 60) = (0 : Int32)) from c_30)
        unfold cb_X6_goOn_43
        exact cz_X6_goOn_45 (F0 := F) (G0 := G) hfu fu (0 : Int32) (fup (fup (fup F 63 (1 : Int32)) 62 x1) 61 (1 : Int32)) G j_29 (KB.f (by decide) (KB.f (by decide) (KB.f (by decide) (KB.rf : KB F G F G)))) (KT.f (by decide) (KT.f (by decide) (KT.f (by decide) (rfl : KT F F)))) (KO.f (by decide) (KO.f (by decide) (KO.f (by decide) (rfl : KO F F)))) (KK.f (by decide) (KK.f (by decide) (KK.f (by decide) (rfl : KK F F)))) (by omega)
    · skip
      have l_41 : (2 : Int32).toInt = 2 := rfl
      have e_42 := mt i_eq.mpr (show ¬ ((F 63) = (2 : Int32)) from c_23)
      unfold cb_X6_goOn_16
      refine WP.ret ?_
      exact ⟨hI, (KB.rf : KB F G F G), (rfl : KT F F), (rfl : KO F F), (rfl : KK F F), trivial⟩
theorem cs_X7_forgetInput {fu : Nat} (hfu : 8589934592 ≤ fu) (F : PF) (G : PG) (hI : CI F G) : WP (cf_X7_forgetInput fu F G) (fun r' F' G' => CI F' G' ∧ KB F G F' G' ∧ KT F F' ∧ KO F F' ∧ KK F F' ∧ True) := by
  unfold cf_X7_forgetInput
  unfold cb_X7_forgetInput_0
  have l_1 : (0 : Int32).toInt = 0 := rfl
  have j_2 : CI (fup F 69 (0 : Int32)) G := CI.rg (k := 69) (x := (0 : Int32)) rfl (by decide) (by decide) hI ⟨by omega, by omega⟩
  unfold cb_X7_forgetInput_5
  have j_3 : CI (fup (fup F 69 (0 : Int32)) 70 (0 : Int32)) G := CI.rg (k := 70) (x := (0 : Int32)) rfl (by decide) (by decide) j_2 ⟨by omega, by omega⟩
  unfold cb_X7_forgetInput_10
  refine WP.ret ?_
  exact ⟨j_3, (KB.f (by decide) (KB.f (by decide) (KB.rf : KB F G F G))), (KT.f (by decide) (KT.f (by decide) (rfl : KT F F))), (KO.f (by decide) (KO.f (by decide) (rfl : KO F F))), (KK.f (by decide) (KK.f (by decide) (rfl : KK F F))), trivial⟩
theorem cs_X7_forgetOutput {fu : Nat} (hfu : 8589934592 ≤ fu) (F : PF) (G : PG) (hI : CI F G) : WP (cf_X7_forgetOutput fu F G) (fun r' F' G' => CI F' G' ∧ KB F G F' G' ∧ KT F F' ∧ KO F F' ∧ KK F F' ∧ True) := by
  unfold cf_X7_forgetOutput
  unfold cb_X7_forgetOutput_0
  have l_1 : (0 : Int32).toInt = 0 := rfl
  have j_2 : CI (fup F 72 (0 : Int32)) G := CI.rg (k := 72) (x := (0 : Int32)) rfl (by decide) (by decide) hI ⟨by omega, by omega⟩
  unfold cb_X7_forgetOutput_5
  refine WP.ret ?_
  exact ⟨j_2, (KB.f (by decide) (KB.rf : KB F G F G)), (KT.f (by decide) (rfl : KT F F)), (KO.f (by decide) (rfl : KO F F)), (KK.f (by decide) (rfl : KK F F)), trivial⟩
theorem cs_X7_takes {fu : Nat} (hfu : 8589934592 ≤ fu) (x1 : Int32) (F : PF) (G : PG) (hI : CI F G) : WP (cf_X7_takes fu x1 F G) (fun r' F' G' => CI F' G' ∧ KB F G F' G' ∧ KT F F' ∧ KO F F' ∧ KK F F' ∧ (r' = 0 ∨ r' = 1)) := by
  unfold cf_X7_takes
  unfold cb_X7_takes_0
  refine WP.ite (fun c_1 => ?_) (fun c_1 => ?_)
  · skip
    have q_2 := hI.r 70 rfl
    have l_3 : (500 : Int32).toInt = 500 := rfl
    have e_4 := i_lt.mp (show (F 70) < (500 : Int32) from c_1)
    unfold cb_X7_takes_12
    have q_5 := hI.r 69 rfl
    first | have e_6 : ((F 69) + (F 70)).toInt = (F 69).toInt + ((F 70).toInt) := i_addn (F 69) rfl (by omega) (by omega) | have e_7 := i_rng ((F 69) + (F 70))
    have e_9 : 0 ≤ ((((F 69) + (F 70)) - ((F 69) + (F 70)) / (500 : Int32) * (500 : Int32))).toInt ∧ ((((F 69) + (F 70)) - ((F 69) + (F 70)) / (500 : Int32) * (500 : Int32))).toInt < 500 := i_rem 500 (by decide) (by decide) (by omega)
    refine WP.ix (show vp_in (((F 69) + (F 70)) - ((F 69) + (F 70)) / (500 : Int32) * (500 : Int32)) 500 from vp_in_iff.mpr ⟨by omega, by omega⟩) ?_
    have j_10 : CI F (gup G 68 (((F 69) + (F 70)) - ((F 69) + (F 70)) / (500 : Int32) * (500 : Int32)).toNatClampNeg x1) := CI.g (by decide) hI
    unfold cb_X7_takes_31
    first | have e_11 : ((F 70) + (1 : Int32)).toInt = (F 70).toInt + (1) := i_addn (F 70) rfl (by omega) (by omega) | have e_12 := i_rng ((F 70) + (1 : Int32))
    have j_13 : CI (fup F 70 ((F 70) + (1 : Int32))) (gup G 68 (((F 69) + (F 70)) - ((F 69) + (F 70)) / (500 : Int32) * (500 : Int32)).toNatClampNeg x1) := CI.rg (k := 70) (x := ((F 70) + (1 : Int32))) rfl (by decide) (by decide) j_10 ⟨by omega, by omega⟩
    unfold cb_X7_takes_41
    refine WP.ret ?_
    exact ⟨j_13, (KB.f (by decide) (KB.g (by decide) (KB.rf : KB F G F G))), (KT.f (by decide) (rfl : KT F F)), (KO.f (by decide) (rfl : KO F F)), (KK.f (by decide) (rfl : KK F F)), (by decide)⟩
  · skip
    have q_14 := hI.r 70 rfl
    have l_15 : (500 : Int32).toInt = 500 := rfl
    have e_16 := mt i_lt.mpr (show ¬ ((F 70) < (500 : Int32)) from c_1)
    unfold cb_X7_takes_10
    refine WP.ret ?_
    exact ⟨hI, (KB.rf : KB F G F G), (rfl : KT F F), (rfl : KO F F), (rfl : KK F F), (by decide)⟩
theorem cs_X7_shown {fu : Nat} (hfu : 8589934592 ≤ fu) (x1 : Int32) (F : PF) (G : PG) (hI : CI F G) : WP (cf_X7_shown fu x1 F G) (fun r' F' G' => F = F' ∧ G = G' ∧ True) := by
  unfold cf_X7_shown
  unfold cb_X7_shown_0
  refine WP.ite (fun c_1 => ?_) (fun c_1 => ?_)
  · skip
    have q_2 := i_rng x1
    have l_3 : (0 : Int32).toInt = 0 := rfl
    have e_4 := i_lt.mp (show x1 < (0 : Int32) from c_1)
    unfold cb_X7_shown_19
    unfold cb_X7_shown_29
    refine WP.ret ?_
    exact ⟨rfl, rfl, trivial⟩
  · skip
    have q_5 := i_rng x1
    have l_6 : (0 : Int32).toInt = 0 := rfl
    have e_7 := mt i_lt.mpr (show ¬ (x1 < (0 : Int32)) from c_1)
    unfold cb_X7_shown_4
    refine WP.ite (fun c_8 => ?_) (fun c_8 => ?_)
    · skip
      have l_9 : (2000 : Int32).toInt = 2000 := rfl
      have e_10 := i_le.mp (show (2000 : Int32) ≤ x1 from c_8)
      unfold cb_X7_shown_19
      unfold cb_X7_shown_29
      refine WP.ret ?_
      exact ⟨rfl, rfl, trivial⟩
    · skip
      have l_11 : (2000 : Int32).toInt = 2000 := rfl
      have e_12 := mt i_le.mpr (show ¬ ((2000 : Int32) ≤ x1) from c_8)
      unfold cb_X7_shown_11
      refine WP.ite (fun c_13 => ?_) (fun c_13 => ?_)
      · skip
        have q_14 := hI.r 72 rfl
        have e_15 := i_lt.mp (show x1 < (F 72) from c_13)
        unfold cb_X7_shown_23
        refine WP.ix (show vp_in x1 2000 from vp_in_iff.mpr ⟨by omega, by omega⟩) ?_
        unfold cb_X7_shown_29
        refine WP.ret ?_
        exact ⟨rfl, rfl, trivial⟩
      · skip
        have q_16 := hI.r 72 rfl
        have e_17 := mt i_lt.mpr (show ¬ (x1 < (F 72)) from c_13)
        unfold cb_X7_shown_19
        unfold cb_X7_shown_29
        refine WP.ret ?_
        exact ⟨rfl, rfl, trivial⟩
theorem cz_X9_take_3 {fu : Nat} (hfu : 8589934592 ≤ fu) {F0 : PF} {G0 : PG} : ∀ (n : Nat) (x1 : Int32) (x2 : Int32) (F : PF) (G : PG) (hI : CI F G) (hB : KB F0 G0 F G) (hO : KO F0 F) (i_0 : -8 ≤ x2.toInt) (i_1 : x2.toInt ≤ 24) (i_2 : (F0 88).toInt ≤ 3996 → (F 88).toInt * 8 + x2.toInt = (F0 88).toInt * 8 + 24) (i_3 : (x2.toInt + 8) % 8 = 0) (hn : (x2.toInt + 8).toNat < n), WP (cl_X9_take_3 fu n x1 x2 F G) (fun r' F' G' => CI F' G' ∧ KB F0 G0 F' G' ∧ KO F0 F' ∧ (((F0 88).toInt ≤ 3996 → (F' 88).toInt = (F0 88).toInt + 4))) := by
  intro n
  induction n with
  | zero =>
    intro x1 x2 F G hI hB hO i_0 i_1 i_2 i_3 hn
    exact absurd hn (Nat.not_lt_zero _)
  | succ n ihn =>
    intro x1 x2 F G hI hB hO i_0 i_1 i_2 i_3 hn
    show WP (cb_X9_take_3 fu (cl_X9_take_3 fu n)  x1 x2 F G) _
    unfold cb_X9_take_3
    refine WP.ite (fun c_1 => ?_) (fun c_1 => ?_)
    · skip
      have q_2 := i_rng x2
      have l_3 : (0 : Int32).toInt = 0 := rfl
      have e_4 := i_lt.mp (show x2 < (0 : Int32) from c_1)
      unfold cb_X9_take_46
      refine WP.ret ?_
      have q_5 := hI.r 88 rfl
      have q_6 := i_rng (F0 88)
      exact ⟨hI, hB, hO, (show ((F0 88).toInt ≤ 3996 → (F 88).toInt = (F0 88).toInt + 4) by omega)⟩
    · skip
      have q_7 := i_rng x2
      have l_8 : (0 : Int32).toInt = 0 := rfl
      have e_9 := mt i_lt.mpr (show ¬ (x2 < (0 : Int32)) from c_1)
      unfold cb_X9_take_7
      refine WP.ite (fun c_10 => ?_) (fun c_10 => ?_)
      · skip
        have l_11 : (4000 : Int32).toInt = 4000 := rfl
        have q_12 := hI.r 88 rfl
        have e_13 := i_le.mp (show (4000 : Int32) ≤ (F 88) from c_10)
        unfold cb_X9_take_46
        refine WP.ret ?_
        have q_14 := i_rng (F0 88)
        exact ⟨hI, hB, hO, (show ((F0 88).toInt ≤ 3996 → (F 88).toInt = (F0 88).toInt + 4) by omega)⟩
      · skip
        have l_15 : (4000 : Int32).toInt = 4000 := rfl
        have q_16 := hI.r 88 rfl
        have e_17 := mt i_le.mpr (show ¬ ((4000 : Int32) ≤ (F 88)) from c_10)
        unfold cb_X9_take_17
        refine WP.ix (show vp_in (F 88) 4000 from vp_in_iff.mpr ⟨by omega, by omega⟩) ?_
        have j_18 : CI F (gup G 87 (F 88).toNatClampNeg (vp_nar .byte (((x1.toUInt32 >>> (x2.toUInt32 &&& Int32.toUInt32 31)).toInt32).toInt8.toInt32))) := CI.g (by decide) hI
        unfold cb_X9_take_30
        first | have e_19 : ((F 88) + (1 : Int32)).toInt = (F 88).toInt + (1) := i_addn (F 88) rfl (by omega) (by omega) | have e_20 := i_rng ((F 88) + (1 : Int32))
        have j_21 : CI (fup F 88 ((F 88) + (1 : Int32))) (gup G 87 (F 88).toNatClampNeg (vp_nar .byte (((x1.toUInt32 >>> (x2.toUInt32 &&& Int32.toUInt32 31)).toInt32).toInt8.toInt32))) := CI.rg (k := 88) (x := ((F 88) + (1 : Int32))) rfl (by decide) (by decide) j_18 ⟨by omega, by omega⟩
        unfold cb_X9_take_40
        have q_22 := i_rng x1
        obtain ⟨y_23, h_24, e_25⟩ : ∃ y : Int32, y = (x2 + (-8 : Int32)) ∧ y.toInt = x2.toInt + (-8) := ⟨_, rfl, i_addn x2 rfl (by omega) (by omega)⟩
        rw [← h_24]
        clear h_24
        exact ihn x1 y_23 (fup F 88 ((F 88) + (1 : Int32))) (gup G 87 (F 88).toNatClampNeg (vp_nar .byte (((x1.toUInt32 >>> (x2.toUInt32 &&& Int32.toUInt32 31)).toInt32).toInt8.toInt32))) j_21 (KB.f (by decide) (KB.g (by decide) hB)) (KO.f (by decide) hO) (show -8 ≤ y_23.toInt by omega) (show y_23.toInt ≤ 24 by omega) (show (F0 88).toInt ≤ 3996 → ((F 88) + (1 : Int32)).toInt * 8 + y_23.toInt = (F0 88).toInt * 8 + 24 by omega) (show (y_23.toInt + 8) % 8 = 0 by omega) (by omega)
theorem cs_X9_take {fu : Nat} (hfu : 8589934592 ≤ fu) (x1 : Int32) (F : PF) (G : PG) (hI : CI F G) : WP (cf_X9_take fu x1 F G) (fun r' F' G' => CI F' G' ∧ KB F G F' G' ∧ KO F F' ∧ (((F 88).toInt ≤ 3996 → (F' 88).toInt = (F 88).toInt + 4))) := by
  unfold cf_X9_take
  unfold cb_X9_take_0
  have q_1 := i_rng x1
  have l_2 : (24 : Int32).toInt = 24 := rfl
  have q_3 := hI.r 88 rfl
  exact cz_X9_take_3 (F0 := F) (G0 := G) hfu fu x1 (24 : Int32) F G hI (KB.rf : KB F G F G) (rfl : KO F F) (show -8 ≤ (24 : Int32).toInt by omega) (show (24 : Int32).toInt ≤ 24 by omega) (show (F 88).toInt ≤ 3996 → (F 88).toInt * 8 + (24 : Int32).toInt = (F 88).toInt * 8 + 24 by omega) (show ((24 : Int32).toInt + 8) % 8 = 0 by omega) (by omega)
theorem cs_X9_at {fu : Nat} (hfu : 8589934592 ≤ fu) (x1 : Int32) (F : PF) (G : PG) (hI : CI F G) : WP (cf_X9_at fu x1 F G) (fun r' F' G' => F = F' ∧ G = G' ∧ True) := by
  unfold cf_X9_at
  unfold cb_X9_at_0
  refine WP.ite (fun c_1 => ?_) (fun c_1 => ?_)
  · skip
    have q_2 := i_rng x1
    have l_3 : (0 : Int32).toInt = 0 := rfl
    have e_4 := i_lt.mp (show x1 < (0 : Int32) from c_1)
    unfold cb_X9_at_12
    unfold cb_X9_at_26
    refine WP.ret ?_
    exact ⟨rfl, rfl, trivial⟩
  · skip
    have q_5 := i_rng x1
    have l_6 : (0 : Int32).toInt = 0 := rfl
    have e_7 := mt i_lt.mpr (show ¬ (x1 < (0 : Int32)) from c_1)
    unfold cb_X9_at_4
    refine WP.ite (fun c_8 => ?_) (fun c_8 => ?_)
    · skip
      have q_9 := hI.r 88 rfl
      have e_10 := i_lt.mp (show x1 < (F 88) from c_8)
      unfold cb_X9_at_16
      refine WP.ix (show vp_in x1 4000 from vp_in_iff.mpr ⟨by omega, by omega⟩) ?_
      unfold cb_X9_at_26
      refine WP.ret ?_
      exact ⟨rfl, rfl, trivial⟩
    · skip
      have q_11 := hI.r 88 rfl
      have e_12 := mt i_lt.mpr (show ¬ (x1 < (F 88)) from c_8)
      unfold cb_X9_at_12
      unfold cb_X9_at_26
      refine WP.ret ?_
      exact ⟨rfl, rfl, trivial⟩
theorem cz_X10_behindLine_2 {fu : Nat} (hfu : 8589934592 ≤ fu) {F0 : PF} {G0 : PG} : ∀ (n : Nat) (x2 : Int32) (F : PF) (G : PG) (hI : CI F G) (hF : F0 = F) (hG : G0 = G) (i_0 : 0 ≤ x2.toInt) (i_1 : x2.toInt ≤ 4000) (hn : (2147483647 - x2.toInt).toNat < n), WP (cl_X10_behindLine_2 fu n x2 F G) (fun r' F' G' => F0 = F' ∧ G0 = G' ∧ ((0 ≤ r'.toInt ∧ r'.toInt ≤ 4000))) := by
  intro n
  induction n with
  | zero =>
    intro x2 F G hI hF hG i_0 i_1 hn
    exact absurd hn (Nat.not_lt_zero _)
  | succ n ihn =>
    intro x2 F G hI hF hG i_0 i_1 hn
    show WP (cb_X10_behindLine_2 fu (cl_X10_behindLine_2 fu n)  x2 F G) _
    unfold cb_X10_behindLine_2
    refine WP.ite (fun c_1 => ?_) (fun c_1 => ?_)
    · skip
      have q_2 := hI.r 88 rfl
      have q_3 := i_rng x2
      have e_4 := i_le.mp (show (F 88) ≤ x2 from c_1)
      unfold cb_X10_behindLine_32
      refine WP.ret ?_
      exact ⟨hF, hG, (show 0 ≤ x2.toInt ∧ x2.toInt ≤ 4000 by omega)⟩
    · skip
      have q_5 := hI.r 88 rfl
      have q_6 := i_rng x2
      have e_7 := mt i_le.mpr (show ¬ ((F 88) ≤ x2) from c_1)
      unfold cb_X10_behindLine_13
      refine WP.bind (cs_X9_at hfu x2 F G hI) ?_
      rintro r8 _ _ ⟨rfl, rfl, hp8⟩
      dsimp only
      unfold cb_X10_behindLine_21
      refine WP.ite (fun c_9 => ?_) (fun c_9 => ?_)
      · skip
        have q_10 := i_rng r8
        have l_11 : (10 : Int32).toInt = 10 := rfl
        have e_12 := i_eq.mp (show r8 = (10 : Int32) from c_9)
        unfold cb_X10_behindLine_32
        refine WP.ret ?_
        exact ⟨hF, hG, (show 0 ≤ x2.toInt ∧ x2.toInt ≤ 4000 by omega)⟩
      · skip
        have q_13 := i_rng r8
        have l_14 : (10 : Int32).toInt = 10 := rfl
        have e_15 := mt i_eq.mpr (show ¬ (r8 = (10 : Int32)) from c_9)
        unfold cb_X10_behindLine_26
        first | have e_16 : (x2 + (1 : Int32)).toInt = x2.toInt + (1) := i_addn x2 rfl (by omega) (by omega) | have e_17 := i_rng (x2 + (1 : Int32))
        exact ihn (x2 + (1 : Int32)) F G hI hF hG (show 0 ≤ (x2 + (1 : Int32)).toInt by omega) (show (x2 + (1 : Int32)).toInt ≤ 4000 by omega) (by omega)
theorem cs_X10_behindLine {fu : Nat} (hfu : 8589934592 ≤ fu) (x1 : Int32) (F : PF) (G : PG) (hI : CI F G) (ha : 0 ≤ x1.toInt) (hb : x1.toInt ≤ 4000) : WP (cf_X10_behindLine fu x1 F G) (fun r' F' G' => F = F' ∧ G = G' ∧ ((0 ≤ r'.toInt ∧ r'.toInt ≤ 4000))) := by
  unfold cf_X10_behindLine
  unfold cb_X10_behindLine_0
  have q_1 := i_rng x1
  exact cz_X10_behindLine_2 (F0 := F) (G0 := G) hfu fu x1 F G hI rfl rfl (show 0 ≤ x1.toInt by omega) (show x1.toInt ≤ 4000 by omega) (by omega)
theorem cz_X10_behindNote_4 {fu : Nat} (hfu : 8589934592 ≤ fu) {F0 : PF} {G0 : PG} : ∀ (n : Nat) (x2 : Int32) (F : PF) (G : PG) (hI : CI F G) (hF : F0 = F) (hG : G0 = G) (i_0 : 0 ≤ x2.toInt) (hn : (2147483647 - x2.toInt).toNat < n), WP (cl_X10_behindNote_4 fu n x2 F G) (fun r' F' G' => F0 = F' ∧ G0 = G' ∧ ((r'.toInt = -1 ∨ (0 ≤ r'.toInt ∧ r'.toInt ≤ 4001)))) := by
  intro n
  induction n with
  | zero =>
    intro x2 F G hI hF hG i_0 hn
    exact absurd hn (Nat.not_lt_zero _)
  | succ n ihn =>
    intro x2 F G hI hF hG i_0 hn
    show WP (cb_X10_behindNote_4 fu (cl_X10_behindNote_4 fu n)  x2 F G) _
    unfold cb_X10_behindNote_4
    refine WP.ite (fun c_1 => ?_) (fun c_1 => ?_)
    · skip
      have q_2 := hI.r 88 rfl
      have q_3 := i_rng x2
      have e_4 := i_le.mp (show (F 88) ≤ x2 from c_1)
      unfold cb_X10_behindNote_53
      refine WP.ret ?_
      have l_5 : (-1 : Int32).toInt = -1 := rfl
      exact ⟨hF, hG, (show (-1 : Int32).toInt = -1 ∨ (0 ≤ (-1 : Int32).toInt ∧ (-1 : Int32).toInt ≤ 4001) by omega)⟩
    · skip
      have q_6 := hI.r 88 rfl
      have q_7 := i_rng x2
      have e_8 := mt i_le.mpr (show ¬ ((F 88) ≤ x2) from c_1)
      unfold cb_X10_behindNote_15
      refine WP.bind (cs_X9_at hfu x2 F G hI) ?_
      rintro r9 _ _ ⟨rfl, rfl, hp9⟩
      dsimp only
      unfold cb_X10_behindNote_23
      refine WP.ite (fun c_10 => ?_) (fun c_10 => ?_)
      · skip
        have q_11 := i_rng r9
        have l_12 : (42 : Int32).toInt = 42 := rfl
        have e_13 := i_eq.mp (show r9 = (42 : Int32) from c_10)
        unfold cb_X10_behindNote_28
        first | have e_14 : (x2 + (1 : Int32)).toInt = x2.toInt + (1) := i_addn x2 rfl (by omega) (by omega) | have e_15 := i_rng (x2 + (1 : Int32))
        refine WP.bind (cs_X9_at hfu (x2 + (1 : Int32)) F G hI) ?_
        rintro r16 _ _ ⟨rfl, rfl, hp16⟩
        dsimp only
        unfold cb_X10_behindNote_38
        refine WP.ite (fun c_17 => ?_) (fun c_17 => ?_)
        · skip
          have q_18 := i_rng r16
          have l_19 : (47 : Int32).toInt = 47 := rfl
          have e_20 := i_eq.mp (show r16 = (47 : Int32) from c_17)
          unfold cb_X10_behindNote_43
          refine WP.ret ?_
          first | have e_21 : (x2 + (2 : Int32)).toInt = x2.toInt + (2) := i_addn x2 rfl (by omega) (by omega) | have e_22 := i_rng (x2 + (2 : Int32))
          exact ⟨hF, hG, (show (x2 + (2 : Int32)).toInt = -1 ∨ (0 ≤ (x2 + (2 : Int32)).toInt ∧ (x2 + (2 : Int32)).toInt ≤ 4001) by omega)⟩
        · skip
          have q_23 := i_rng r16
          have l_24 : (47 : Int32).toInt = 47 := rfl
          have e_25 := mt i_eq.mpr (show ¬ (r16 = (47 : Int32)) from c_17)
          unfold cb_X10_behindNote_47
          exact ihn (x2 + (1 : Int32)) F G hI hF hG (show 0 ≤ (x2 + (1 : Int32)).toInt by omega) (by omega)
      · skip
        have q_26 := i_rng r9
        have l_27 : (42 : Int32).toInt = 42 := rfl
        have e_28 := mt i_eq.mpr (show ¬ (r9 = (42 : Int32)) from c_10)
        unfold cb_X10_behindNote_47
        first | have e_29 : (x2 + (1 : Int32)).toInt = x2.toInt + (1) := i_addn x2 rfl (by omega) (by omega) | have e_30 := i_rng (x2 + (1 : Int32))
        exact ihn (x2 + (1 : Int32)) F G hI hF hG (show 0 ≤ (x2 + (1 : Int32)).toInt by omega) (by omega)
theorem cs_X10_behindNote {fu : Nat} (hfu : 8589934592 ≤ fu) (x1 : Int32) (F : PF) (G : PG) (hI : CI F G) (ha : 0 ≤ x1.toInt) (hb : x1.toInt ≤ 4000) : WP (cf_X10_behindNote fu x1 F G) (fun r' F' G' => F = F' ∧ G = G' ∧ ((r'.toInt = -1 ∨ (0 ≤ r'.toInt ∧ r'.toInt ≤ 4001)))) := by
  unfold cf_X10_behindNote
  unfold cb_X10_behindNote_0
  have q_1 := i_rng x1
  first | have e_2 : (x1 + (2 : Int32)).toInt = x1.toInt + (2) := i_addn x1 rfl (by omega) (by omega) | have e_3 := i_rng (x1 + (2 : Int32))
  exact cz_X10_behindNote_4 (F0 := F) (G0 := G) hfu fu (x1 + (2 : Int32)) F G hI rfl rfl (show 0 ≤ (x1 + (2 : Int32)).toInt by omega) (by omega)
theorem cz_X10_behindGap_4 {fu : Nat} (hfu : 8589934592 ≤ fu) {F0 : PF} {G0 : PG} : ∀ (n : Nat) (x2 : Int32) (x3 : Int32) (F : PF) (G : PG) (hI : CI F G) (hF : F0 = F) (hG : G0 = G) (i_0 : 0 ≤ x2.toInt) (i_1 : x2.toInt ≤ 4001) (hn : (2147483647 - x3.toInt).toNat < n), WP (cl_X10_behindGap_4 fu n x2 x3 F G) (fun r' F' G' => F0 = F' ∧ G0 = G' ∧ ((0 ≤ r'.toInt ∧ r'.toInt ≤ 4001))) := by
  intro n
  induction n with
  | zero =>
    intro x2 x3 F G hI hF hG i_0 i_1 hn
    exact absurd hn (Nat.not_lt_zero _)
  | succ n ihn =>
    intro x2 x3 F G hI hF hG i_0 i_1 hn
    show WP (cb_X10_behindGap_4 fu (cl_X10_behindGap_4 fu n)  x2 x3 F G) _
    unfold cb_X10_behindGap_4
    refine WP.ite (fun c_1 => ?_) (fun c_1 => ?_)
    · skip
      have l_2 : (4000 : Int32).toInt = 4000 := rfl
      have q_3 := i_rng x3
      have e_4 := i_le.mp (show (4000 : Int32) ≤ x3 from c_1)
      unfold cb_X10_behindGap_130
      refine WP.ret ?_
      have q_5 := i_rng x2
      exact ⟨hF, hG, (show 0 ≤ x2.toInt ∧ x2.toInt ≤ 4001 by omega)⟩
    · skip
      have l_6 : (4000 : Int32).toInt = 4000 := rfl
      have q_7 := i_rng x3
      have e_8 := mt i_le.mpr (show ¬ ((4000 : Int32) ≤ x3) from c_1)
      unfold cb_X10_behindGap_11
      refine WP.ite (fun c_9 => ?_) (fun c_9 => ?_)
      · skip
        have q_10 := hI.r 88 rfl
        have q_11 := i_rng x2
        have e_12 := i_le.mp (show (F 88) ≤ x2 from c_9)
        unfold cb_X10_behindGap_130
        refine WP.ret ?_
        exact ⟨hF, hG, (show 0 ≤ x2.toInt ∧ x2.toInt ≤ 4001 by omega)⟩
      · skip
        have q_13 := hI.r 88 rfl
        have q_14 := i_rng x2
        have e_15 := mt i_le.mpr (show ¬ ((F 88) ≤ x2) from c_9)
        unfold cb_X10_behindGap_22
        refine WP.bind (cs_X9_at hfu x2 F G hI) ?_
        rintro r16 _ _ ⟨rfl, rfl, hp16⟩
        dsimp only
        unfold cb_X10_behindGap_30
        first | have e_17 : (x2 + (1 : Int32)).toInt = x2.toInt + (1) := i_addn x2 rfl (by omega) (by omega) | have e_18 := i_rng (x2 + (1 : Int32))
        refine WP.bind (cs_X9_at hfu (x2 + (1 : Int32)) F G hI) ?_
        rintro r19 _ _ ⟨rfl, rfl, hp19⟩
        dsimp only
        unfold cb_X10_behindGap_42
        refine WP.ite (fun c_20 => ?_) (fun c_20 => ?_)
        · skip
          have q_21 := i_rng r16
          have l_22 : (10 : Int32).toInt = 10 := rfl
          have e_23 := i_eq.mp (show r16 = (10 : Int32) from c_20)
          unfold cb_X10_behindGap_58
          unfold cb_X10_behindGap_124
          first | have e_24 : (x3 + (1 : Int32)).toInt = x3.toInt + (1) := i_addn x3 rfl (by omega) (by omega) | have e_25 := i_rng (x3 + (1 : Int32))
          exact ihn (x2 + (1 : Int32)) (x3 + (1 : Int32)) F G hI hF hG (show 0 ≤ (x2 + (1 : Int32)).toInt by omega) (show (x2 + (1 : Int32)).toInt ≤ 4001 by omega) (by omega)
        · skip
          have q_26 := i_rng r16
          have l_27 : (10 : Int32).toInt = 10 := rfl
          have e_28 := mt i_eq.mpr (show ¬ (r16 = (10 : Int32)) from c_20)
          unfold cb_X10_behindGap_51
          refine WP.ite (fun c_29 => ?_) (fun c_29 => ?_)
          · skip
            have l_30 : (32 : Int32).toInt = 32 := rfl
            have e_31 := i_eq.mp (show r16 = (32 : Int32) from c_29)
            unfold cb_X10_behindGap_58
            unfold cb_X10_behindGap_124
            first | have e_32 : (x3 + (1 : Int32)).toInt = x3.toInt + (1) := i_addn x3 rfl (by omega) (by omega) | have e_33 := i_rng (x3 + (1 : Int32))
            exact ihn (x2 + (1 : Int32)) (x3 + (1 : Int32)) F G hI hF hG (show 0 ≤ (x2 + (1 : Int32)).toInt by omega) (show (x2 + (1 : Int32)).toInt ≤ 4001 by omega) (by omega)
          · skip
            have l_34 : (32 : Int32).toInt = 32 := rfl
            have e_35 := mt i_eq.mpr (show ¬ (r16 = (32 : Int32)) from c_29)
            unfold cb_X10_behindGap_64
            refine WP.ite (fun c_36 => ?_) (fun c_36 => ?_)
            · skip
              have l_37 : (47 : Int32).toInt = 47 := rfl
              have e_38 := i_eq.mp (show r16 = (47 : Int32) from c_36)
              unfold cb_X10_behindGap_71
              refine WP.ite (fun c_39 => ?_) (fun c_39 => ?_)
              · skip
                have q_40 := i_rng r19
                have e_41 := i_eq.mp (show r19 = (47 : Int32) from c_39)
                unfold cb_X10_behindGap_78
                refine WP.bind (cs_X10_behindLine hfu x2 F G hI (show 0 ≤ x2.toInt by omega) (show x2.toInt ≤ 4000 by omega)) ?_
                rintro r42 _ _ ⟨rfl, rfl, hp42⟩
                dsimp only
                have q_43 := i_rng r42
                unfold cb_X10_behindGap_83
                unfold cb_X10_behindGap_124
                first | have e_44 : (x3 + (1 : Int32)).toInt = x3.toInt + (1) := i_addn x3 rfl (by omega) (by omega) | have e_45 := i_rng (x3 + (1 : Int32))
                exact ihn r42 (x3 + (1 : Int32)) F G hI hF hG (show 0 ≤ r42.toInt by omega) (show r42.toInt ≤ 4001 by omega) (by omega)
              · skip
                have q_46 := i_rng r19
                have e_47 := mt i_eq.mpr (show ¬ (r19 = (47 : Int32)) from c_39)
                unfold cb_X10_behindGap_87
                refine WP.ite (fun c_48 => ?_) (fun c_48 => ?_)
                · skip
                  have e_49 := i_eq.mp (show r16 = (47 : Int32) from c_48)
                  unfold cb_X10_behindGap_94
                  refine WP.ite (fun c_50 => ?_) (fun c_50 => ?_)
                  · skip
                    have l_51 : (42 : Int32).toInt = 42 := rfl
                    have e_52 := i_eq.mp (show r19 = (42 : Int32) from c_50)
                    unfold cb_X10_behindGap_101
                    refine WP.bind (cs_X10_behindNote hfu x2 F G hI (show 0 ≤ x2.toInt by omega) (show x2.toInt ≤ 4000 by omega)) ?_
                    rintro r53 _ _ ⟨rfl, rfl, hp53⟩
                    dsimp only
                    have q_54 := i_rng r53
                    unfold cb_X10_behindGap_106
                    refine WP.ite (fun c_55 => ?_) (fun c_55 => ?_)
                    · skip
                      have l_56 : (-1 : Int32).toInt = -1 := rfl
                      have e_57 := i_eq.mp (show r53 = (-1 : Int32) from c_55)
                      unfold cb_X10_behindGap_114
                      refine WP.ret ?_
                      exact ⟨hF, hG, (show 0 ≤ x2.toInt ∧ x2.toInt ≤ 4001 by omega)⟩
                    · skip
                      have l_58 : (-1 : Int32).toInt = -1 := rfl
                      have e_59 := mt i_eq.mpr (show ¬ (r53 = (-1 : Int32)) from c_55)
                      unfold cb_X10_behindGap_116
                      unfold cb_X10_behindGap_124
                      first | have e_60 : (x3 + (1 : Int32)).toInt = x3.toInt + (1) := i_addn x3 rfl (by omega) (by omega) | have e_61 := i_rng (x3 + (1 : Int32))
                      exact ihn r53 (x3 + (1 : Int32)) F G hI hF hG (show 0 ≤ r53.toInt by omega) (show r53.toInt ≤ 4001 by omega) (by omega)
                  · skip
                    have l_62 : (42 : Int32).toInt = 42 := rfl
                    have e_63 := mt i_eq.mpr (show ¬ (r19 = (42 : Int32)) from c_50)
                    unfold cb_X10_behindGap_122
                    refine WP.ret ?_
                    exact ⟨hF, hG, (show 0 ≤ x2.toInt ∧ x2.toInt ≤ 4001 by omega)⟩
                · skip
                  have e_64 := mt i_eq.mpr (show ¬ (r16 = (47 : Int32)) from c_48)
                  unfold cb_X10_behindGap_122
                  refine WP.ret ?_
                  exact ⟨hF, hG, (show 0 ≤ x2.toInt ∧ x2.toInt ≤ 4001 by omega)⟩
            · skip
              have l_65 : (47 : Int32).toInt = 47 := rfl
              have e_66 := mt i_eq.mpr (show ¬ (r16 = (47 : Int32)) from c_36)
              unfold cb_X10_behindGap_87
              refine WP.ite (fun c_67 => ?_) (fun c_67 => ?_)
              · skip
                have e_68 := i_eq.mp (show r16 = (47 : Int32) from c_67)
                unfold cb_X10_behindGap_94
                refine WP.ite (fun c_69 => ?_) (fun c_69 => ?_)
                · skip
                  have q_70 := i_rng r19
                  have l_71 : (42 : Int32).toInt = 42 := rfl
                  have e_72 := i_eq.mp (show r19 = (42 : Int32) from c_69)
                  unfold cb_X10_behindGap_101
                  refine WP.bind (cs_X10_behindNote hfu x2 F G hI (show 0 ≤ x2.toInt by omega) (show x2.toInt ≤ 4000 by omega)) ?_
                  rintro r73 _ _ ⟨rfl, rfl, hp73⟩
                  dsimp only
                  have q_74 := i_rng r73
                  unfold cb_X10_behindGap_106
                  refine WP.ite (fun c_75 => ?_) (fun c_75 => ?_)
                  · skip
                    have l_76 : (-1 : Int32).toInt = -1 := rfl
                    have e_77 := i_eq.mp (show r73 = (-1 : Int32) from c_75)
                    unfold cb_X10_behindGap_114
                    refine WP.ret ?_
                    exact ⟨hF, hG, (show 0 ≤ x2.toInt ∧ x2.toInt ≤ 4001 by omega)⟩
                  · skip
                    have l_78 : (-1 : Int32).toInt = -1 := rfl
                    have e_79 := mt i_eq.mpr (show ¬ (r73 = (-1 : Int32)) from c_75)
                    unfold cb_X10_behindGap_116
                    unfold cb_X10_behindGap_124
                    first | have e_80 : (x3 + (1 : Int32)).toInt = x3.toInt + (1) := i_addn x3 rfl (by omega) (by omega) | have e_81 := i_rng (x3 + (1 : Int32))
                    exact ihn r73 (x3 + (1 : Int32)) F G hI hF hG (show 0 ≤ r73.toInt by omega) (show r73.toInt ≤ 4001 by omega) (by omega)
                · skip
                  have q_82 := i_rng r19
                  have l_83 : (42 : Int32).toInt = 42 := rfl
                  have e_84 := mt i_eq.mpr (show ¬ (r19 = (42 : Int32)) from c_69)
                  unfold cb_X10_behindGap_122
                  refine WP.ret ?_
                  exact ⟨hF, hG, (show 0 ≤ x2.toInt ∧ x2.toInt ≤ 4001 by omega)⟩
              · skip
                have e_85 := mt i_eq.mpr (show ¬ (r16 = (47 : Int32)) from c_67)
                unfold cb_X10_behindGap_122
                refine WP.ret ?_
                exact ⟨hF, hG, (show 0 ≤ x2.toInt ∧ x2.toInt ≤ 4001 by omega)⟩
theorem cs_X10_behindGap {fu : Nat} (hfu : 8589934592 ≤ fu) (x1 : Int32) (F : PF) (G : PG) (hI : CI F G) (ha : 0 ≤ x1.toInt) (hb : x1.toInt ≤ 4000) : WP (cf_X10_behindGap fu x1 F G) (fun r' F' G' => F = F' ∧ G = G' ∧ ((0 ≤ r'.toInt ∧ r'.toInt ≤ 4001))) := by
  unfold cf_X10_behindGap
  unfold cb_X10_behindGap_0
  have q_1 := i_rng x1
  have l_2 : (0 : Int32).toInt = 0 := rfl
  exact cz_X10_behindGap_4 (F0 := F) (G0 := G) hfu fu x1 (0 : Int32) F G hI rfl rfl (show 0 ≤ x1.toInt by omega) (show x1.toInt ≤ 4001 by omega) (by omega)
theorem cs_X10_isDigit {fu : Nat} (hfu : 8589934592 ≤ fu) (x0 : Int32) (F : PF) (G : PG) (hI : CI F G) : WP (cf_X10_isDigit fu x0 F G) (fun r' F' G' => F = F' ∧ G = G' ∧ (r' = 0 ∨ r' = 1)) := by
  unfold cf_X10_isDigit
  unfold cb_X10_isDigit_0
  refine WP.ite (fun c_1 => ?_) (fun c_1 => ?_)
  · skip
    have q_2 := i_rng x0
    have l_3 : (48 : Int32).toInt = 48 := rfl
    have e_4 := i_lt.mp (show x0 < (48 : Int32) from c_1)
    unfold cb_X10_isDigit_16
    unfold cb_X10_isDigit_17
    have l_5 : (0 : Int32).toInt = 0 := rfl
    refine WP.bz (show (0 : Int32) = 0 ∨ (0 : Int32) = 1 from (by decide)) ?_
    refine WP.ret ?_
    exact ⟨rfl, rfl, (by decide)⟩
  · skip
    have q_6 := i_rng x0
    have l_7 : (48 : Int32).toInt = 48 := rfl
    have e_8 := mt i_lt.mpr (show ¬ (x0 < (48 : Int32)) from c_1)
    unfold cb_X10_isDigit_6
    refine WP.ite (fun c_9 => ?_) (fun c_9 => ?_)
    · skip
      have l_10 : (57 : Int32).toInt = 57 := rfl
      have e_11 := i_lt.mp (show (57 : Int32) < x0 from c_9)
      unfold cb_X10_isDigit_16
      unfold cb_X10_isDigit_17
      have l_12 : (0 : Int32).toInt = 0 := rfl
      refine WP.bz (show (0 : Int32) = 0 ∨ (0 : Int32) = 1 from (by decide)) ?_
      refine WP.ret ?_
      exact ⟨rfl, rfl, (by decide)⟩
    · skip
      have l_13 : (57 : Int32).toInt = 57 := rfl
      have e_14 := mt i_lt.mpr (show ¬ ((57 : Int32) < x0) from c_9)
      unfold cb_X10_isDigit_12
      unfold cb_X10_isDigit_17
      have l_15 : (1 : Int32).toInt = 1 := rfl
      refine WP.bz (show (1 : Int32) = 0 ∨ (1 : Int32) = 1 from (by decide)) ?_
      refine WP.ret ?_
      exact ⟨rfl, rfl, (by decide)⟩
theorem cs_X10_isPart {fu : Nat} (hfu : 8589934592 ≤ fu) (x0 : Int32) (F : PF) (G : PG) (hI : CI F G) : WP (cf_X10_isPart fu x0 F G) (fun r' F' G' => F = F' ∧ G = G' ∧ (r' = 0 ∨ r' = 1)) := by
  unfold cf_X10_isPart
  unfold cb_X10_isPart_0
  have q_1 := i_rng x0
  refine WP.bind (cs_X10_isDigit hfu x0 F G hI) ?_
  rintro r2 _ _ ⟨rfl, rfl, hp2⟩
  dsimp only
  have q_3 := b_rng hp2
  unfold cb_X10_isPart_4
  refine WP.ite (fun c_4 => ?_) (fun c_4 => ?_)
  · skip
    have l_5 : (0 : Int32).toInt = 0 := rfl
    have e_6 := i_eq.mp (show r2 = (0 : Int32) from c_4)
    unfold cb_X10_isPart_7
    refine WP.ite (fun c_7 => ?_) (fun c_7 => ?_)
    · skip
      have l_8 : (97 : Int32).toInt = 97 := rfl
      have e_9 := i_lt.mp (show x0 < (97 : Int32) from c_7)
      unfold cb_X10_isPart_19
      refine WP.ite (fun c_10 => ?_) (fun c_10 => ?_)
      · skip
        have l_11 : (65 : Int32).toInt = 65 := rfl
        have e_12 := i_lt.mp (show x0 < (65 : Int32) from c_10)
        unfold cb_X10_isPart_31
        refine WP.ite (fun c_13 => ?_) (fun c_13 => ?_)
        · skip
          have l_14 : (95 : Int32).toInt = 95 := rfl
          have e_15 := i_eq.mp (show x0 = (95 : Int32) from c_13)
          unfold cb_X10_isPart_37
          unfold cb_X10_isPart_42
          have l_16 : (1 : Int32).toInt = 1 := rfl
          refine WP.bz (show (1 : Int32) = 0 ∨ (1 : Int32) = 1 from (by decide)) ?_
          refine WP.ret ?_
          exact ⟨rfl, rfl, (by decide)⟩
        · skip
          have l_17 : (95 : Int32).toInt = 95 := rfl
          have e_18 := mt i_eq.mpr (show ¬ (x0 = (95 : Int32)) from c_13)
          unfold cb_X10_isPart_41
          unfold cb_X10_isPart_42
          refine WP.bz (show (0 : Int32) = 0 ∨ (0 : Int32) = 1 from (by decide)) ?_
          refine WP.ret ?_
          exact ⟨rfl, rfl, (by decide)⟩
      · skip
        have l_19 : (65 : Int32).toInt = 65 := rfl
        have e_20 := mt i_lt.mpr (show ¬ (x0 < (65 : Int32)) from c_10)
        unfold cb_X10_isPart_25
        refine WP.ite (fun c_21 => ?_) (fun c_21 => ?_)
        · skip
          have l_22 : (90 : Int32).toInt = 90 := rfl
          have e_23 := i_le.mp (show x0 ≤ (90 : Int32) from c_21)
          unfold cb_X10_isPart_37
          unfold cb_X10_isPart_42
          have l_24 : (1 : Int32).toInt = 1 := rfl
          refine WP.bz (show (1 : Int32) = 0 ∨ (1 : Int32) = 1 from (by decide)) ?_
          refine WP.ret ?_
          exact ⟨rfl, rfl, (by decide)⟩
        · skip
          have l_25 : (90 : Int32).toInt = 90 := rfl
          have e_26 := mt i_le.mpr (show ¬ (x0 ≤ (90 : Int32)) from c_21)
          unfold cb_X10_isPart_31
          refine WP.ite (fun c_27 => ?_) (fun c_27 => ?_)
          · skip
            have l_28 : (95 : Int32).toInt = 95 := rfl
            have e_29 := i_eq.mp (show x0 = (95 : Int32) from c_27)
            unfold cb_X10_isPart_37
            unfold cb_X10_isPart_42
            have l_30 : (1 : Int32).toInt = 1 := rfl
            refine WP.bz (show (1 : Int32) = 0 ∨ (1 : Int32) = 1 from (by decide)) ?_
            refine WP.ret ?_
            exact ⟨rfl, rfl, (by decide)⟩
          · skip
            have l_31 : (95 : Int32).toInt = 95 := rfl
            have e_32 := mt i_eq.mpr (show ¬ (x0 = (95 : Int32)) from c_27)
            unfold cb_X10_isPart_41
            unfold cb_X10_isPart_42
            refine WP.bz (show (0 : Int32) = 0 ∨ (0 : Int32) = 1 from (by decide)) ?_
            refine WP.ret ?_
            exact ⟨rfl, rfl, (by decide)⟩
    · skip
      have l_33 : (97 : Int32).toInt = 97 := rfl
      have e_34 := mt i_lt.mpr (show ¬ (x0 < (97 : Int32)) from c_7)
      unfold cb_X10_isPart_13
      refine WP.ite (fun c_35 => ?_) (fun c_35 => ?_)
      · skip
        have l_36 : (122 : Int32).toInt = 122 := rfl
        have e_37 := i_le.mp (show x0 ≤ (122 : Int32) from c_35)
        unfold cb_X10_isPart_37
        unfold cb_X10_isPart_42
        have l_38 : (1 : Int32).toInt = 1 := rfl
        refine WP.bz (show (1 : Int32) = 0 ∨ (1 : Int32) = 1 from (by decide)) ?_
        refine WP.ret ?_
        exact ⟨rfl, rfl, (by decide)⟩
      · skip
        have l_39 : (122 : Int32).toInt = 122 := rfl
        have e_40 := mt i_le.mpr (show ¬ (x0 ≤ (122 : Int32)) from c_35)
        unfold cb_X10_isPart_19
        refine WP.ite (fun c_41 => ?_) (fun c_41 => ?_)
        · skip
          have l_42 : (65 : Int32).toInt = 65 := rfl
          have e_43 := i_lt.mp (show x0 < (65 : Int32) from c_41)
          unfold cb_X10_isPart_31
          refine WP.ite (fun c_44 => ?_) (fun c_44 => ?_)
          · skip
            have l_45 : (95 : Int32).toInt = 95 := rfl
            have e_46 := i_eq.mp (show x0 = (95 : Int32) from c_44)
            unfold cb_X10_isPart_37
            unfold cb_X10_isPart_42
            have l_47 : (1 : Int32).toInt = 1 := rfl
            refine WP.bz (show (1 : Int32) = 0 ∨ (1 : Int32) = 1 from (by decide)) ?_
            refine WP.ret ?_
            exact ⟨rfl, rfl, (by decide)⟩
          · skip
            have l_48 : (95 : Int32).toInt = 95 := rfl
            have e_49 := mt i_eq.mpr (show ¬ (x0 = (95 : Int32)) from c_44)
            unfold cb_X10_isPart_41
            unfold cb_X10_isPart_42
            refine WP.bz (show (0 : Int32) = 0 ∨ (0 : Int32) = 1 from (by decide)) ?_
            refine WP.ret ?_
            exact ⟨rfl, rfl, (by decide)⟩
        · skip
          have l_50 : (65 : Int32).toInt = 65 := rfl
          have e_51 := mt i_lt.mpr (show ¬ (x0 < (65 : Int32)) from c_41)
          unfold cb_X10_isPart_25
          refine WP.ite (fun c_52 => ?_) (fun c_52 => ?_)
          · skip
            have l_53 : (90 : Int32).toInt = 90 := rfl
            have e_54 := i_le.mp (show x0 ≤ (90 : Int32) from c_52)
            unfold cb_X10_isPart_37
            unfold cb_X10_isPart_42
            have l_55 : (1 : Int32).toInt = 1 := rfl
            refine WP.bz (show (1 : Int32) = 0 ∨ (1 : Int32) = 1 from (by decide)) ?_
            refine WP.ret ?_
            exact ⟨rfl, rfl, (by decide)⟩
          · skip
            have l_56 : (90 : Int32).toInt = 90 := rfl
            have e_57 := mt i_le.mpr (show ¬ (x0 ≤ (90 : Int32)) from c_52)
            unfold cb_X10_isPart_31
            refine WP.ite (fun c_58 => ?_) (fun c_58 => ?_)
            · skip
              have l_59 : (95 : Int32).toInt = 95 := rfl
              have e_60 := i_eq.mp (show x0 = (95 : Int32) from c_58)
              unfold cb_X10_isPart_37
              unfold cb_X10_isPart_42
              have l_61 : (1 : Int32).toInt = 1 := rfl
              refine WP.bz (show (1 : Int32) = 0 ∨ (1 : Int32) = 1 from (by decide)) ?_
              refine WP.ret ?_
              exact ⟨rfl, rfl, (by decide)⟩
            · skip
              have l_62 : (95 : Int32).toInt = 95 := rfl
              have e_63 := mt i_eq.mpr (show ¬ (x0 = (95 : Int32)) from c_58)
              unfold cb_X10_isPart_41
              unfold cb_X10_isPart_42
              refine WP.bz (show (0 : Int32) = 0 ∨ (0 : Int32) = 1 from (by decide)) ?_
              refine WP.ret ?_
              exact ⟨rfl, rfl, (by decide)⟩
  · skip
    have l_64 : (0 : Int32).toInt = 0 := rfl
    have e_65 := mt i_eq.mpr (show ¬ (r2 = (0 : Int32)) from c_4)
    unfold cb_X10_isPart_37
    unfold cb_X10_isPart_42
    have l_66 : (1 : Int32).toInt = 1 := rfl
    refine WP.bz (show (1 : Int32) = 0 ∨ (1 : Int32) = 1 from (by decide)) ?_
    refine WP.ret ?_
    exact ⟨rfl, rfl, (by decide)⟩
theorem cs_X10_add {fu : Nat} (hfu : 8589934592 ≤ fu) (x1 : Int32) (x2 : Int32) (x3 : Int32) (F : PF) (G : PG) (hI : CI F G) : WP (cf_X10_add fu x1 x2 x3 F G) (fun r' F' G' => CI F' G' ∧ KB F G F' G' ∧ KT F F' ∧ KO F F' ∧ KK F F' ∧ True) := by
  unfold cf_X10_add
  unfold cb_X10_add_0
  refine WP.ite (fun c_1 => ?_) (fun c_1 => ?_)
  · skip
    have l_2 : (4001 : Int32).toInt = 4001 := rfl
    have q_3 := hI.r 93 rfl
    have e_4 := i_le.mp (show (4001 : Int32) ≤ (F 93) from c_1)
    unfold cb_X10_add_50
    refine WP.ret ?_
    exact ⟨hI, (KB.rf : KB F G F G), (rfl : KT F F), (rfl : KO F F), (rfl : KK F F), trivial⟩
  · skip
    have l_5 : (4001 : Int32).toInt = 4001 := rfl
    have q_6 := hI.r 93 rfl
    have e_7 := mt i_le.mpr (show ¬ ((4001 : Int32) ≤ (F 93)) from c_1)
    unfold cb_X10_add_10
    refine WP.ix (show vp_in (F 93) 4001 from vp_in_iff.mpr ⟨by omega, by omega⟩) ?_
    have j_8 : CI F (gup G 90 (F 93).toNatClampNeg x1) := CI.g (by decide) hI
    unfold cb_X10_add_20
    refine WP.ix (show vp_in (F 93) 4001 from vp_in_iff.mpr ⟨by omega, by omega⟩) ?_
    have j_9 : CI F (gup (gup G 90 (F 93).toNatClampNeg x1) 91 (F 93).toNatClampNeg x2) := CI.g (by decide) j_8
    unfold cb_X10_add_30
    refine WP.ix (show vp_in (F 93) 4001 from vp_in_iff.mpr ⟨by omega, by omega⟩) ?_
    have j_10 : CI F (gup (gup (gup G 90 (F 93).toNatClampNeg x1) 91 (F 93).toNatClampNeg x2) 92 (F 93).toNatClampNeg x3) := CI.g (by decide) j_9
    unfold cb_X10_add_40
    first | have e_11 : ((F 93) + (1 : Int32)).toInt = (F 93).toInt + (1) := i_addn (F 93) rfl (by omega) (by omega) | have e_12 := i_rng ((F 93) + (1 : Int32))
    have j_13 : CI (fup F 93 ((F 93) + (1 : Int32))) (gup (gup (gup G 90 (F 93).toNatClampNeg x1) 91 (F 93).toNatClampNeg x2) 92 (F 93).toNatClampNeg x3) := CI.rg (k := 93) (x := ((F 93) + (1 : Int32))) rfl (by decide) (by decide) j_10 ⟨by omega, by omega⟩
    unfold cb_X10_add_50
    refine WP.ret ?_
    exact ⟨j_13, (KB.f (by decide) (KB.g (by decide) (KB.g (by decide) (KB.g (by decide) (KB.rf : KB F G F G))))), (KT.f (by decide) (rfl : KT F F)), (KO.f (by decide) (rfl : KO F F)), (KK.f (by decide) (rfl : KK F F)), trivial⟩
