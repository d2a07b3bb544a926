theorem cs_X6_enterMain {fu : Nat} (hfu : 8589934592 ≤ fu) (F : PF) (G : PG) (hI : CI F G) : WP (cf_X6_enterMain fu F G) (fun r' F' G' => CI F' G' ∧ KB F G F' G' ∧ KT F F' ∧ KO F F' ∧ True) := by
  unfold cf_X6_enterMain
  unfold cb_X6_enterMain_0
  have q_1 := i_rng (F 76)
  refine WP.bind (cs_X8_has hfu (F 76) F G hI) ?_
  rintro r2 _ _ ⟨rfl, rfl, hp2⟩
  dsimp only
  have q_3 := b_rng (hp2.1)
  unfold cb_X6_enterMain_14
  refine WP.ite (fun c_4 => ?_) (fun c_4 => ?_)
  · skip
    have l_5 : (0 : Int32).toInt = 0 := rfl
    have e_6 := i_eq.mp (show r2 = (0 : Int32) from c_4)
    unfold cb_X6_enterMain_17
    have l_7 : (3 : Int32).toInt = 3 := rfl
    refine WP.bind (cs_X6_over hfu (3 : Int32) F G hI) ?_
    rintro r8 F8 G8 ⟨hI8, hB8, hT8, hO8, hp8⟩
    dsimp only
    have q_9 := hI.r 10 rfl
    have q_10 := hI8.r 10 rfl
    have e_11 : (F8 10).toInt = (F 10).toInt := hO8
    unfold cb_X6_enterMain_22
    refine WP.ret ?_
    exact ⟨hI8, (KB.tr (KB.rf : KB F G F G) hB8), (KT.tr (rfl : KT F F) hT8), (KO.tr (rfl : KO F F) hO8), trivial⟩
  · skip
    have l_12 : (0 : Int32).toInt = 0 := rfl
    have e_13 := mt i_eq.mpr (show ¬ (r2 = (0 : Int32)) from c_4)
    unfold cb_X6_enterMain_23
    refine WP.ix (show vp_in (F 76) 450 from vp_in_iff.mpr ⟨by omega, by omega⟩) ?_
    have q_14 := i_rng (G 77 (F 76).toNatClampNeg)
    refine WP.bind (cs_X6_enters hfu (F 76) (G 77 (F 76).toNatClampNeg) F G hI (show 0 ≤ (F 76).toInt by omega) (show (F 76).toInt < 450 by omega)) ?_
    rintro r15 F15 G15 ⟨hI15, hB15, hT15, hO15, hp15⟩
    dsimp only
    have q_16 := hI.r 10 rfl
    have q_17 := hI15.r 10 rfl
    have e_18 : (F15 10).toInt = (F 10).toInt := hO15
    have q_19 := b_rng hp15
    unfold cb_X6_enterMain_50
    refine WP.bz (show r15 = 0 ∨ r15 = 1 from hp15) ?_
    have q_20 := b_rng (show r15 = 0 ∨ r15 = 1 from hp15)
    have j_21 : CI (fup F15 60 r15) G15 := CI.rg (k := 60) (x := r15) rfl (by decide) (by decide) hI15 ⟨by omega, by omega⟩
    unfold cb_X6_enterMain_53
    refine WP.ret ?_
    exact ⟨j_21, (KB.f (by decide) (KB.tr (KB.rf : KB F G F G) hB15)), (KT.f (by decide) (KT.tr (rfl : KT F F) hT15)), (KO.f (by decide) (KO.tr (rfl : KO F F) hO15)), trivial⟩
theorem cz_X6_goOn_45 {fu : Nat} (hfu : 8589934592 ≤ fu) {F0 : PF} {G0 : PG} : ∀ (n : Nat) (x2 : Int32) (F : PF) (G : PG) (hI : CI F G) (hB : KB F0 G0 F G) (hT : KT F0 F) (hO : KO F0 F) (hn : (2147483647 - x2.toInt).toNat < n), WP (cl_X6_goOn_45 fu n x2 F G) (fun r' F' G' => CI F' G' ∧ KB F0 G0 F' G' ∧ KT F0 F' ∧ KO F0 F' ∧ True) := by
  intro n
  induction n with
  | zero =>
    intro x2 F G hI hB hT hO hn
    exact absurd hn (Nat.not_lt_zero _)
  | succ n ihn =>
    intro x2 F G hI hB hT hO hn
    show WP (cb_X6_goOn_45 fu (cl_X6_goOn_45 fu n)  x2 F G) _
    have q_O : (F 10).toInt = (F0 10).toInt := hO
    have q_O1 := hI.r 10 rfl
    unfold cb_X6_goOn_45
    refine WP.ite (fun c_1 => ?_) (fun c_1 => ?_)
    · skip
      have l_2 : (100000000 : Int32).toInt = 100000000 := rfl
      have q_3 := i_rng x2
      have e_4 := i_le.mp (show (100000000 : Int32) ≤ x2 from c_1)
      unfold cb_X6_goOn_68
      refine WP.ret ?_
      exact ⟨hI, hB, hT, hO, trivial⟩
    · skip
      have l_5 : (100000000 : Int32).toInt = 100000000 := rfl
      have q_6 := i_rng x2
      have e_7 := mt i_le.mpr (show ¬ ((100000000 : Int32) ≤ x2) from c_1)
      unfold cb_X6_goOn_51
      refine WP.ite (fun c_8 => ?_) (fun c_8 => ?_)
      · skip
        have q_9 := hI.r 61 rfl
        have l_10 : (0 : Int32).toInt = 0 := rfl
        have e_11 := i_eq.mp (show (F 61) = (0 : Int32) from c_8)
        unfold cb_X6_goOn_68
        refine WP.ret ?_
        exact ⟨hI, hB, hT, hO, trivial⟩
      · skip
        have q_12 := hI.r 61 rfl
        have l_13 : (0 : Int32).toInt = 0 := rfl
        have e_14 := mt i_eq.mpr (show ¬ ((F 61) = (0 : Int32)) from c_8)
        unfold cb_X6_goOn_58
        refine WP.bind (cs_X6_step hfu F G hI) ?_
        rintro r15 F15 G15 ⟨hI15, hB15, hT15, hO15, hp15⟩
        dsimp only
        have q_16 := hI.r 10 rfl
        have q_17 := hI15.r 10 rfl
        have e_18 : (F15 10).toInt = (F 10).toInt := hO15
        unfold cb_X6_goOn_62
        have l_19 : (1 : Int32).toInt = 1 := rfl
        obtain ⟨k_20, e_21, e_22⟩ := i_add x2 (1 : Int32)
        exact ihn (x2 + (1 : Int32)) F15 G15 hI15 (KB.tr hB hB15) (KT.tr hT hT15) (KO.tr hO hO15) (by omega)
theorem cs_X6_goOn {fu : Nat} (hfu : 8589934592 ≤ fu) (x1 : Int32) (F : PF) (G : PG) (hI : CI F G) : WP (cf_X6_goOn fu x1 F G) (fun r' F' G' => CI F' G' ∧ KB F G F' G' ∧ KT F F' ∧ KO F F' ∧ True) := by
  unfold cf_X6_goOn
  unfold cb_X6_goOn_0
  refine WP.ite (fun c_1 => ?_) (fun c_1 => ?_)
  · skip
    have q_2 := i_rng (F 63)
    have l_3 : (1 : Int32).toInt = 1 := rfl
    have e_4 := i_eq.mp (show (F 63) = (1 : Int32) from c_1)
    unfold cb_X6_goOn_17
    have j_5 : CI (fup F 63 (1 : Int32)) G := CI.fr rfl hI
    unfold cb_X6_goOn_22
    have q_6 := i_rng x1
    have j_7 : CI (fup (fup F 63 (1 : Int32)) 62 x1) G := CI.fr rfl j_5
    unfold cb_X6_goOn_27
    have j_8 : CI (fup (fup (fup F 63 (1 : Int32)) 62 x1) 61 (1 : Int32)) G := CI.rg (k := 61) (x := (1 : Int32)) rfl (by decide) (by decide) j_7 ⟨by omega, by omega⟩
    unfold cb_X6_goOn_32
    refine WP.ite (fun c_9 => ?_) (fun c_9 => ?_)
    · skip
      have q_10 := hI.r 60 rfl
      have l_11 : (0 : Int32).toInt = 0 := rfl
      have e_12 := i_eq.mp (show (F 60) = (0 : Int32) from c_9)
      unfold cb_X6_goOn_39
      refine WP.bind (cs_X6_enterMain hfu (fup (fup (fup F 63 (1 : Int32)) 62 x1) 61 (1 : Int32)) G j_8) ?_
      rintro r13 F13 G13 ⟨hI13, hB13, hT13, hO13, hp13⟩
      dsimp only
      have q_14 := hI.r 10 rfl
      have q_15 := hI13.r 10 rfl
      have e_16 : (F13 10).toInt = (F 10).toInt := hO13
      unfold cb_X6_goOn_43
      exact cz_X6_goOn_45 (F0 := F) (G0 := G) hfu fu (0 : Int32) F13 G13 hI13 (KB.tr (KB.f (by decide) (KB.f (by decide) (KB.f (by decide) (KB.rf : KB F G F G)))) hB13) (KT.tr (KT.f (by decide) (KT.f (by decide) (KT.f (by decide) (rfl : KT F F)))) hT13) (KO.tr (KO.f (by decide) (KO.f (by decide) (KO.f (by decide) (rfl : KO F F)))) hO13) (by omega)
    · skip
      have q_17 := hI.r 60 rfl
      have l_18 : (0 : Int32).toInt = 0 := rfl
      have e_19 := mt i_eq.mpr (show ¬ ((F 60) = (0 : Int32)) from c_9)
      unfold cb_X6_goOn_43
      exact cz_X6_goOn_45 (F0 := F) (G0 := G) hfu fu (0 : Int32) (fup (fup (fup F 63 (1 : Int32)) 62 x1) 61 (1 : Int32)) G j_8 (KB.f (by decide) (KB.f (by decide) (KB.f (by decide) (KB.rf : KB F G F G)))) (KT.f (by decide) (KT.f (by decide) (KT.f (by decide) (rfl : KT F F)))) (KO.f (by decide) (KO.f (by decide) (KO.f (by decide) (rfl : KO F F)))) (by omega)
  · skip
    have q_20 := i_rng (F 63)
    have l_21 : (1 : Int32).toInt = 1 := rfl
    have e_22 := mt i_eq.mpr (show ¬ ((F 63) = (1 : Int32)) from c_1)
    unfold cb_X6_goOn_8
    refine WP.ite (fun c_23 => ?_) (fun c_23 => ?_)
    · skip
      have l_24 : (2 : Int32).toInt = 2 := rfl
      have e_25 := i_eq.mp (show (F 63) = (2 : Int32) from c_23)
      unfold cb_X6_goOn_17
      have j_26 : CI (fup F 63 (1 : Int32)) G := CI.fr rfl hI
      unfold cb_X6_goOn_22
      have q_27 := i_rng x1
      have j_28 : CI (fup (fup F 63 (1 : Int32)) 62 x1) G := CI.fr rfl j_26
      unfold cb_X6_goOn_27
      have j_29 : CI (fup (fup (fup F 63 (1 : Int32)) 62 x1) 61 (1 : Int32)) G := CI.rg (k := 61) (x := (1 : Int32)) rfl (by decide) (by decide) j_28 ⟨by omega, by omega⟩
      unfold cb_X6_goOn_32
      refine WP.ite (fun c_30 => ?_) (fun c_30 => ?_)
      · skip
        have q_31 := hI.r 60 rfl
        have l_32 : (0 : Int32).toInt = 0 := rfl
        have e_33 := i_eq.mp (show (F 60) = (0 : Int32) from c_30)
        unfold cb_X6_goOn_39
        refine WP.bind (cs_X6_enterMain hfu (fup (fup (fup F 63 (1 : Int32)) 62 x1) 61 (1 : Int32)) G j_29) ?_
        rintro r34 F34 G34 ⟨hI34, hB34, hT34, hO34, hp34⟩
        dsimp only
        have q_35 := hI.r 10 rfl
        have q_36 := hI34.r 10 rfl
        have e_37 : (F34 10).toInt = (F 10).toInt := hO34
        unfold cb_X6_goOn_43
        exact cz_X6_goOn_45 (F0 := F) (G0 := G) hfu fu (0 : Int32) F34 G34 hI34 (KB.tr (KB.f (by decide) (KB.f (by decide) (KB.f (by decide) (KB.rf : KB F G F G)))) hB34) (KT.tr (KT.f (by decide) (KT.f (by decide) (KT.f (by decide) (rfl : KT F F)))) hT34) (KO.tr (KO.f (by decide) (KO.f (by decide) (KO.f (by decide) (rfl : KO F F)))) hO34) (by omega)
      · skip
        have q_38 := hI.r 60 rfl
        have l_39 : (0 : Int32).toInt = 0 := rfl
        have e_40 := mt i_eq.mpr (show ¬ ((F 60) = (0 : Int32)) from c_30)
        unfold cb_X6_goOn_43
        exact cz_X6_goOn_45 (F0 := F) (G0 := G) hfu fu (0 : Int32) (fup (fup (fup F 63 (1 : Int32)) 62 x1) 61 (1 : Int32)) G j_29 (KB.f (by decide) (KB.f (by decide) (KB.f (by decide) (KB.rf : KB F G F G)))) (KT.f (by decide) (KT.f (by decide) (KT.f (by decide) (rfl : KT F F)))) (KO.f (by decide) (KO.f (by decide) (KO.f (by decide) (rfl : KO F F)))) (by omega)
    · skip
      have l_41 : (2 : Int32).toInt = 2 := rfl
      have e_42 := mt i_eq.mpr (show ¬ ((F 63) = (2 : Int32)) from c_23)
      unfold cb_X6_goOn_16
      refine WP.ret ?_
      exact ⟨hI, (KB.rf : KB F G F G), (rfl : KT F F), (rfl : KO F F), trivial⟩
theorem cs_X7_forgetInput {fu : Nat} (hfu : 8589934592 ≤ fu) (F : PF) (G : PG) (hI : CI F G) : WP (cf_X7_forgetInput fu F G) (fun r' F' G' => CI F' G' ∧ KB F G F' G' ∧ KT F F' ∧ KO F F' ∧ True) := by
  unfold cf_X7_forgetInput
  unfold cb_X7_forgetInput_0
  have l_1 : (0 : Int32).toInt = 0 := rfl
  have j_2 : CI (fup F 69 (0 : Int32)) G := CI.rg (k := 69) (x := (0 : Int32)) rfl (by decide) (by decide) hI ⟨by omega, by omega⟩
  unfold cb_X7_forgetInput_5
  have j_3 : CI (fup (fup F 69 (0 : Int32)) 70 (0 : Int32)) G := CI.rg (k := 70) (x := (0 : Int32)) rfl (by decide) (by decide) j_2 ⟨by omega, by omega⟩
  unfold cb_X7_forgetInput_10
  refine WP.ret ?_
  exact ⟨j_3, (KB.f (by decide) (KB.f (by decide) (KB.rf : KB F G F G))), (KT.f (by decide) (KT.f (by decide) (rfl : KT F F))), (KO.f (by decide) (KO.f (by decide) (rfl : KO F F))), trivial⟩
theorem cs_X7_forgetOutput {fu : Nat} (hfu : 8589934592 ≤ fu) (F : PF) (G : PG) (hI : CI F G) : WP (cf_X7_forgetOutput fu F G) (fun r' F' G' => CI F' G' ∧ KB F G F' G' ∧ KT F F' ∧ KO F F' ∧ True) := by
  unfold cf_X7_forgetOutput
  unfold cb_X7_forgetOutput_0
  have l_1 : (0 : Int32).toInt = 0 := rfl
  have j_2 : CI (fup F 72 (0 : Int32)) G := CI.rg (k := 72) (x := (0 : Int32)) rfl (by decide) (by decide) hI ⟨by omega, by omega⟩
  unfold cb_X7_forgetOutput_5
  refine WP.ret ?_
  exact ⟨j_2, (KB.f (by decide) (KB.rf : KB F G F G)), (KT.f (by decide) (rfl : KT F F)), (KO.f (by decide) (rfl : KO F F)), trivial⟩
theorem cs_X7_takes {fu : Nat} (hfu : 8589934592 ≤ fu) (x1 : Int32) (F : PF) (G : PG) (hI : CI F G) : WP (cf_X7_takes fu x1 F G) (fun r' F' G' => CI F' G' ∧ KB F G F' G' ∧ KT F F' ∧ KO F F' ∧ (r' = 0 ∨ r' = 1)) := by
  unfold cf_X7_takes
  unfold cb_X7_takes_0
  refine WP.ite (fun c_1 => ?_) (fun c_1 => ?_)
  · skip
    have q_2 := hI.r 70 rfl
    have l_3 : (500 : Int32).toInt = 500 := rfl
    have e_4 := i_lt.mp (show (F 70) < (500 : Int32) from c_1)
    unfold cb_X7_takes_12
    have q_5 := hI.r 69 rfl
    obtain ⟨k_6, e_7, e_8⟩ := i_add (F 69) (F 70)
    have e_10 : 0 ≤ ((((F 69) + (F 70)) - ((F 69) + (F 70)) / (500 : Int32) * (500 : Int32))).toInt ∧ ((((F 69) + (F 70)) - ((F 69) + (F 70)) / (500 : Int32) * (500 : Int32))).toInt < 500 := i_rem 500 (by decide) (by decide) (by omega)
    refine WP.ix (show vp_in (((F 69) + (F 70)) - ((F 69) + (F 70)) / (500 : Int32) * (500 : Int32)) 500 from vp_in_iff.mpr ⟨by omega, by omega⟩) ?_
    have j_11 : CI F (gup G 68 (((F 69) + (F 70)) - ((F 69) + (F 70)) / (500 : Int32) * (500 : Int32)).toNatClampNeg x1) := CI.g (by decide) hI
    unfold cb_X7_takes_31
    have l_12 : (1 : Int32).toInt = 1 := rfl
    obtain ⟨k_13, e_14, e_15⟩ := i_add (F 70) (1 : Int32)
    have j_16 : CI (fup F 70 ((F 70) + (1 : Int32))) (gup G 68 (((F 69) + (F 70)) - ((F 69) + (F 70)) / (500 : Int32) * (500 : Int32)).toNatClampNeg x1) := CI.rg (k := 70) (x := ((F 70) + (1 : Int32))) rfl (by decide) (by decide) j_11 ⟨by omega, by omega⟩
    unfold cb_X7_takes_41
    refine WP.ret ?_
    exact ⟨j_16, (KB.f (by decide) (KB.g (by decide) (KB.rf : KB F G F G))), (KT.f (by decide) (rfl : KT F F)), (KO.f (by decide) (rfl : KO F F)), (by decide)⟩
  · skip
    have q_17 := hI.r 70 rfl
    have l_18 : (500 : Int32).toInt = 500 := rfl
    have e_19 := mt i_lt.mpr (show ¬ ((F 70) < (500 : Int32)) from c_1)
    unfold cb_X7_takes_10
    refine WP.ret ?_
    exact ⟨hI, (KB.rf : KB F G F G), (rfl : KT F F), (rfl : KO F F), (by decide)⟩
theorem cs_X7_shown {fu : Nat} (hfu : 8589934592 ≤ fu) (x1 : Int32) (F : PF) (G : PG) (hI : CI F G) : WP (cf_X7_shown fu x1 F G) (fun r' F' G' => F = F' ∧ G = G' ∧ True) := by
  unfold cf_X7_shown
  unfold cb_X7_shown_0
  refine WP.ite (fun c_1 => ?_) (fun c_1 => ?_)
  · skip
    have q_2 := i_rng x1
    have l_3 : (0 : Int32).toInt = 0 := rfl
    have e_4 := i_lt.mp (show x1 < (0 : Int32) from c_1)
    unfold cb_X7_shown_19
    unfold cb_X7_shown_29
    refine WP.ret ?_
    exact ⟨rfl, rfl, trivial⟩
  · skip
    have q_5 := i_rng x1
    have l_6 : (0 : Int32).toInt = 0 := rfl
    have e_7 := mt i_lt.mpr (show ¬ (x1 < (0 : Int32)) from c_1)
    unfold cb_X7_shown_4
    refine WP.ite (fun c_8 => ?_) (fun c_8 => ?_)
    · skip
      have l_9 : (2000 : Int32).toInt = 2000 := rfl
      have e_10 := i_le.mp (show (2000 : Int32) ≤ x1 from c_8)
      unfold cb_X7_shown_19
      unfold cb_X7_shown_29
      refine WP.ret ?_
      exact ⟨rfl, rfl, trivial⟩
    · skip
      have l_11 : (2000 : Int32).toInt = 2000 := rfl
      have e_12 := mt i_le.mpr (show ¬ ((2000 : Int32) ≤ x1) from c_8)
      unfold cb_X7_shown_11
      refine WP.ite (fun c_13 => ?_) (fun c_13 => ?_)
      · skip
        have q_14 := hI.r 72 rfl
        have e_15 := i_lt.mp (show x1 < (F 72) from c_13)
        unfold cb_X7_shown_23
        refine WP.ix (show vp_in x1 2000 from vp_in_iff.mpr ⟨by omega, by omega⟩) ?_
        unfold cb_X7_shown_29
        refine WP.ret ?_
        exact ⟨rfl, rfl, trivial⟩
      · skip
        have q_16 := hI.r 72 rfl
        have e_17 := mt i_lt.mpr (show ¬ (x1 < (F 72)) from c_13)
        unfold cb_X7_shown_19
        unfold cb_X7_shown_29
        refine WP.ret ?_
        exact ⟨rfl, rfl, trivial⟩
theorem cz_X9_take_3 {fu : Nat} (hfu : 8589934592 ≤ fu) {F0 : PF} {G0 : PG} : ∀ (n : Nat) (x1 : Int32) (x2 : Int32) (F : PF) (G : PG) (hI : CI F G) (hB : KB F0 G0 F G) (hO : KO F0 F) (i_0 : -8 ≤ x2.toInt) (i_1 : x2.toInt ≤ 24) (i_2 : (F0 88).toInt ≤ 3996 → (F 88).toInt * 8 + x2.toInt = (F0 88).toInt * 8 + 24) (i_3 : (x2.toInt + 8) % 8 = 0) (hn : (x2.toInt + 8).toNat < n), WP (cl_X9_take_3 fu n x1 x2 F G) (fun r' F' G' => CI F' G' ∧ KB F0 G0 F' G' ∧ KO F0 F' ∧ (((F0 88).toInt ≤ 3996 → (F' 88).toInt = (F0 88).toInt + 4))) := by
  intro n
  induction n with
  | zero =>
    intro x1 x2 F G hI hB hO i_0 i_1 i_2 i_3 hn
    exact absurd hn (Nat.not_lt_zero _)
  | succ n ihn =>
    intro x1 x2 F G hI hB hO i_0 i_1 i_2 i_3 hn
    show WP (cb_X9_take_3 fu (cl_X9_take_3 fu n)  x1 x2 F G) _
    have q_O : (F 10).toInt = (F0 10).toInt := hO
    have q_O1 := hI.r 10 rfl
    unfold cb_X9_take_3
    refine WP.ite (fun c_1 => ?_) (fun c_1 => ?_)
    · skip
      have q_2 := i_rng x2
      have l_3 : (0 : Int32).toInt = 0 := rfl
      have e_4 := i_lt.mp (show x2 < (0 : Int32) from c_1)
      unfold cb_X9_take_46
      refine WP.ret ?_
      have q_5 := hI.r 88 rfl
      have q_6 := i_rng (F0 88)
      exact ⟨hI, hB, hO, (show ((F0 88).toInt ≤ 3996 → (F0 88).toInt = (F0 88).toInt + 4) by omega)⟩
    · skip
      have q_7 := i_rng x2
      have l_8 : (0 : Int32).toInt = 0 := rfl
      have e_9 := mt i_lt.mpr (show ¬ (x2 < (0 : Int32)) from c_1)
      unfold cb_X9_take_7
      refine WP.ite (fun c_10 => ?_) (fun c_10 => ?_)
      · skip
        have l_11 : (4000 : Int32).toInt = 4000 := rfl
        have q_12 := hI.r 88 rfl
        have e_13 := i_le.mp (show (4000 : Int32) ≤ (F 88) from c_10)
        unfold cb_X9_take_46
        refine WP.ret ?_
        have q_14 := i_rng (F0 88)
        exact ⟨hI, hB, hO, (show ((F0 88).toInt ≤ 3996 → (F0 88).toInt = (F0 88).toInt + 4) by omega)⟩
      · skip
        have l_15 : (4000 : Int32).toInt = 4000 := rfl
        have q_16 := hI.r 88 rfl
        have e_17 := mt i_le.mpr (show ¬ ((4000 : Int32) ≤ (F 88)) from c_10)
        unfold cb_X9_take_17
        refine WP.ix (show vp_in (F 88) 4000 from vp_in_iff.mpr ⟨by omega, by omega⟩) ?_
        have j_18 : CI F (gup G 87 (F 88).toNatClampNeg (vp_nar .byte (((x1.toUInt32 >>> (x2.toUInt32 &&& Int32.toUInt32 31)).toInt32).toInt8.toInt32))) := CI.g (by decide) hI
        unfold cb_X9_take_30
        have l_19 : (1 : Int32).toInt = 1 := rfl
        obtain ⟨k_20, e_21, e_22⟩ := i_add (F 88) (1 : Int32)
        have j_23 : CI (fup F 88 ((F 88) + (1 : Int32))) (gup G 87 (F 88).toNatClampNeg (vp_nar .byte (((x1.toUInt32 >>> (x2.toUInt32 &&& Int32.toUInt32 31)).toInt32).toInt8.toInt32))) := CI.rg (k := 88) (x := ((F 88) + (1 : Int32))) rfl (by decide) (by decide) j_18 ⟨by omega, by omega⟩
        unfold cb_X9_take_40
        have q_24 := i_rng x1
        have l_25 : (-8 : Int32).toInt = -8 := rfl
        obtain ⟨k_26, e_27, e_28⟩ := i_add x2 (-8 : Int32)
        exact ihn x1 (x2 + (-8 : Int32)) (fup F 88 ((F 88) + (1 : Int32))) (gup G 87 (F 88).toNatClampNeg (vp_nar .byte (((x1.toUInt32 >>> (x2.toUInt32 &&& Int32.toUInt32 31)).toInt32).toInt8.toInt32))) j_23 (KB.f (by decide) (KB.g (by decide) hB)) (KO.f (by decide) hO) (show -8 ≤ (x2 + (-8 : Int32)).toInt by omega) (show (x2 + (-8 : Int32)).toInt ≤ 24 by omega) (show (F0 88).toInt ≤ 3996 → ((F 88) + (1 : Int32)).toInt * 8 + (x2 + (-8 : Int32)).toInt = (F0 88).toInt * 8 + 24 by omega) (show ((x2 + (-8 : Int32)).toInt + 8) % 8 = 0 by omega) (by omega)
theorem cs_X9_take {fu : Nat} (hfu : 8589934592 ≤ fu) (x1 : Int32) (F : PF) (G : PG) (hI : CI F G) : WP (cf_X9_take fu x1 F G) (fun r' F' G' => CI F' G' ∧ KB F G F' G' ∧ KO F F' ∧ (((F 88).toInt ≤ 3996 → (F' 88).toInt = (F 88).toInt + 4))) := by
  unfold cf_X9_take
  unfold cb_X9_take_0
  have q_1 := i_rng x1
  have l_2 : (24 : Int32).toInt = 24 := rfl
  have q_3 := hI.r 88 rfl
  exact cz_X9_take_3 (F0 := F) (G0 := G) hfu fu x1 (24 : Int32) F G hI (KB.rf : KB F G F G) (rfl : KO F F) (show -8 ≤ (24 : Int32).toInt by omega) (show (24 : Int32).toInt ≤ 24 by omega) (show (F 88).toInt ≤ 3996 → (F 88).toInt * 8 + (24 : Int32).toInt = (F 88).toInt * 8 + 24 by omega) (show ((24 : Int32).toInt + 8) % 8 = 0 by omega) (by omega)
theorem cs_X9_at {fu : Nat} (hfu : 8589934592 ≤ fu) (x1 : Int32) (F : PF) (G : PG) (hI : CI F G) : WP (cf_X9_at fu x1 F G) (fun r' F' G' => F = F' ∧ G = G' ∧ True) := by
  unfold cf_X9_at
  unfold cb_X9_at_0
  refine WP.ite (fun c_1 => ?_) (fun c_1 => ?_)
  · skip
    have q_2 := i_rng x1
    have l_3 : (0 : Int32).toInt = 0 := rfl
    have e_4 := i_lt.mp (show x1 < (0 : Int32) from c_1)
    unfold cb_X9_at_12
    unfold cb_X9_at_26
    refine WP.ret ?_
    exact ⟨rfl, rfl, trivial⟩
  · skip
    have q_5 := i_rng x1
    have l_6 : (0 : Int32).toInt = 0 := rfl
    have e_7 := mt i_lt.mpr (show ¬ (x1 < (0 : Int32)) from c_1)
    unfold cb_X9_at_4
    refine WP.ite (fun c_8 => ?_) (fun c_8 => ?_)
    · skip
      have q_9 := hI.r 88 rfl
      have e_10 := i_lt.mp (show x1 < (F 88) from c_8)
      unfold cb_X9_at_16
      refine WP.ix (show vp_in x1 4000 from vp_in_iff.mpr ⟨by omega, by omega⟩) ?_
      unfold cb_X9_at_26
      refine WP.ret ?_
      exact ⟨rfl, rfl, trivial⟩
    · skip
      have q_11 := hI.r 88 rfl
      have e_12 := mt i_lt.mpr (show ¬ (x1 < (F 88)) from c_8)
      unfold cb_X9_at_12
      unfold cb_X9_at_26
      refine WP.ret ?_
      exact ⟨rfl, rfl, trivial⟩
theorem cs_X10_add {fu : Nat} (hfu : 8589934592 ≤ fu) (x1 : Int32) (x2 : Int32) (x3 : Int32) (F : PF) (G : PG) (hI : CI F G) : WP (cf_X10_add fu x1 x2 x3 F G) (fun r' F' G' => CI F' G' ∧ KB F G F' G' ∧ KT F F' ∧ KO F F' ∧ True) := by
  unfold cf_X10_add
  unfold cb_X10_add_0
  refine WP.ite (fun c_1 => ?_) (fun c_1 => ?_)
  · skip
    have l_2 : (4001 : Int32).toInt = 4001 := rfl
    have q_3 := hI.r 93 rfl
    have e_4 := i_le.mp (show (4001 : Int32) ≤ (F 93) from c_1)
    unfold cb_X10_add_50
    refine WP.ret ?_
    exact ⟨hI, (KB.rf : KB F G F G), (rfl : KT F F), (rfl : KO F F), trivial⟩
  · skip
    have l_5 : (4001 : Int32).toInt = 4001 := rfl
    have q_6 := hI.r 93 rfl
    have e_7 := mt i_le.mpr (show ¬ ((4001 : Int32) ≤ (F 93)) from c_1)
    unfold cb_X10_add_10
    refine WP.ix (show vp_in (F 93) 4001 from vp_in_iff.mpr ⟨by omega, by omega⟩) ?_
    have j_8 : CI F (gup G 90 (F 93).toNatClampNeg x1) := CI.g (by decide) hI
    unfold cb_X10_add_20
    refine WP.ix (show vp_in (F 93) 4001 from vp_in_iff.mpr ⟨by omega, by omega⟩) ?_
    have j_9 : CI F (gup (gup G 90 (F 93).toNatClampNeg x1) 91 (F 93).toNatClampNeg x2) := CI.g (by decide) j_8
    unfold cb_X10_add_30
    refine WP.ix (show vp_in (F 93) 4001 from vp_in_iff.mpr ⟨by omega, by omega⟩) ?_
    have j_10 : CI F (gup (gup (gup G 90 (F 93).toNatClampNeg x1) 91 (F 93).toNatClampNeg x2) 92 (F 93).toNatClampNeg x3) := CI.g (by decide) j_9
    unfold cb_X10_add_40
    have l_11 : (1 : Int32).toInt = 1 := rfl
    obtain ⟨k_12, e_13, e_14⟩ := i_add (F 93) (1 : Int32)
    have j_15 : CI (fup F 93 ((F 93) + (1 : Int32))) (gup (gup (gup G 90 (F 93).toNatClampNeg x1) 91 (F 93).toNatClampNeg x2) 92 (F 93).toNatClampNeg x3) := CI.rg (k := 93) (x := ((F 93) + (1 : Int32))) rfl (by decide) (by decide) j_10 ⟨by omega, by omega⟩
    unfold cb_X10_add_50
    refine WP.ret ?_
    exact ⟨j_15, (KB.f (by decide) (KB.g (by decide) (KB.g (by decide) (KB.g (by decide) (KB.rf : KB F G F G))))), (KT.f (by decide) (rfl : KT F F)), (KO.f (by decide) (rfl : KO F F)), trivial⟩
theorem cs_X10_isDigit {fu : Nat} (hfu : 8589934592 ≤ fu) (x0 : Int32) (F : PF) (G : PG) (hI : CI F G) : WP (cf_X10_isDigit fu x0 F G) (fun r' F' G' => F = F' ∧ G = G' ∧ (r' = 0 ∨ r' = 1)) := by
  unfold cf_X10_isDigit
  unfold cb_X10_isDigit_0
  refine WP.ite (fun c_1 => ?_) (fun c_1 => ?_)
  · skip
    have q_2 := i_rng x0
    have l_3 : (48 : Int32).toInt = 48 := rfl
    have e_4 := i_lt.mp (show x0 < (48 : Int32) from c_1)
    unfold cb_X10_isDigit_16
    unfold cb_X10_isDigit_17
    have l_5 : (0 : Int32).toInt = 0 := rfl
    refine WP.bz (show (0 : Int32) = 0 ∨ (0 : Int32) = 1 from (by decide)) ?_
    refine WP.ret ?_
    exact ⟨rfl, rfl, (by decide)⟩
  · skip
    have q_6 := i_rng x0
    have l_7 : (48 : Int32).toInt = 48 := rfl
    have e_8 := mt i_lt.mpr (show ¬ (x0 < (48 : Int32)) from c_1)
    unfold cb_X10_isDigit_6
    refine WP.ite (fun c_9 => ?_) (fun c_9 => ?_)
    · skip
      have l_10 : (57 : Int32).toInt = 57 := rfl
      have e_11 := i_lt.mp (show (57 : Int32) < x0 from c_9)
      unfold cb_X10_isDigit_16
      unfold cb_X10_isDigit_17
      have l_12 : (0 : Int32).toInt = 0 := rfl
      refine WP.bz (show (0 : Int32) = 0 ∨ (0 : Int32) = 1 from (by decide)) ?_
      refine WP.ret ?_
      exact ⟨rfl, rfl, (by decide)⟩
    · skip
      have l_13 : (57 : Int32).toInt = 57 := rfl
      have e_14 := mt i_lt.mpr (show ¬ ((57 : Int32) < x0) from c_9)
      unfold cb_X10_isDigit_12
      unfold cb_X10_isDigit_17
      have l_15 : (1 : Int32).toInt = 1 := rfl
      refine WP.bz (show (1 : Int32) = 0 ∨ (1 : Int32) = 1 from (by decide)) ?_
      refine WP.ret ?_
      exact ⟨rfl, rfl, (by decide)⟩
theorem cs_X10_isPart {fu : Nat} (hfu : 8589934592 ≤ fu) (x0 : Int32) (F : PF) (G : PG) (hI : CI F G) : WP (cf_X10_isPart fu x0 F G) (fun r' F' G' => F = F' ∧ G = G' ∧ (r' = 0 ∨ r' = 1)) := by
  unfold cf_X10_isPart
  unfold cb_X10_isPart_0
  have q_1 := i_rng x0
  refine WP.bind (cs_X10_isDigit hfu x0 F G hI) ?_
  rintro r2 _ _ ⟨rfl, rfl, hp2⟩
  dsimp only
  have q_3 := b_rng hp2
  unfold cb_X10_isPart_4
  refine WP.ite (fun c_4 => ?_) (fun c_4 => ?_)
  · skip
    have l_5 : (0 : Int32).toInt = 0 := rfl
    have e_6 := i_eq.mp (show r2 = (0 : Int32) from c_4)
    unfold cb_X10_isPart_7
    refine WP.ite (fun c_7 => ?_) (fun c_7 => ?_)
    · skip
      have l_8 : (97 : Int32).toInt = 97 := rfl
      have e_9 := i_lt.mp (show x0 < (97 : Int32) from c_7)
      unfold cb_X10_isPart_19
      refine WP.ite (fun c_10 => ?_) (fun c_10 => ?_)
      · skip
        have l_11 : (65 : Int32).toInt = 65 := rfl
        have e_12 := i_lt.mp (show x0 < (65 : Int32) from c_10)
        unfold cb_X10_isPart_31
        refine WP.ite (fun c_13 => ?_) (fun c_13 => ?_)
        · skip
          have l_14 : (95 : Int32).toInt = 95 := rfl
          have e_15 := i_eq.mp (show x0 = (95 : Int32) from c_13)
          unfold cb_X10_isPart_37
          unfold cb_X10_isPart_42
          have l_16 : (1 : Int32).toInt = 1 := rfl
          refine WP.bz (show (1 : Int32) = 0 ∨ (1 : Int32) = 1 from (by decide)) ?_
          refine WP.ret ?_
          exact ⟨rfl, rfl, (by decide)⟩
        · skip
          have l_17 : (95 : Int32).toInt = 95 := rfl
          have e_18 := mt i_eq.mpr (show ¬ (x0 = (95 : Int32)) from c_13)
          unfold cb_X10_isPart_41
          unfold cb_X10_isPart_42
          refine WP.bz (show (0 : Int32) = 0 ∨ (0 : Int32) = 1 from (by decide)) ?_
          refine WP.ret ?_
          exact ⟨rfl, rfl, (by decide)⟩
      · skip
        have l_19 : (65 : Int32).toInt = 65 := rfl
        have e_20 := mt i_lt.mpr (show ¬ (x0 < (65 : Int32)) from c_10)
        unfold cb_X10_isPart_25
        refine WP.ite (fun c_21 => ?_) (fun c_21 => ?_)
        · skip
          have l_22 : (90 : Int32).toInt = 90 := rfl
          have e_23 := i_le.mp (show x0 ≤ (90 : Int32) from c_21)
          unfold cb_X10_isPart_37
          unfold cb_X10_isPart_42
          have l_24 : (1 : Int32).toInt = 1 := rfl
          refine WP.bz (show (1 : Int32) = 0 ∨ (1 : Int32) = 1 from (by decide)) ?_
          refine WP.ret ?_
          exact ⟨rfl, rfl, (by decide)⟩
        · skip
          have l_25 : (90 : Int32).toInt = 90 := rfl
          have e_26 := mt i_le.mpr (show ¬ (x0 ≤ (90 : Int32)) from c_21)
          unfold cb_X10_isPart_31
          refine WP.ite (fun c_27 => ?_) (fun c_27 => ?_)
          · skip
            have l_28 : (95 : Int32).toInt = 95 := rfl
            have e_29 := i_eq.mp (show x0 = (95 : Int32) from c_27)
            unfold cb_X10_isPart_37
            unfold cb_X10_isPart_42
            have l_30 : (1 : Int32).toInt = 1 := rfl
            refine WP.bz (show (1 : Int32) = 0 ∨ (1 : Int32) = 1 from (by decide)) ?_
            refine WP.ret ?_
            exact ⟨rfl, rfl, (by decide)⟩
          · skip
            have l_31 : (95 : Int32).toInt = 95 := rfl
            have e_32 := mt i_eq.mpr (show ¬ (x0 = (95 : Int32)) from c_27)
            unfold cb_X10_isPart_41
            unfold cb_X10_isPart_42
            refine WP.bz (show (0 : Int32) = 0 ∨ (0 : Int32) = 1 from (by decide)) ?_
            refine WP.ret ?_
            exact ⟨rfl, rfl, (by decide)⟩
    · skip
      have l_33 : (97 : Int32).toInt = 97 := rfl
      have e_34 := mt i_lt.mpr (show ¬ (x0 < (97 : Int32)) from c_7)
      unfold cb_X10_isPart_13
      refine WP.ite (fun c_35 => ?_) (fun c_35 => ?_)
      · skip
        have l_36 : (122 : Int32).toInt = 122 := rfl
        have e_37 := i_le.mp (show x0 ≤ (122 : Int32) from c_35)
        unfold cb_X10_isPart_37
        unfold cb_X10_isPart_42
        have l_38 : (1 : Int32).toInt = 1 := rfl
        refine WP.bz (show (1 : Int32) = 0 ∨ (1 : Int32) = 1 from (by decide)) ?_
        refine WP.ret ?_
        exact ⟨rfl, rfl, (by decide)⟩
      · skip
        have l_39 : (122 : Int32).toInt = 122 := rfl
        have e_40 := mt i_le.mpr (show ¬ (x0 ≤ (122 : Int32)) from c_35)
        unfold cb_X10_isPart_19
        refine WP.ite (fun c_41 => ?_) (fun c_41 => ?_)
        · skip
          have l_42 : (65 : Int32).toInt = 65 := rfl
          have e_43 := i_lt.mp (show x0 < (65 : Int32) from c_41)
          unfold cb_X10_isPart_31
          refine WP.ite (fun c_44 => ?_) (fun c_44 => ?_)
          · skip
            have l_45 : (95 : Int32).toInt = 95 := rfl
            have e_46 := i_eq.mp (show x0 = (95 : Int32) from c_44)
            unfold cb_X10_isPart_37
            unfold cb_X10_isPart_42
            have l_47 : (1 : Int32).toInt = 1 := rfl
            refine WP.bz (show (1 : Int32) = 0 ∨ (1 : Int32) = 1 from (by decide)) ?_
            refine WP.ret ?_
            exact ⟨rfl, rfl, (by decide)⟩
          · skip
            have l_48 : (95 : Int32).toInt = 95 := rfl
            have e_49 := mt i_eq.mpr (show ¬ (x0 = (95 : Int32)) from c_44)
            unfold cb_X10_isPart_41
            unfold cb_X10_isPart_42
            refine WP.bz (show (0 : Int32) = 0 ∨ (0 : Int32) = 1 from (by decide)) ?_
            refine WP.ret ?_
            exact ⟨rfl, rfl, (by decide)⟩
        · skip
          have l_50 : (65 : Int32).toInt = 65 := rfl
          have e_51 := mt i_lt.mpr (show ¬ (x0 < (65 : Int32)) from c_41)
          unfold cb_X10_isPart_25
          refine WP.ite (fun c_52 => ?_) (fun c_52 => ?_)
          · skip
            have l_53 : (90 : Int32).toInt = 90 := rfl
            have e_54 := i_le.mp (show x0 ≤ (90 : Int32) from c_52)
            unfold cb_X10_isPart_37
            unfold cb_X10_isPart_42
            have l_55 : (1 : Int32).toInt = 1 := rfl
            refine WP.bz (show (1 : Int32) = 0 ∨ (1 : Int32) = 1 from (by decide)) ?_
            refine WP.ret ?_
            exact ⟨rfl, rfl, (by decide)⟩
          · skip
            have l_56 : (90 : Int32).toInt = 90 := rfl
            have e_57 := mt i_le.mpr (show ¬ (x0 ≤ (90 : Int32)) from c_52)
            unfold cb_X10_isPart_31
            refine WP.ite (fun c_58 => ?_) (fun c_58 => ?_)
            · skip
              have l_59 : (95 : Int32).toInt = 95 := rfl
              have e_60 := i_eq.mp (show x0 = (95 : Int32) from c_58)
              unfold cb_X10_isPart_37
              unfold cb_X10_isPart_42
              have l_61 : (1 : Int32).toInt = 1 := rfl
              refine WP.bz (show (1 : Int32) = 0 ∨ (1 : Int32) = 1 from (by decide)) ?_
              refine WP.ret ?_
              exact ⟨rfl, rfl, (by decide)⟩
            · skip
              have l_62 : (95 : Int32).toInt = 95 := rfl
              have e_63 := mt i_eq.mpr (show ¬ (x0 = (95 : Int32)) from c_58)
              unfold cb_X10_isPart_41
              unfold cb_X10_isPart_42
              refine WP.bz (show (0 : Int32) = 0 ∨ (0 : Int32) = 1 from (by decide)) ?_
              refine WP.ret ?_
              exact ⟨rfl, rfl, (by decide)⟩
  · skip
    have l_64 : (0 : Int32).toInt = 0 := rfl
    have e_65 := mt i_eq.mpr (show ¬ (r2 = (0 : Int32)) from c_4)
    unfold cb_X10_isPart_37
    unfold cb_X10_isPart_42
    have l_66 : (1 : Int32).toInt = 1 := rfl
    refine WP.bz (show (1 : Int32) = 0 ∨ (1 : Int32) = 1 from (by decide)) ?_
    refine WP.ret ?_
    exact ⟨rfl, rfl, (by decide)⟩
theorem cz_X10_behindParts_2 {fu : Nat} (hfu : 8589934592 ≤ fu) {F0 : PF} {G0 : PG} {x1 : Int32} : ∀ (n : Nat) (x2 : Int32) (F : PF) (G : PG) (hI : CI F G) (hF : F0 = F) (hG : G0 = G) (i_0 : 0 ≤ x2.toInt) (i_1 : x2.toInt ≤ 4000) (i_2 : x1.toInt ≤ x2.toInt) (hn : (2147483647 - x2.toInt).toNat < n), WP (cl_X10_behindParts_2 fu n x2 F G) (fun r' F' G' => F0 = F' ∧ G0 = G' ∧ ((x1.toInt ≤ r'.toInt ∧ r'.toInt ≤ 4000))) := by
  intro n
  induction n with
  | zero =>
    intro x2 F G hI hF hG i_0 i_1 i_2 hn
    exact absurd hn (Nat.not_lt_zero _)
  | succ n ihn =>
    intro x2 F G hI hF hG i_0 i_1 i_2 hn
    show WP (cb_X10_behindParts_2 fu (cl_X10_behindParts_2 fu n)  x2 F G) _
    unfold cb_X10_behindParts_2
    refine WP.ite (fun c_1 => ?_) (fun c_1 => ?_)
    · skip
      have q_2 := hI.r 88 rfl
      have q_3 := i_rng x2
      have e_4 := i_le.mp (show (F 88) ≤ x2 from c_1)
      unfold cb_X10_behindParts_33
      refine WP.ret ?_
      exact ⟨hF, hG, (show x1.toInt ≤ x2.toInt ∧ x2.toInt ≤ 4000 by omega)⟩
    · skip
      have q_5 := hI.r 88 rfl
      have q_6 := i_rng x2
      have e_7 := mt i_le.mpr (show ¬ ((F 88) ≤ x2) from c_1)
      unfold cb_X10_behindParts_13
      refine WP.bind (cs_X9_at hfu x2 F G hI) ?_
      rintro r8 _ _ ⟨rfl, rfl, hp8⟩
      dsimp only
      unfold cb_X10_behindParts_21
      have q_9 := i_rng r8
      refine WP.bind (cs_X10_isPart hfu r8 F G hI) ?_
      rintro r10 _ _ ⟨rfl, rfl, hp10⟩
      dsimp only
      have q_11 := b_rng hp10
      unfold cb_X10_behindParts_24
      refine WP.ite (fun c_12 => ?_) (fun c_12 => ?_)
      · skip
        have l_13 : (0 : Int32).toInt = 0 := rfl
        have e_14 := i_eq.mp (show r10 = (0 : Int32) from c_12)
        unfold cb_X10_behindParts_33
        refine WP.ret ?_
        exact ⟨hF, hG, (show x1.toInt ≤ x2.toInt ∧ x2.toInt ≤ 4000 by omega)⟩
      · skip
        have l_15 : (0 : Int32).toInt = 0 := rfl
        have e_16 := mt i_eq.mpr (show ¬ (r10 = (0 : Int32)) from c_12)
        unfold cb_X10_behindParts_27
        have l_17 : (1 : Int32).toInt = 1 := rfl
        obtain ⟨k_18, e_19, e_20⟩ := i_add x2 (1 : Int32)
        exact ihn (x2 + (1 : Int32)) F G hI hF hG (show 0 ≤ (x2 + (1 : Int32)).toInt by omega) (show (x2 + (1 : Int32)).toInt ≤ 4000 by omega) (show x1.toInt ≤ (x2 + (1 : Int32)).toInt by omega) (by omega)
theorem cs_X10_behindParts {fu : Nat} (hfu : 8589934592 ≤ fu) (x1 : Int32) (F : PF) (G : PG) (hI : CI F G) (ha : 0 ≤ x1.toInt) (hb : x1.toInt ≤ 4000) : WP (cf_X10_behindParts fu x1 F G) (fun r' F' G' => F = F' ∧ G = G' ∧ ((x1.toInt ≤ r'.toInt ∧ r'.toInt ≤ 4000))) := by
  unfold cf_X10_behindParts
  unfold cb_X10_behindParts_0
  have q_1 := i_rng x1
  exact cz_X10_behindParts_2 (F0 := F) (G0 := G) hfu fu x1 F G hI rfl rfl (show 0 ≤ x1.toInt by omega) (show x1.toInt ≤ 4000 by omega) (show x1.toInt ≤ x1.toInt by omega) (by omega)
theorem cz_X10_wordAt_52 {fu : Nat} (hfu : 8589934592 ≤ fu) {F0 : PF} {G0 : PG} {n_2 : Nat} (ag_2 : Int32 → Int32 → Int32 → PF → PG → PR) (hag_2 : ∀ (x1 : Int32) (x2 : Int32) (x3 : Int32) (F : PF) (G : PG) (hI : CI F G) (hF : F0 = F) (hG : G0 = G) (i_0 : 4 ≤ x3.toInt) (i_1 : x3.toInt ≤ 19) (i_2 : 0 ≤ x2.toInt) (hn : (2147483647 - x3.toInt).toNat < n_2), WP (ag_2 x1 x2 x3 F G) (fun r' F' G' => F0 = F' ∧ G0 = G' ∧ True)) : ∀ (n : Nat) (x1 : Int32) (x2 : Int32) (x3 : Int32) (x4 : Int32) (x5 : Int32) (x6 : Int32) (F : PF) (G : PG) (hI : CI F G) (hF : F0 = F) (hG : G0 = G) (i_0 : 0 ≤ x6.toInt) (i_1 : 0 ≤ x4.toInt) (i_2 : x4.toInt ≤ 112) (i_3 : x2.toInt ≤ 8) (i_4 : 4 ≤ x3.toInt) (i_5 : x3.toInt ≤ 18) (i_6 : (2147483647 - x3.toInt).toNat < n_2 + 1) (i_7 : 0 ≤ x2.toInt) (hn : (2147483647 - x6.toInt).toNat < n), WP (cl_X10_wordAt_52 fu ag_2 n x1 x2 x3 x4 x5 x6 F G) (fun r' F' G' => F0 = F' ∧ G0 = G' ∧ True) := by
  intro n
  induction n with
  | zero =>
    intro x1 x2 x3 x4 x5 x6 F G hI hF hG i_0 i_1 i_2 i_3 i_4 i_5 i_6 i_7 hn
    exact absurd hn (Nat.not_lt_zero _)
  | succ n ihn =>
    intro x1 x2 x3 x4 x5 x6 F G hI hF hG i_0 i_1 i_2 i_3 i_4 i_5 i_6 i_7 hn
    show WP (cb_X10_wordAt_52 fu ag_2 (cl_X10_wordAt_52 fu ag_2 n)  x1 x2 x3 x4 x5 x6 F G) _
    unfold cb_X10_wordAt_52
    refine WP.ite (fun c_1 => ?_) (fun c_1 => ?_)
    · skip
      have q_2 := i_rng x2
      have q_3 := i_rng x6
      have e_4 := i_le.mp (show x2 ≤ x6 from c_1)
      unfold cb_X10_wordAt_100
      refine WP.ite (fun c_5 => ?_) (fun c_5 => ?_)
      · skip
        have q_6 := i_rng x5
        have l_7 : (0 : Int32).toInt = 0 := rfl
        have e_8 := i_eq.mp (show x5 = (0 : Int32) from c_5)
        unfold cb_X10_wordAt_107
        have q_9 := i_rng x1
        have q_10 := i_rng x3
        have l_11 : (1 : Int32).toInt = 1 := rfl
        obtain ⟨k_12, e_13, e_14⟩ := i_add x3 (1 : Int32)
        exact hag_2 x1 x2 (x3 + (1 : Int32)) F G hI hF hG (show 4 ≤ (x3 + (1 : Int32)).toInt by omega) (show (x3 + (1 : Int32)).toInt ≤ 19 by omega) (show 0 ≤ x2.toInt by omega) (by omega)
      · skip
        have q_15 := i_rng x5
        have l_16 : (0 : Int32).toInt = 0 := rfl
        have e_17 := mt i_eq.mpr (show ¬ (x5 = (0 : Int32)) from c_5)
        unfold cb_X10_wordAt_105
        refine WP.ret ?_
        exact ⟨hF, hG, trivial⟩
    · skip
      have q_18 := i_rng x2
      have q_19 := i_rng x6
      have e_20 := mt i_le.mpr (show ¬ (x2 ≤ x6) from c_1)
      unfold cb_X10_wordAt_58
      refine WP.ite (fun c_21 => ?_) (fun c_21 => ?_)
      · skip
        have q_22 := i_rng x5
        have l_23 : (0 : Int32).toInt = 0 := rfl
        have e_24 := i_eq.mp (show x5 = (0 : Int32) from c_21)
        unfold cb_X10_wordAt_100
        refine WP.ite (fun c_25 => ?_) (fun c_25 => ?_)
        · skip
          have e_26 := i_eq.mp (show x5 = (0 : Int32) from c_25)
          unfold cb_X10_wordAt_107
          have q_27 := i_rng x1
          have q_28 := i_rng x3
          have l_29 : (1 : Int32).toInt = 1 := rfl
          obtain ⟨k_30, e_31, e_32⟩ := i_add x3 (1 : Int32)
          exact hag_2 x1 x2 (x3 + (1 : Int32)) F G hI hF hG (show 4 ≤ (x3 + (1 : Int32)).toInt by omega) (show (x3 + (1 : Int32)).toInt ≤ 19 by omega) (show 0 ≤ x2.toInt by omega) (by omega)
        · skip
          have e_33 := mt i_eq.mpr (show ¬ (x5 = (0 : Int32)) from c_25)
          unfold cb_X10_wordAt_105
          refine WP.ret ?_
          exact ⟨hF, hG, trivial⟩
      · skip
        have q_34 := i_rng x5
        have l_35 : (0 : Int32).toInt = 0 := rfl
        have e_36 := mt i_eq.mpr (show ¬ (x5 = (0 : Int32)) from c_21)
        unfold cb_X10_wordAt_63
        have q_37 := i_rng x4
        obtain ⟨k_38, e_39, e_40⟩ := i_add x4 x6
        refine WP.bind (cs_J0_charAt_5068e hfu 2 (x4 + x6) F G hI (by decide) (show vp_in (x4 + x6) 120 from vp_in_iff.mpr ⟨by omega, by omega⟩)) ?_
        rintro r41 _ _ ⟨rfl, rfl, hp41⟩
        dsimp only
        unfold cb_X10_wordAt_73
        have q_42 := i_rng x1
        obtain ⟨k_43, e_44, e_45⟩ := i_add x1 x6
        refine WP.bind (cs_X9_at hfu (x1 + x6) F G hI) ?_
        rintro r46 _ _ ⟨rfl, rfl, hp46⟩
        dsimp only
        unfold cb_X10_wordAt_84
        refine WP.ite (fun c_47 => ?_) (fun c_47 => ?_)
        · skip
          have q_48 := i_rng r41
          have q_49 := i_rng r46
          have e_50 := i_eq.mp (show r41 = r46 from c_47)
          unfold cb_X10_wordAt_87
          unfold cb_X10_wordAt_92
          have q_51 := i_rng x3
          have l_52 : (1 : Int32).toInt = 1 := rfl
          obtain ⟨k_53, e_54, e_55⟩ := i_add x6 (1 : Int32)
          exact ihn x1 x2 x3 x4 (1 : Int32) (x6 + (1 : Int32)) F G hI hF hG (show 0 ≤ (x6 + (1 : Int32)).toInt by omega) (show 0 ≤ x4.toInt by omega) (show x4.toInt ≤ 112 by omega) (show x2.toInt ≤ 8 by omega) (show 4 ≤ x3.toInt by omega) (show x3.toInt ≤ 18 by omega) (show (2147483647 - x3.toInt).toNat < n_2 + 1 by omega) (show 0 ≤ x2.toInt by omega) (by omega)
        · skip
          have q_56 := i_rng r41
          have q_57 := i_rng r46
          have e_58 := mt i_eq.mpr (show ¬ (r41 = r46) from c_47)
          unfold cb_X10_wordAt_91
          unfold cb_X10_wordAt_92
          have q_59 := i_rng x3
          have l_60 : (1 : Int32).toInt = 1 := rfl
          obtain ⟨k_61, e_62, e_63⟩ := i_add x6 (1 : Int32)
          exact ihn x1 x2 x3 x4 (0 : Int32) (x6 + (1 : Int32)) F G hI hF hG (show 0 ≤ (x6 + (1 : Int32)).toInt by omega) (show 0 ≤ x4.toInt by omega) (show x4.toInt ≤ 112 by omega) (show x2.toInt ≤ 8 by omega) (show 4 ≤ x3.toInt by omega) (show x3.toInt ≤ 18 by omega) (show (2147483647 - x3.toInt).toNat < n_2 + 1 by omega) (show 0 ≤ x2.toInt by omega) (by omega)
theorem cz_X10_wordAt_2 {fu : Nat} (hfu : 8589934592 ≤ fu) {F0 : PF} {G0 : PG} : ∀ (n : Nat) (x1 : Int32) (x2 : Int32) (x3 : Int32) (F : PF) (G : PG) (hI : CI F G) (hF : F0 = F) (hG : G0 = G) (i_0 : 4 ≤ x3.toInt) (i_1 : x3.toInt ≤ 19) (i_2 : 0 ≤ x2.toInt) (hn : (2147483647 - x3.toInt).toNat < n), WP (cl_X10_wordAt_2 fu n x1 x2 x3 F G) (fun r' F' G' => F0 = F' ∧ G0 = G' ∧ True) := by
  intro n
  induction n with
  | zero =>
    intro x1 x2 x3 F G hI hF hG i_0 i_1 i_2 hn
    exact absurd hn (Nat.not_lt_zero _)
  | succ n ihn =>
    intro x1 x2 x3 F G hI hF hG i_0 i_1 i_2 hn
    show WP (cb_X10_wordAt_2 fu (cl_X10_wordAt_2 fu n)  x1 x2 x3 F G) _
    unfold cb_X10_wordAt_2
    refine WP.ite (fun c_1 => ?_) (fun c_1 => ?_)
    · skip
      have l_2 : (18 : Int32).toInt = 18 := rfl
      have q_3 := i_rng x3
      have e_4 := i_lt.mp (show (18 : Int32) < x3 from c_1)
      unfold cb_X10_wordAt_113
      refine WP.ret ?_
      exact ⟨hF, hG, trivial⟩
    · skip
      have l_5 : (18 : Int32).toInt = 18 := rfl
      have q_6 := i_rng x3
      have e_7 := mt i_lt.mpr (show ¬ ((18 : Int32) < x3) from c_1)
      unfold cb_X10_wordAt_8
      refine WP.ite (fun c_8 => ?_) (fun c_8 => ?_)
      · skip
        have l_9 : (8 : Int32).toInt = 8 := rfl
        have q_10 := i_rng x2
        have e_11 := i_lt.mp (show (8 : Int32) < x2 from c_8)
        unfold cb_X10_wordAt_113
        refine WP.ret ?_
        exact ⟨hF, hG, trivial⟩
      · skip
        have l_12 : (8 : Int32).toInt = 8 := rfl
        have q_13 := i_rng x2
        have e_14 := mt i_lt.mpr (show ¬ ((8 : Int32) < x2) from c_8)
        unfold cb_X10_wordAt_14
        refine WP.ite (fun c_15 => ?_) (fun c_15 => ?_)
        · skip
          have e_16 := i_eq.mp (show x2 = (8 : Int32) from c_15)
          unfold cb_X10_wordAt_42
          unfold cb_X10_wordAt_47
          have q_17 := i_rng x1
          have l_18 : (4 : Int32).toInt = 4 := rfl
          obtain ⟨k_19, e_20, e_21⟩ := i_sub x3 (4 : Int32)
          have q_23 := i_rng ((x3 - (4 : Int32)) * (8 : Int32))
          have l_24 : (1 : Int32).toInt = 1 := rfl
          have l_25 : (0 : Int32).toInt = 0 := rfl
          exact cz_X10_wordAt_52 (F0 := F0) (G0 := G0) hfu (cl_X10_wordAt_2 fu n) ihn fu x1 x2 x3 ((x3 - (4 : Int32)) * (8 : Int32)) (1 : Int32) (0 : Int32) F G hI hF hG (show 0 ≤ (0 : Int32).toInt by omega) (show 0 ≤ ((x3 - (4 : Int32)) * (8 : Int32)).toInt by omega) (show ((x3 - (4 : Int32)) * (8 : Int32)).toInt ≤ 112 by omega) (show x2.toInt ≤ 8 by omega) (show 4 ≤ x3.toInt by omega) (show x3.toInt ≤ 18 by omega) (show (2147483647 - x3.toInt).toNat < n + 1 by omega) (show 0 ≤ x2.toInt by omega) (by omega)
        · skip
          have e_26 := mt i_eq.mpr (show ¬ (x2 = (8 : Int32)) from c_15)
          unfold cb_X10_wordAt_28
          have l_27 : (4 : Int32).toInt = 4 := rfl
          obtain ⟨k_28, e_29, e_30⟩ := i_sub x3 (4 : Int32)
          have q_32 := i_rng ((x3 - (4 : Int32)) * (8 : Int32))
          obtain ⟨k_33, e_34, e_35⟩ := i_add ((x3 - (4 : Int32)) * (8 : Int32)) x2
          refine WP.bind (cs_J0_charAt_5068e hfu 2 (((x3 - (4 : Int32)) * (8 : Int32)) + x2) F G hI (by decide) (show vp_in (((x3 - (4 : Int32)) * (8 : Int32)) + x2) 120 from vp_in_iff.mpr ⟨by omega, by omega⟩)) ?_
          rintro r36 _ _ ⟨rfl, rfl, hp36⟩
          dsimp only
          unfold cb_X10_wordAt_37
          refine WP.ite (fun c_37 => ?_) (fun c_37 => ?_)
          · skip
            have q_38 := i_rng r36
            have l_39 : (32 : Int32).toInt = 32 := rfl
            have e_40 := i_eq.mp (show r36 = (32 : Int32) from c_37)
            unfold cb_X10_wordAt_42
            unfold cb_X10_wordAt_47
            have q_41 := i_rng x1
            have l_42 : (1 : Int32).toInt = 1 := rfl
            have l_43 : (0 : Int32).toInt = 0 := rfl
            exact cz_X10_wordAt_52 (F0 := F0) (G0 := G0) hfu (cl_X10_wordAt_2 fu n) ihn fu x1 x2 x3 ((x3 - (4 : Int32)) * (8 : Int32)) (1 : Int32) (0 : Int32) F G hI hF hG (show 0 ≤ (0 : Int32).toInt by omega) (show 0 ≤ ((x3 - (4 : Int32)) * (8 : Int32)).toInt by omega) (show ((x3 - (4 : Int32)) * (8 : Int32)).toInt ≤ 112 by omega) (show x2.toInt ≤ 8 by omega) (show 4 ≤ x3.toInt by omega) (show x3.toInt ≤ 18 by omega) (show (2147483647 - x3.toInt).toNat < n + 1 by omega) (show 0 ≤ x2.toInt by omega) (by omega)
          · skip
            have q_44 := i_rng r36
            have l_45 : (32 : Int32).toInt = 32 := rfl
            have e_46 := mt i_eq.mpr (show ¬ (r36 = (32 : Int32)) from c_37)
            unfold cb_X10_wordAt_46
            unfold cb_X10_wordAt_47
            have q_47 := i_rng x1
            have l_48 : (0 : Int32).toInt = 0 := rfl
            exact cz_X10_wordAt_52 (F0 := F0) (G0 := G0) hfu (cl_X10_wordAt_2 fu n) ihn fu x1 x2 x3 ((x3 - (4 : Int32)) * (8 : Int32)) (0 : Int32) (0 : Int32) F G hI hF hG (show 0 ≤ (0 : Int32).toInt by omega) (show 0 ≤ ((x3 - (4 : Int32)) * (8 : Int32)).toInt by omega) (show ((x3 - (4 : Int32)) * (8 : Int32)).toInt ≤ 112 by omega) (show x2.toInt ≤ 8 by omega) (show 4 ≤ x3.toInt by omega) (show x3.toInt ≤ 18 by omega) (show (2147483647 - x3.toInt).toNat < n + 1 by omega) (show 0 ≤ x2.toInt by omega) (by omega)
theorem cs_X10_wordAt {fu : Nat} (hfu : 8589934592 ≤ fu) (x1 : Int32) (x2 : Int32) (F : PF) (G : PG) (hI : CI F G) (hc : 0 ≤ x2.toInt) : WP (cf_X10_wordAt fu x1 x2 F G) (fun r' F' G' => F = F' ∧ G = G' ∧ True) := by
  unfold cf_X10_wordAt
  unfold cb_X10_wordAt_0
  have q_1 := i_rng x1
  have q_2 := i_rng x2
  have l_3 : (4 : Int32).toInt = 4 := rfl
  exact cz_X10_wordAt_2 (F0 := F) (G0 := G) hfu fu x1 x2 (4 : Int32) F G hI rfl rfl (show 4 ≤ (4 : Int32).toInt by omega) (show (4 : Int32).toInt ≤ 19 by omega) (show 0 ≤ x2.toInt by omega) (by omega)
theorem cz_X10_isName_20 {fu : Nat} (hfu : 8589934592 ≤ fu) {F0 : PF} {G0 : PG} : ∀ (n : Nat) (x1 : Int32) (x2 : Int32) (x3 : Int32) (x4 : Int32) (x5 : Int32) (F : PF) (G : PG) (hI : CI F G) (hF : F0 = F) (hG : G0 = G) (i_0 : 0 ≤ x1.toInt) (i_1 : x1.toInt < 1408) (i_2 : x4 = 0 ∨ x4 = 1) (hn : (2147483647 - x5.toInt).toNat < n), WP (cl_X10_isName_20 fu n x1 x2 x3 x4 x5 F G) (fun r' F' G' => F0 = F' ∧ G0 = G' ∧ (r' = 0 ∨ r' = 1)) := by
  intro n
  induction n with
  | zero =>
    intro x1 x2 x3 x4 x5 F G hI hF hG i_0 i_1 i_2 hn
    exact absurd hn (Nat.not_lt_zero _)
  | succ n ihn =>
    intro x1 x2 x3 x4 x5 F G hI hF hG i_0 i_1 i_2 hn
    show WP (cb_X10_isName_20 fu (cl_X10_isName_20 fu n)  x1 x2 x3 x4 x5 F G) _
    have q_x4 := b_rng i_2
    unfold cb_X10_isName_20
    refine WP.ite (fun c_1 => ?_) (fun c_1 => ?_)
    · skip
      have q_2 := i_rng x3
      have q_3 := i_rng x5
      have e_4 := i_le.mp (show x3 ≤ x5 from c_1)
      unfold cb_X10_isName_74
      refine WP.bz (show x4 = 0 ∨ x4 = 1 from i_2) ?_
      refine WP.ret ?_
      exact ⟨hF, hG, i_2⟩
    · skip
      have q_5 := i_rng x3
      have q_6 := i_rng x5
      have e_7 := mt i_le.mpr (show ¬ (x3 ≤ x5) from c_1)
      unfold cb_X10_isName_26
      refine WP.ite (fun c_8 => ?_) (fun c_8 => ?_)
      · skip
        have l_9 : (0 : Int32).toInt = 0 := rfl
        have e_10 := i_eq.mp (show x4 = (0 : Int32) from c_8)
        unfold cb_X10_isName_74
        refine WP.bz (show x4 = 0 ∨ x4 = 1 from i_2) ?_
        refine WP.ret ?_
        exact ⟨hF, hG, i_2⟩
      · skip
        have l_11 : (0 : Int32).toInt = 0 := rfl
        have e_12 := mt i_eq.mpr (show ¬ (x4 = (0 : Int32)) from c_8)
        unfold cb_X10_isName_31
        have q_13 := i_rng x1
        refine WP.ix (show vp_in x1 1408 from vp_in_iff.mpr ⟨by omega, by omega⟩) ?_
        have q_14 := i_rng (G 96 x1.toNatClampNeg)
        obtain ⟨k_15, e_16, e_17⟩ := i_add (G 96 x1.toNatClampNeg) x5
        refine WP.bind (cs_X9_at hfu ((G 96 x1.toNatClampNeg) + x5) F G hI) ?_
        rintro r18 _ _ ⟨rfl, rfl, hp18⟩
        dsimp only
        unfold cb_X10_isName_47
        have q_19 := i_rng x2
        obtain ⟨k_20, e_21, e_22⟩ := i_add x2 x5
        refine WP.bind (cs_X9_at hfu (x2 + x5) F G hI) ?_
        rintro r23 _ _ ⟨rfl, rfl, hp23⟩
        dsimp only
        unfold cb_X10_isName_58
        refine WP.ite (fun c_24 => ?_) (fun c_24 => ?_)
        · skip
          have q_25 := i_rng r18
          have q_26 := i_rng r23
          have e_27 := i_eq.mp (show r18 = r23 from c_24)
          unfold cb_X10_isName_61
          unfold cb_X10_isName_66
          have l_28 : (1 : Int32).toInt = 1 := rfl
          obtain ⟨k_29, e_30, e_31⟩ := i_add x5 (1 : Int32)
          exact ihn x1 x2 x3 (1 : Int32) (x5 + (1 : Int32)) F G hI hF hG (show 0 ≤ x1.toInt by omega) (show x1.toInt < 1408 by omega) (by decide) (by omega)
        · skip
          have q_32 := i_rng r18
          have q_33 := i_rng r23
          have e_34 := mt i_eq.mpr (show ¬ (r18 = r23) from c_24)
          unfold cb_X10_isName_65
          unfold cb_X10_isName_66
          have l_35 : (1 : Int32).toInt = 1 := rfl
          obtain ⟨k_36, e_37, e_38⟩ := i_add x5 (1 : Int32)
          exact ihn x1 x2 x3 (0 : Int32) (x5 + (1 : Int32)) F G hI hF hG (show 0 ≤ x1.toInt by omega) (show x1.toInt < 1408 by omega) (by decide) (by omega)
theorem cs_X10_isName {fu : Nat} (hfu : 8589934592 ≤ fu) (x1 : Int32) (x2 : Int32) (x3 : Int32) (F : PF) (G : PG) (hI : CI F G) (hc : 0 ≤ x1.toInt) (hd : x1.toInt < 1408) : WP (cf_X10_isName fu x1 x2 x3 F G) (fun r' F' G' => F = F' ∧ G = G' ∧ (r' = 0 ∨ r' = 1)) := by
  unfold cf_X10_isName
  unfold cb_X10_isName_0
  have q_1 := i_rng x1
  refine WP.ix (show vp_in x1 1408 from vp_in_iff.mpr ⟨by omega, by omega⟩) ?_
  refine WP.ite (fun c_2 => ?_) (fun c_2 => ?_)
  · skip
    have q_3 := i_rng (G 97 x1.toNatClampNeg)
    have q_4 := i_rng x3
    have e_5 := i_eq.mp (show (G 97 x1.toNatClampNeg) = x3 from c_2)
    unfold cb_X10_isName_10
    unfold cb_X10_isName_15
    have q_6 := i_rng x2
    have l_7 : (1 : Int32).toInt = 1 := rfl
    have l_8 : (0 : Int32).toInt = 0 := rfl
    exact cz_X10_isName_20 (F0 := F) (G0 := G) hfu fu x1 x2 x3 (1 : Int32) (0 : Int32) F G hI rfl rfl (show 0 ≤ x1.toInt by omega) (show x1.toInt < 1408 by omega) (by decide) (by omega)
  · skip
    have q_9 := i_rng (G 97 x1.toNatClampNeg)
    have q_10 := i_rng x3
    have e_11 := mt i_eq.mpr (show ¬ ((G 97 x1.toNatClampNeg) = x3) from c_2)
    unfold cb_X10_isName_14
    unfold cb_X10_isName_15
    have q_12 := i_rng x2
    have l_13 : (0 : Int32).toInt = 0 := rfl
    exact cz_X10_isName_20 (F0 := F) (G0 := G) hfu fu x1 x2 x3 (0 : Int32) (0 : Int32) F G hI rfl rfl (show 0 ≤ x1.toInt by omega) (show x1.toInt < 1408 by omega) (by decide) (by omega)
theorem cz_X10_nameAt_5 {fu : Nat} (hfu : 8589934592 ≤ fu) {F0 : PF} {G0 : PG} : ∀ (n : Nat) (x1 : Int32) (x2 : Int32) (x3 : Int32) (x4 : Int32) (F : PF) (G : PG) (hI : CI F G) (hB : KB F0 G0 F G) (hT : KT F0 F) (hO : KO F0 F) (hn : (2147483647 - x4.toInt).toNat < n), WP (cl_X10_nameAt_5 fu n x1 x2 x3 x4 F G) (fun r' F' G' => CI F' G' ∧ KB F0 G0 F' G' ∧ KT F0 F' ∧ KO F0 F' ∧ True) := by
  intro n
  induction n with
  | zero =>
    intro x1 x2 x3 x4 F G hI hB hT hO hn
    exact absurd hn (Nat.not_lt_zero _)
  | succ n ihn =>
    intro x1 x2 x3 x4 F G hI hB hT hO hn
    show WP (cb_X10_nameAt_5 fu (cl_X10_nameAt_5 fu n)  x1 x2 x3 x4 F G) _
    have q_O : (F 10).toInt = (F0 10).toInt := hO
    have q_O1 := hI.r 10 rfl
    unfold cb_X10_nameAt_5
    refine WP.ite (fun c_1 => ?_) (fun c_1 => ?_)
    · skip
      have q_2 := i_rng x2
      have q_3 := i_rng x4
      have e_4 := i_le.mp (show x2 ≤ x4 from c_1)
      unfold cb_X10_nameAt_34
      have q_5 := i_rng x3
      have l_6 : (10 : Int32).toInt = 10 := rfl
      have q_8 := i_rng ((x3.toUInt32 >>> ((10 : Int32).toUInt32 &&& Int32.toUInt32 31)).toInt32)
      have q_10 := i_rng (x3 ^^^ ((x3.toUInt32 >>> ((10 : Int32).toUInt32 &&& Int32.toUInt32 31)).toInt32))
      have l_11 : (1023 : Int32).toInt = 1023 := rfl
      have e_13 := i_and (x3 ^^^ ((x3.toUInt32 >>> ((10 : Int32).toUInt32 &&& Int32.toUInt32 31)).toInt32)) (m := 1023) 10 (by decide) (by decide)
      refine WP.ix (show vp_in ((x3 ^^^ ((x3.toUInt32 >>> ((10 : Int32).toUInt32 &&& Int32.toUInt32 31)).toInt32)) &&& (1023 : Int32)) 1024 from vp_in_iff.mpr ⟨by omega, by omega⟩) ?_
      have q_14 := i_rng x1
      have q_15 := i_rng (G 94 ((x3 ^^^ ((x3.toUInt32 >>> ((10 : Int32).toUInt32 &&& Int32.toUInt32 31)).toInt32)) &&& (1023 : Int32)).toNatClampNeg)
      have l_16 : (0 : Int32).toInt = 0 := rfl
      exact cz_X10_nameAt_58 (F0 := F0) (G0 := G0) hfu fu x1 x2 ((x3 ^^^ ((x3.toUInt32 >>> ((10 : Int32).toUInt32 &&& Int32.toUInt32 31)).toInt32)) &&& (1023 : Int32)) (G 94 ((x3 ^^^ ((x3.toUInt32 >>> ((10 : Int32).toUInt32 &&& Int32.toUInt32 31)).toInt32)) &&& (1023 : Int32)).toNatClampNeg) (0 : Int32) F G hI hB hT hO (show 0 ≤ ((x3 ^^^ ((x3.toUInt32 >>> ((10 : Int32).toUInt32 &&& Int32.toUInt32 31)).toInt32)) &&& (1023 : Int32)).toInt by omega) (show ((x3 ^^^ ((x3.toUInt32 >>> ((10 : Int32).toUInt32 &&& Int32.toUInt32 31)).toInt32)) &&& (1023 : Int32)).toInt < 1024 by omega) (by omega)
    · skip
      have q_17 := i_rng x2
      have q_18 := i_rng x4
      have e_19 := mt i_le.mpr (show ¬ (x2 ≤ x4) from c_1)
      unfold cb_X10_nameAt_11
      have q_20 := i_rng x1
      obtain ⟨k_21, e_22, e_23⟩ := i_add x1 x4
      refine WP.bind (cs_X9_at hfu (x1 + x4) F G hI) ?_
      rintro r24 _ _ ⟨rfl, rfl, hp24⟩
      dsimp only
      unfold cb_X10_nameAt_26
      have q_25 := i_rng x3
      have l_26 : (31 : Int32).toInt = 31 := rfl
      have q_28 := i_rng (x3 * (31 : Int32))
      have q_29 := i_rng r24
      obtain ⟨k_30, e_31, e_32⟩ := i_add (x3 * (31 : Int32)) r24
      have l_33 : (1 : Int32).toInt = 1 := rfl
      obtain ⟨k_34, e_35, e_36⟩ := i_add x4 (1 : Int32)
      exact ihn x1 x2 ((x3 * (31 : Int32)) + r24) (x4 + (1 : Int32)) F G hI hB hT hO (by omega)
theorem cz_X10_nameAt_58 {fu : Nat} (hfu : 8589934592 ≤ fu) {F0 : PF} {G0 : PG} : ∀ (n : Nat) (x1 : Int32) (x2 : Int32) (x4 : Int32) (x5 : Int32) (x6 : Int32) (F : PF) (G : PG) (hI : CI F G) (hB : KB F0 G0 F G) (hT : KT F0 F) (hO : KO F0 F) (i_0 : 0 ≤ x4.toInt) (i_1 : x4.toInt < 1024) (hn : (2147483647 - x6.toInt).toNat < n), WP (cl_X10_nameAt_58 fu n x1 x2 x4 x5 x6 F G) (fun r' F' G' => CI F' G' ∧ KB F0 G0 F' G' ∧ KT F0 F' ∧ KO F0 F' ∧ True) := by
  intro n
  induction n with
  | zero =>
    intro x1 x2 x4 x5 x6 F G hI hB hT hO i_0 i_1 hn
    exact absurd hn (Nat.not_lt_zero _)
  | succ n ihn =>
    intro x1 x2 x4 x5 x6 F G hI hB hT hO i_0 i_1 hn
    show WP (cb_X10_nameAt_58 fu (cl_X10_nameAt_58 fu n)  x1 x2 x4 x5 x6 F G) _
    have q_O : (F 10).toInt = (F0 10).toInt := hO
    have q_O1 := hI.r 10 rfl
    unfold cb_X10_nameAt_58
    refine WP.ite (fun c_1 => ?_) (fun c_1 => ?_)
    · skip
      have q_2 := hI.r 98 rfl
      have q_3 := i_rng x6
      have e_4 := i_le.mp (show (F 98) ≤ x6 from c_1)
      unfold cb_X10_nameAt_109
      refine WP.ite (fun c_5 => ?_) (fun c_5 => ?_)
      · skip
        have l_6 : (1408 : Int32).toInt = 1408 := rfl
        have e_7 := i_lt.mp (show (F 98) < (1408 : Int32) from c_5)
        unfold cb_X10_nameAt_121
        refine WP.ix (show vp_in (F 98) 1408 from vp_in_iff.mpr ⟨by omega, by omega⟩) ?_
        have j_8 : CI F (gup G 96 (F 98).toNatClampNeg x1) := CI.g (by decide) hI
        unfold cb_X10_nameAt_131
        refine WP.ix (show vp_in (F 98) 1408 from vp_in_iff.mpr ⟨by omega, by omega⟩) ?_
        have j_9 : CI F (gup (gup G 96 (F 98).toNatClampNeg x1) 97 (F 98).toNatClampNeg x2) := CI.g (by decide) j_8
        unfold cb_X10_nameAt_141
        have q_10 := i_rng x4
        refine WP.ix (show vp_in x4 1024 from vp_in_iff.mpr ⟨by omega, by omega⟩) ?_
        refine WP.ix (show vp_in (F 98) 1408 from vp_in_iff.mpr ⟨by omega, by omega⟩) ?_
        have j_11 : CI F (gup (gup (gup G 96 (F 98).toNatClampNeg x1) 97 (F 98).toNatClampNeg x2) 95 (F 98).toNatClampNeg ((gup (gup G 96 (F 98).toNatClampNeg x1) 97 (F 98).toNatClampNeg x2) 94 x4.toNatClampNeg)) := CI.g (by decide) j_9
        unfold cb_X10_nameAt_157
        refine WP.ix (show vp_in x4 1024 from vp_in_iff.mpr ⟨by omega, by omega⟩) ?_
        have j_12 : CI F (gup (gup (gup (gup G 96 (F 98).toNatClampNeg x1) 97 (F 98).toNatClampNeg x2) 95 (F 98).toNatClampNeg ((gup (gup G 96 (F 98).toNatClampNeg x1) 97 (F 98).toNatClampNeg x2) 94 x4.toNatClampNeg)) 94 x4.toNatClampNeg (F 98)) := CI.g (by decide) j_11
        unfold cb_X10_nameAt_168
        have l_13 : (1 : Int32).toInt = 1 := rfl
        obtain ⟨k_14, e_15, e_16⟩ := i_add (F 98) (1 : Int32)
        have j_17 : CI (fup F 98 ((F 98) + (1 : Int32))) (gup (gup (gup (gup G 96 (F 98).toNatClampNeg x1) 97 (F 98).toNatClampNeg x2) 95 (F 98).toNatClampNeg ((gup (gup G 96 (F 98).toNatClampNeg x1) 97 (F 98).toNatClampNeg x2) 94 x4.toNatClampNeg)) 94 x4.toNatClampNeg (F 98)) := CI.rg (k := 98) (x := ((F 98) + (1 : Int32))) rfl (by decide) (by decide) j_12 ⟨by omega, by omega⟩
        unfold cb_X10_nameAt_178
        refine WP.ret ?_
        exact ⟨j_17, (KB.f (by decide) (KB.g (by decide) (KB.g (by decide) (KB.g (by decide) (KB.g (by decide) hB))))), (KT.f (by decide) hT), (KO.f (by decide) hO), trivial⟩
      · skip
        have l_18 : (1408 : Int32).toInt = 1408 := rfl
        have e_19 := mt i_lt.mpr (show ¬ ((F 98) < (1408 : Int32)) from c_5)
        unfold cb_X10_nameAt_119
        refine WP.ret ?_
        exact ⟨hI, hB, hT, hO, trivial⟩
    · skip
      have q_20 := hI.r 98 rfl
      have q_21 := i_rng x6
      have e_22 := mt i_le.mpr (show ¬ ((F 98) ≤ x6) from c_1)
      unfold cb_X10_nameAt_67
      refine WP.ite (fun c_23 => ?_) (fun c_23 => ?_)
      · skip
        have q_24 := i_rng x5
        have l_25 : (0 : Int32).toInt = 0 := rfl
        have e_26 := i_lt.mp (show x5 < (0 : Int32) from c_23)
        unfold cb_X10_nameAt_109
        refine WP.ite (fun c_27 => ?_) (fun c_27 => ?_)
        · skip
          have l_28 : (1408 : Int32).toInt = 1408 := rfl
          have e_29 := i_lt.mp (show (F 98) < (1408 : Int32) from c_27)
          unfold cb_X10_nameAt_121
          refine WP.ix (show vp_in (F 98) 1408 from vp_in_iff.mpr ⟨by omega, by omega⟩) ?_
          have j_30 : CI F (gup G 96 (F 98).toNatClampNeg x1) := CI.g (by decide) hI
          unfold cb_X10_nameAt_131
          refine WP.ix (show vp_in (F 98) 1408 from vp_in_iff.mpr ⟨by omega, by omega⟩) ?_
          have j_31 : CI F (gup (gup G 96 (F 98).toNatClampNeg x1) 97 (F 98).toNatClampNeg x2) := CI.g (by decide) j_30
          unfold cb_X10_nameAt_141
          have q_32 := i_rng x4
          refine WP.ix (show vp_in x4 1024 from vp_in_iff.mpr ⟨by omega, by omega⟩) ?_
          refine WP.ix (show vp_in (F 98) 1408 from vp_in_iff.mpr ⟨by omega, by omega⟩) ?_
          have j_33 : CI F (gup (gup (gup G 96 (F 98).toNatClampNeg x1) 97 (F 98).toNatClampNeg x2) 95 (F 98).toNatClampNeg ((gup (gup G 96 (F 98).toNatClampNeg x1) 97 (F 98).toNatClampNeg x2) 94 x4.toNatClampNeg)) := CI.g (by decide) j_31
          unfold cb_X10_nameAt_157
          refine WP.ix (show vp_in x4 1024 from vp_in_iff.mpr ⟨by omega, by omega⟩) ?_
          have j_34 : CI F (gup (gup (gup (gup G 96 (F 98).toNatClampNeg x1) 97 (F 98).toNatClampNeg x2) 95 (F 98).toNatClampNeg ((gup (gup G 96 (F 98).toNatClampNeg x1) 97 (F 98).toNatClampNeg x2) 94 x4.toNatClampNeg)) 94 x4.toNatClampNeg (F 98)) := CI.g (by decide) j_33
          unfold cb_X10_nameAt_168
          have l_35 : (1 : Int32).toInt = 1 := rfl
          obtain ⟨k_36, e_37, e_38⟩ := i_add (F 98) (1 : Int32)
          have j_39 : CI (fup F 98 ((F 98) + (1 : Int32))) (gup (gup (gup (gup G 96 (F 98).toNatClampNeg x1) 97 (F 98).toNatClampNeg x2) 95 (F 98).toNatClampNeg ((gup (gup G 96 (F 98).toNatClampNeg x1) 97 (F 98).toNatClampNeg x2) 94 x4.toNatClampNeg)) 94 x4.toNatClampNeg (F 98)) := CI.rg (k := 98) (x := ((F 98) + (1 : Int32))) rfl (by decide) (by decide) j_34 ⟨by omega, by omega⟩
          unfold cb_X10_nameAt_178
          refine WP.ret ?_
          exact ⟨j_39, (KB.f (by decide) (KB.g (by decide) (KB.g (by decide) (KB.g (by decide) (KB.g (by decide) hB))))), (KT.f (by decide) hT), (KO.f (by decide) hO), trivial⟩
        · skip
          have l_40 : (1408 : Int32).toInt = 1408 := rfl
          have e_41 := mt i_lt.mpr (show ¬ ((F 98) < (1408 : Int32)) from c_27)
          unfold cb_X10_nameAt_119
          refine WP.ret ?_
          exact ⟨hI, hB, hT, hO, trivial⟩
      · skip
        have q_42 := i_rng x5
        have l_43 : (0 : Int32).toInt = 0 := rfl
        have e_44 := mt i_lt.mpr (show ¬ (x5 < (0 : Int32)) from c_23)
        unfold cb_X10_nameAt_72
        refine WP.ite (fun c_45 => ?_) (fun c_45 => ?_)
        · skip
          have l_46 : (1408 : Int32).toInt = 1408 := rfl
          have e_47 := i_le.mp (show (1408 : Int32) ≤ x5 from c_45)
          unfold cb_X10_nameAt_109
          refine WP.ite (fun c_48 => ?_) (fun c_48 => ?_)
          · skip
            have e_49 := i_lt.mp (show (F 98) < (1408 : Int32) from c_48)
            unfold cb_X10_nameAt_121
            refine WP.ix (show vp_in (F 98) 1408 from vp_in_iff.mpr ⟨by omega, by omega⟩) ?_
            have j_50 : CI F (gup G 96 (F 98).toNatClampNeg x1) := CI.g (by decide) hI
            unfold cb_X10_nameAt_131
            refine WP.ix (show vp_in (F 98) 1408 from vp_in_iff.mpr ⟨by omega, by omega⟩) ?_
            have j_51 : CI F (gup (gup G 96 (F 98).toNatClampNeg x1) 97 (F 98).toNatClampNeg x2) := CI.g (by decide) j_50
            unfold cb_X10_nameAt_141
            have q_52 := i_rng x4
            refine WP.ix (show vp_in x4 1024 from vp_in_iff.mpr ⟨by omega, by omega⟩) ?_
            refine WP.ix (show vp_in (F 98) 1408 from vp_in_iff.mpr ⟨by omega, by omega⟩) ?_
            have j_53 : CI F (gup (gup (gup G 96 (F 98).toNatClampNeg x1) 97 (F 98).toNatClampNeg x2) 95 (F 98).toNatClampNeg ((gup (gup G 96 (F 98).toNatClampNeg x1) 97 (F 98).toNatClampNeg x2) 94 x4.toNatClampNeg)) := CI.g (by decide) j_51
            unfold cb_X10_nameAt_157
            refine WP.ix (show vp_in x4 1024 from vp_in_iff.mpr ⟨by omega, by omega⟩) ?_
            have j_54 : CI F (gup (gup (gup (gup G 96 (F 98).toNatClampNeg x1) 97 (F 98).toNatClampNeg x2) 95 (F 98).toNatClampNeg ((gup (gup G 96 (F 98).toNatClampNeg x1) 97 (F 98).toNatClampNeg x2) 94 x4.toNatClampNeg)) 94 x4.toNatClampNeg (F 98)) := CI.g (by decide) j_53
            unfold cb_X10_nameAt_168
            have l_55 : (1 : Int32).toInt = 1 := rfl
            obtain ⟨k_56, e_57, e_58⟩ := i_add (F 98) (1 : Int32)
            have j_59 : CI (fup F 98 ((F 98) + (1 : Int32))) (gup (gup (gup (gup G 96 (F 98).toNatClampNeg x1) 97 (F 98).toNatClampNeg x2) 95 (F 98).toNatClampNeg ((gup (gup G 96 (F 98).toNatClampNeg x1) 97 (F 98).toNatClampNeg x2) 94 x4.toNatClampNeg)) 94 x4.toNatClampNeg (F 98)) := CI.rg (k := 98) (x := ((F 98) + (1 : Int32))) rfl (by decide) (by decide) j_54 ⟨by omega, by omega⟩
            unfold cb_X10_nameAt_178
            refine WP.ret ?_
            exact ⟨j_59, (KB.f (by decide) (KB.g (by decide) (KB.g (by decide) (KB.g (by decide) (KB.g (by decide) hB))))), (KT.f (by decide) hT), (KO.f (by decide) hO), trivial⟩
          · skip
            have e_60 := mt i_lt.mpr (show ¬ ((F 98) < (1408 : Int32)) from c_48)
            unfold cb_X10_nameAt_119
            refine WP.ret ?_
            exact ⟨hI, hB, hT, hO, trivial⟩
        · skip
          have l_61 : (1408 : Int32).toInt = 1408 := rfl
          have e_62 := mt i_le.mpr (show ¬ ((1408 : Int32) ≤ x5) from c_45)
          unfold cb_X10_nameAt_80
          have q_63 := i_rng x1
          have q_64 := i_rng x2
          refine WP.bind (cs_X10_isName hfu x5 x1 x2 F G hI (show 0 ≤ x5.toInt by omega) (show x5.toInt < 1408 by omega)) ?_
          rintro r65 _ _ ⟨rfl, rfl, hp65⟩
          dsimp only
          have q_66 := b_rng hp65
          unfold cb_X10_nameAt_88
          refine WP.ite (fun c_67 => ?_) (fun c_67 => ?_)
          · skip
            have e_68 := i_eq.mp (show r65 = (0 : Int32) from c_67)
            unfold cb_X10_nameAt_94
            refine WP.ix (show vp_in x5 1408 from vp_in_iff.mpr ⟨by omega, by omega⟩) ?_
            have q_69 := i_rng x4
            have q_70 := i_rng (G 95 x5.toNatClampNeg)
            have l_71 : (1 : Int32).toInt = 1 := rfl
            obtain ⟨k_72, e_73, e_74⟩ := i_add x6 (1 : Int32)
            exact ihn x1 x2 x4 (G 95 x5.toNatClampNeg) (x6 + (1 : Int32)) F G hI hB hT hO (show 0 ≤ x4.toInt by omega) (show x4.toInt < 1024 by omega) (by omega)
          · skip
            have e_75 := mt i_eq.mpr (show ¬ (r65 = (0 : Int32)) from c_67)
            unfold cb_X10_nameAt_91
            refine WP.ret ?_
            exact ⟨hI, hB, hT, hO, trivial⟩
theorem cs_X10_nameAt {fu : Nat} (hfu : 8589934592 ≤ fu) (x1 : Int32) (x2 : Int32) (F : PF) (G : PG) (hI : CI F G) : WP (cf_X10_nameAt fu x1 x2 F G) (fun r' F' G' => CI F' G' ∧ KB F G F' G' ∧ KT F F' ∧ KO F F' ∧ True) := by
  unfold cf_X10_nameAt
  unfold cb_X10_nameAt_0
  have q_1 := i_rng x1
  have q_2 := i_rng x2
  have l_3 : (0 : Int32).toInt = 0 := rfl
  exact cz_X10_nameAt_5 (F0 := F) (G0 := G) hfu fu x1 x2 x2 (0 : Int32) F G hI (KB.rf : KB F G F G) (rfl : KT F F) (rfl : KO F F) (by omega)
theorem cs_X10_behindName {fu : Nat} (hfu : 8589934592 ≤ fu) (x1 : Int32) (F : PF) (G : PG) (hI : CI F G) (ha : 0 ≤ x1.toInt) (hb : x1.toInt ≤ 4000) : WP (cf_X10_behindName fu x1 F G) (fun r' F' G' => CI F' G' ∧ KB F G F' G' ∧ KT F F' ∧ KO F F' ∧ ((r'.toInt = -1 ∨ (0 ≤ r'.toInt ∧ r'.toInt ≤ 4010)))) := by
  unfold cf_X10_behindName
  unfold cb_X10_behindName_0
  have q_1 := i_rng x1
  refine WP.bind (cs_X10_behindParts hfu x1 F G hI (show 0 ≤ x1.toInt by omega) (show x1.toInt ≤ 4000 by omega)) ?_
  rintro r2 _ _ ⟨rfl, rfl, hp2⟩
  dsimp only
  have q_3 := i_rng r2
  unfold cb_X10_behindName_5
  refine WP.ite (fun c_4 => ?_) (fun c_4 => ?_)
  · skip
    obtain ⟨k_5, e_6, e_7⟩ := i_sub r2 x1
    have l_8 : (16 : Int32).toInt = 16 := rfl
    have e_9 := i_le.mp (show (r2 - x1) ≤ (16 : Int32) from c_4)
    unfold cb_X10_behindName_18
    refine WP.bind (cs_X10_wordAt hfu x1 (r2 - x1) F G hI (show 0 ≤ (r2 - x1).toInt by omega)) ?_
    rintro r10 _ _ ⟨rfl, rfl, hp10⟩
    dsimp only
    unfold cb_X10_behindName_24
    refine WP.ite (fun c_11 => ?_) (fun c_11 => ?_)
    · skip
      have q_12 := i_rng r10
      have l_13 : (-1 : Int32).toInt = -1 := rfl
      have e_14 := i_eq.mp (show r10 = (-1 : Int32) from c_11)
      unfold cb_X10_behindName_43
      refine WP.bind (cs_X10_nameAt hfu x1 (r2 - x1) F G hI) ?_
      rintro r15 F15 G15 ⟨hI15, hB15, hT15, hO15, hp15⟩
      dsimp only
      have q_16 := hI.r 10 rfl
      have q_17 := hI15.r 10 rfl
      have e_18 : (F15 10).toInt = (F 10).toInt := hO15
      unfold cb_X10_behindName_51
      have l_19 : (2 : Int32).toInt = 2 := rfl
      have q_20 := i_rng r15
      refine WP.bind (cs_X10_add hfu (2 : Int32) r15 x1 F15 G15 hI15) ?_
      rintro r21 F21 G21 ⟨hI21, hB21, hT21, hO21, hp21⟩
      dsimp only
      have q_22 := hI21.r 10 rfl
      have e_23 : (F21 10).toInt = (F15 10).toInt := hO21
      unfold cb_X10_behindName_55
      refine WP.ret ?_
      exact ⟨hI21, (KB.tr (KB.tr (KB.rf : KB F G F G) hB15) hB21), (KT.tr (KT.tr (rfl : KT F F) hT15) hT21), (KO.tr (KO.tr (rfl : KO F F) hO15) hO21), (show r2.toInt = -1 ∨ (0 ≤ r2.toInt ∧ r2.toInt ≤ 4010) by omega)⟩
    · skip
      have q_24 := i_rng r10
      have l_25 : (-1 : Int32).toInt = -1 := rfl
      have e_26 := mt i_eq.mpr (show ¬ (r10 = (-1 : Int32)) from c_11)
      unfold cb_X10_behindName_32
      have l_27 : (0 : Int32).toInt = 0 := rfl
      refine WP.bind (cs_X10_add hfu r10 (0 : Int32) x1 F G hI) ?_
      rintro r28 F28 G28 ⟨hI28, hB28, hT28, hO28, hp28⟩
      dsimp only
      have q_29 := hI.r 10 rfl
      have q_30 := hI28.r 10 rfl
      have e_31 : (F28 10).toInt = (F 10).toInt := hO28
      unfold cb_X10_behindName_40
      unfold cb_X10_behindName_55
      refine WP.ret ?_
      exact ⟨hI28, (KB.tr (KB.rf : KB F G F G) hB28), (KT.tr (rfl : KT F F) hT28), (KO.tr (rfl : KO F F) hO28), (show r2.toInt = -1 ∨ (0 ≤ r2.toInt ∧ r2.toInt ≤ 4010) by omega)⟩
  · skip
    obtain ⟨k_32, e_33, e_34⟩ := i_sub r2 x1
    have l_35 : (16 : Int32).toInt = 16 := rfl
    have e_36 := mt i_le.mpr (show ¬ ((r2 - x1) ≤ (16 : Int32)) from c_4)
    unfold cb_X10_behindName_16
    refine WP.ret ?_
    have l_37 : (-1 : Int32).toInt = -1 := rfl
    exact ⟨hI, (KB.rf : KB F G F G), (rfl : KT F F), (rfl : KO F F), (show (-1 : Int32).toInt = -1 ∨ (0 ≤ (-1 : Int32).toInt ∧ (-1 : Int32).toInt ≤ 4010) by omega)⟩
theorem cs_X10_digitOf {fu : Nat} (hfu : 8589934592 ≤ fu) (x0 : Int32) (F : PF) (G : PG) (hI : CI F G) : WP (cf_X10_digitOf fu x0 F G) (fun r' F' G' => F = F' ∧ G = G' ∧ True) := by
  unfold cf_X10_digitOf
  unfold cb_X10_digitOf_0
  have q_1 := i_rng x0
  refine WP.bind (cs_X10_isDigit hfu x0 F G hI) ?_
  rintro r2 _ _ ⟨rfl, rfl, hp2⟩
  dsimp only
  have q_3 := b_rng hp2
  unfold cb_X10_digitOf_4
  refine WP.ite (fun c_4 => ?_) (fun c_4 => ?_)
  · skip
    have l_5 : (0 : Int32).toInt = 0 := rfl
    have e_6 := i_eq.mp (show r2 = (0 : Int32) from c_4)
    unfold cb_X10_digitOf_12
    refine WP.ite (fun c_7 => ?_) (fun c_7 => ?_)
    · skip
      have l_8 : (97 : Int32).toInt = 97 := rfl
      have e_9 := i_lt.mp (show x0 < (97 : Int32) from c_7)
      unfold cb_X10_digitOf_32
      refine WP.ite (fun c_10 => ?_) (fun c_10 => ?_)
      · skip
        have l_11 : (65 : Int32).toInt = 65 := rfl
        have e_12 := i_lt.mp (show x0 < (65 : Int32) from c_10)
        unfold cb_X10_digitOf_54
        unfold cb_X10_digitOf_56
        refine WP.ret ?_
        exact ⟨rfl, rfl, trivial⟩
      · skip
        have l_13 : (65 : Int32).toInt = 65 := rfl
        have e_14 := mt i_lt.mpr (show ¬ (x0 < (65 : Int32)) from c_10)
        unfold cb_X10_digitOf_38
        refine WP.ite (fun c_15 => ?_) (fun c_15 => ?_)
        · skip
          have l_16 : (70 : Int32).toInt = 70 := rfl
          have e_17 := i_lt.mp (show (70 : Int32) < x0 from c_15)
          unfold cb_X10_digitOf_54
          unfold cb_X10_digitOf_56
          refine WP.ret ?_
          exact ⟨rfl, rfl, trivial⟩
        · skip
          have l_18 : (70 : Int32).toInt = 70 := rfl
          have e_19 := mt i_lt.mpr (show ¬ ((70 : Int32) < x0) from c_15)
          unfold cb_X10_digitOf_44
          unfold cb_X10_digitOf_56
          refine WP.ret ?_
          exact ⟨rfl, rfl, trivial⟩
    · skip
      have l_20 : (97 : Int32).toInt = 97 := rfl
      have e_21 := mt i_lt.mpr (show ¬ (x0 < (97 : Int32)) from c_7)
      unfold cb_X10_digitOf_18
      refine WP.ite (fun c_22 => ?_) (fun c_22 => ?_)
      · skip
        have l_23 : (102 : Int32).toInt = 102 := rfl
        have e_24 := i_lt.mp (show (102 : Int32) < x0 from c_22)
        unfold cb_X10_digitOf_32
        refine WP.ite (fun c_25 => ?_) (fun c_25 => ?_)
        · skip
          have l_26 : (65 : Int32).toInt = 65 := rfl
          have e_27 := i_lt.mp (show x0 < (65 : Int32) from c_25)
          unfold cb_X10_digitOf_54
          unfold cb_X10_digitOf_56
          refine WP.ret ?_
          exact ⟨rfl, rfl, trivial⟩
        · skip
          have l_28 : (65 : Int32).toInt = 65 := rfl
          have e_29 := mt i_lt.mpr (show ¬ (x0 < (65 : Int32)) from c_25)
          unfold cb_X10_digitOf_38
          refine WP.ite (fun c_30 => ?_) (fun c_30 => ?_)
          · skip
            have l_31 : (70 : Int32).toInt = 70 := rfl
            have e_32 := i_lt.mp (show (70 : Int32) < x0 from c_30)
            unfold cb_X10_digitOf_54
            unfold cb_X10_digitOf_56
            refine WP.ret ?_
            exact ⟨rfl, rfl, trivial⟩
          · skip
            have l_33 : (70 : Int32).toInt = 70 := rfl
            have e_34 := mt i_lt.mpr (show ¬ ((70 : Int32) < x0) from c_30)
            unfold cb_X10_digitOf_44
            unfold cb_X10_digitOf_56
            refine WP.ret ?_
            exact ⟨rfl, rfl, trivial⟩
      · skip
        have l_35 : (102 : Int32).toInt = 102 := rfl
        have e_36 := mt i_lt.mpr (show ¬ ((102 : Int32) < x0) from c_22)
        unfold cb_X10_digitOf_24
        refine WP.ret ?_
        exact ⟨rfl, rfl, trivial⟩
  · skip
    have l_37 : (0 : Int32).toInt = 0 := rfl
    have e_38 := mt i_eq.mpr (show ¬ (r2 = (0 : Int32)) from c_4)
    unfold cb_X10_digitOf_7
    refine WP.ret ?_
    exact ⟨rfl, rfl, trivial⟩
theorem cz_X10_behindNumber_103 {fu : Nat} (hfu : 8589934592 ≤ fu) {F0 : PF} {G0 : PG} : ∀ (n : Nat) (x1 : Int32) (x2 : Int32) (x5 : Int32) (x7 : Int64) (x9 : Int32) (F : PF) (G : PG) (hI : CI F G) (hB : KB F0 G0 F G) (hT : KT F0 F) (hO : KO F0 F) (i_0 : 0 ≤ x2.toInt) (i_1 : x2.toInt ≤ 4000) (hn : (2147483647 - x9.toInt).toNat < n), WP (cl_X10_behindNumber_103 fu n x1 x2 x5 x7 x9 F G) (fun r' F' G' => CI F' G' ∧ KB F0 G0 F' G' ∧ KT F0 F' ∧ KO F0 F' ∧ ((r'.toInt = -1 ∨ (0 ≤ r'.toInt ∧ r'.toInt ≤ 4010)))) := by
  intro n
  induction n with
  | zero =>
    intro x1 x2 x5 x7 x9 F G hI hB hT hO i_0 i_1 hn
    exact absurd hn (Nat.not_lt_zero _)
  | succ n ihn =>
    intro x1 x2 x5 x7 x9 F G hI hB hT hO i_0 i_1 hn
    show WP (cb_X10_behindNumber_103 fu (cl_X10_behindNumber_103 fu n)  x1 x2 x5 x7 x9 F G) _
    have q_O : (F 10).toInt = (F0 10).toInt := hO
    have q_O1 := hI.r 10 rfl
    unfold cb_X10_behindNumber_103
    refine WP.ite (fun c_1 => ?_) (fun c_1 => ?_)
    · skip
      have q_2 := i_rng x2
      have q_3 := i_rng x9
      have e_4 := i_le.mp (show x2 ≤ x9 from c_1)
      unfold cb_X10_behindNumber_150
      refine WP.ite (fun c_5 => ?_) (fun c_5 => ?_)
      · skip
        have q_6 := i_rng (lg_cmp x7 (4294967295 : Int64))
        have l_7 : (0 : Int32).toInt = 0 := rfl
        have e_8 := i_le.mp (show (lg_cmp x7 (4294967295 : Int64)) ≤ (0 : Int32) from c_5)
        unfold cb_X10_behindNumber_161
        have l_9 : (3 : Int32).toInt = 3 := rfl
        have q_10 := i_rng (x7.toInt32)
        have q_11 := i_rng x1
        refine WP.bind (cs_X10_add hfu (3 : Int32) (x7.toInt32) x1 F G hI) ?_
        rintro r12 F12 G12 ⟨hI12, hB12, hT12, hO12, hp12⟩
        dsimp only
        have q_13 := hI.r 10 rfl
        have q_14 := hI12.r 10 rfl
        have e_15 : (F12 10).toInt = (F 10).toInt := hO12
        unfold cb_X10_behindNumber_170
        refine WP.ret ?_
        exact ⟨hI12, (KB.tr hB hB12), (KT.tr hT hT12), (KO.tr hO hO12), (show x2.toInt = -1 ∨ (0 ≤ x2.toInt ∧ x2.toInt ≤ 4010) by omega)⟩
      · skip
        have q_16 := i_rng (lg_cmp x7 (4294967295 : Int64))
        have l_17 : (0 : Int32).toInt = 0 := rfl
        have e_18 := mt i_le.mpr (show ¬ ((lg_cmp x7 (4294967295 : Int64)) ≤ (0 : Int32)) from c_5)
        unfold cb_X10_behindNumber_159
        refine WP.ret ?_
        have l_19 : (-1 : Int32).toInt = -1 := rfl
        exact ⟨hI, hB, hT, hO, (show (-1 : Int32).toInt = -1 ∨ (0 ≤ (-1 : Int32).toInt ∧ (-1 : Int32).toInt ≤ 4010) by omega)⟩
    · skip
      have q_20 := i_rng x2
      have q_21 := i_rng x9
      have e_22 := mt i_le.mpr (show ¬ (x2 ≤ x9) from c_1)
      unfold cb_X10_behindNumber_109
      refine WP.bind (cs_X9_at hfu x9 F G hI) ?_
      rintro r23 _ _ ⟨rfl, rfl, hp23⟩
      dsimp only
      unfold cb_X10_behindNumber_118
      have q_24 := i_rng r23
      refine WP.bind (cs_X10_digitOf hfu r23 F G hI) ?_
      rintro r25 _ _ ⟨rfl, rfl, hp25⟩
      dsimp only
      unfold cb_X10_behindNumber_121
      refine WP.ite (fun c_26 => ?_) (fun c_26 => ?_)
      · skip
        have q_27 := i_rng r25
        have q_28 := i_rng x5
        have e_29 := i_lt.mp (show r25 < x5 from c_26)
        unfold cb_X10_behindNumber_132
        have q_30 := i_rng x1
        have l_31 : (1 : Int32).toInt = 1 := rfl
        obtain ⟨k_32, e_33, e_34⟩ := i_add x9 (1 : Int32)
        exact ihn x1 x2 x5 ((x7 * (x5.toInt64)) + (r25.toInt64)) (x9 + (1 : Int32)) F G hI hB hT hO (show 0 ≤ x2.toInt by omega) (show x2.toInt ≤ 4000 by omega) (by omega)
      · skip
        have q_35 := i_rng r25
        have q_36 := i_rng x5
        have e_37 := mt i_lt.mpr (show ¬ (r25 < x5) from c_26)
        unfold cb_X10_behindNumber_130
        refine WP.ret ?_
        have l_38 : (-1 : Int32).toInt = -1 := rfl
        exact ⟨hI, hB, hT, hO, (show (-1 : Int32).toInt = -1 ∨ (0 ≤ (-1 : Int32).toInt ∧ (-1 : Int32).toInt ≤ 4010) by omega)⟩
theorem cs_X10_behindNumber {fu : Nat} (hfu : 8589934592 ≤ fu) (x1 : Int32) (F : PF) (G : PG) (hI : CI F G) (ha : 0 ≤ x1.toInt) (hb : x1.toInt ≤ 4000) : WP (cf_X10_behindNumber fu x1 F G) (fun r' F' G' => CI F' G' ∧ KB F G F' G' ∧ KT F F' ∧ KO F F' ∧ ((r'.toInt = -1 ∨ (0 ≤ r'.toInt ∧ r'.toInt ≤ 4010)))) := by
  unfold cf_X10_behindNumber
  unfold cb_X10_behindNumber_0
  have q_1 := i_rng x1
  refine WP.bind (cs_X10_behindParts hfu x1 F G hI (show 0 ≤ x1.toInt by omega) (show x1.toInt ≤ 4000 by omega)) ?_
  rintro r2 _ _ ⟨rfl, rfl, hp2⟩
  dsimp only
  have q_3 := i_rng r2
  unfold cb_X10_behindNumber_5
  refine WP.bind (cs_X9_at hfu x1 F G hI) ?_
  rintro r4 _ _ ⟨rfl, rfl, hp4⟩
  dsimp only
  unfold cb_X10_behindNumber_14
  refine WP.ite (fun c_5 => ?_) (fun c_5 => ?_)
  · skip
    have q_6 := i_rng r4
    have l_7 : (48 : Int32).toInt = 48 := rfl
    have e_8 := i_eq.mp (show r4 = (48 : Int32) from c_5)
    unfold cb_X10_behindNumber_19
    have l_9 : (1 : Int32).toInt = 1 := rfl
    obtain ⟨k_10, e_11, e_12⟩ := i_add x1 (1 : Int32)
    refine WP.bind (cs_X9_at hfu (x1 + (1 : Int32)) F G hI) ?_
    rintro r13 _ _ ⟨rfl, rfl, hp13⟩
    dsimp only
    unfold cb_X10_behindNumber_29
    refine WP.ite (fun c_14 => ?_) (fun c_14 => ?_)
    · skip
      have q_15 := i_rng r13
      have l_16 : (120 : Int32).toInt = 120 := rfl
      have e_17 := i_eq.mp (show r13 = (120 : Int32) from c_14)
      unfold cb_X10_behindNumber_34
      unfold cb_X10_behindNumber_39
      refine WP.ite (fun c_18 => absurd c_18 (by decide)) (fun _ => ?_)
      unfold cb_X10_behindNumber_44
      unfold cb_X10_behindNumber_51
      refine WP.ite (fun c_19 => absurd c_19 (by decide)) (fun _ => ?_)
      unfold cb_X10_behindNumber_57
      unfold cb_X10_behindNumber_64
      refine WP.ite (fun c_20 => ?_) (fun c_20 => ?_)
      · skip
        have l_21 : (2 : Int32).toInt = 2 := rfl
        obtain ⟨k_22, e_23, e_24⟩ := i_add x1 (2 : Int32)
        obtain ⟨k_25, e_26, e_27⟩ := i_sub r2 (x1 + (2 : Int32))
        have e_28 := i_lt.mp (show (r2 - (x1 + (2 : Int32))) < (1 : Int32) from c_20)
        unfold cb_X10_behindNumber_94
        refine WP.ret ?_
        have l_29 : (-1 : Int32).toInt = -1 := rfl
        exact ⟨hI, (KB.rf : KB F G F G), (rfl : KT F F), (rfl : KO F F), (show (-1 : Int32).toInt = -1 ∨ (0 ≤ (-1 : Int32).toInt ∧ (-1 : Int32).toInt ≤ 4010) by omega)⟩
      · skip
        have l_30 : (2 : Int32).toInt = 2 := rfl
        obtain ⟨k_31, e_32, e_33⟩ := i_add x1 (2 : Int32)
        obtain ⟨k_34, e_35, e_36⟩ := i_sub r2 (x1 + (2 : Int32))
        have e_37 := mt i_lt.mpr (show ¬ ((r2 - (x1 + (2 : Int32))) < (1 : Int32)) from c_20)
        unfold cb_X10_behindNumber_78
        refine WP.ite (fun c_38 => absurd c_38 (by decide)) (fun _ => ?_)
        unfold cb_X10_behindNumber_84
        unfold cb_X10_behindNumber_91
        refine WP.ite (fun c_39 => ?_) (fun c_39 => ?_)
        · skip
          have l_40 : (8 : Int32).toInt = 8 := rfl
          have e_41 := i_le.mp (show (r2 - (x1 + (2 : Int32))) ≤ (8 : Int32) from c_39)
          unfold cb_X10_behindNumber_96
          have l_42 : (16 : Int32).toInt = 16 := rfl
          exact cz_X10_behindNumber_103 (F0 := F) (G0 := G) hfu fu x1 r2 (16 : Int32) (0 : Int64) (x1 + (2 : Int32)) F G hI (KB.rf : KB F G F G) (rfl : KT F F) (rfl : KO F F) (show 0 ≤ r2.toInt by omega) (show r2.toInt ≤ 4000 by omega) (by omega)
        · skip
          have l_43 : (8 : Int32).toInt = 8 := rfl
          have e_44 := mt i_le.mpr (show ¬ ((r2 - (x1 + (2 : Int32))) ≤ (8 : Int32)) from c_39)
          unfold cb_X10_behindNumber_94
          refine WP.ret ?_
          have l_45 : (-1 : Int32).toInt = -1 := rfl
          exact ⟨hI, (KB.rf : KB F G F G), (rfl : KT F F), (rfl : KO F F), (show (-1 : Int32).toInt = -1 ∨ (0 ≤ (-1 : Int32).toInt ∧ (-1 : Int32).toInt ≤ 4010) by omega)⟩
    · skip
      have q_46 := i_rng r13
      have l_47 : (120 : Int32).toInt = 120 := rfl
      have e_48 := mt i_eq.mpr (show ¬ (r13 = (120 : Int32)) from c_14)
      unfold cb_X10_behindNumber_38
      unfold cb_X10_behindNumber_39
      refine WP.ite (fun _ => ?_) (fun c_49 => absurd (by decide) c_49)
      unfold cb_X10_behindNumber_50
      unfold cb_X10_behindNumber_51
      refine WP.ite (fun _ => ?_) (fun c_50 => absurd (by decide) c_50)
      unfold cb_X10_behindNumber_62
      unfold cb_X10_behindNumber_64
      refine WP.ite (fun c_51 => ?_) (fun c_51 => ?_)
      · skip
        obtain ⟨k_52, e_53, e_54⟩ := i_sub r2 x1
        have e_55 := i_lt.mp (show (r2 - x1) < (1 : Int32) from c_51)
        unfold cb_X10_behindNumber_94
        refine WP.ret ?_
        have l_56 : (-1 : Int32).toInt = -1 := rfl
        exact ⟨hI, (KB.rf : KB F G F G), (rfl : KT F F), (rfl : KO F F), (show (-1 : Int32).toInt = -1 ∨ (0 ≤ (-1 : Int32).toInt ∧ (-1 : Int32).toInt ≤ 4010) by omega)⟩
      · skip
        obtain ⟨k_57, e_58, e_59⟩ := i_sub r2 x1
        have e_60 := mt i_lt.mpr (show ¬ ((r2 - x1) < (1 : Int32)) from c_51)
        unfold cb_X10_behindNumber_78
        refine WP.ite (fun _ => ?_) (fun c_61 => absurd (by decide) c_61)
        unfold cb_X10_behindNumber_89
        unfold cb_X10_behindNumber_91
        refine WP.ite (fun c_62 => ?_) (fun c_62 => ?_)
        · skip
          have l_63 : (10 : Int32).toInt = 10 := rfl
          have e_64 := i_le.mp (show (r2 - x1) ≤ (10 : Int32) from c_62)
          unfold cb_X10_behindNumber_96
          exact cz_X10_behindNumber_103 (F0 := F) (G0 := G) hfu fu x1 r2 (10 : Int32) (0 : Int64) x1 F G hI (KB.rf : KB F G F G) (rfl : KT F F) (rfl : KO F F) (show 0 ≤ r2.toInt by omega) (show r2.toInt ≤ 4000 by omega) (by omega)
        · skip
          have l_65 : (10 : Int32).toInt = 10 := rfl
          have e_66 := mt i_le.mpr (show ¬ ((r2 - x1) ≤ (10 : Int32)) from c_62)
          unfold cb_X10_behindNumber_94
          refine WP.ret ?_
          have l_67 : (-1 : Int32).toInt = -1 := rfl
          exact ⟨hI, (KB.rf : KB F G F G), (rfl : KT F F), (rfl : KO F F), (show (-1 : Int32).toInt = -1 ∨ (0 ≤ (-1 : Int32).toInt ∧ (-1 : Int32).toInt ≤ 4010) by omega)⟩
  · skip
    have q_68 := i_rng r4
    have l_69 : (48 : Int32).toInt = 48 := rfl
    have e_70 := mt i_eq.mpr (show ¬ (r4 = (48 : Int32)) from c_5)
    unfold cb_X10_behindNumber_38
    unfold cb_X10_behindNumber_39
    refine WP.ite (fun _ => ?_) (fun c_71 => absurd (by decide) c_71)
    unfold cb_X10_behindNumber_50
    unfold cb_X10_behindNumber_51
    refine WP.ite (fun _ => ?_) (fun c_72 => absurd (by decide) c_72)
    unfold cb_X10_behindNumber_62
    unfold cb_X10_behindNumber_64
    refine WP.ite (fun c_73 => ?_) (fun c_73 => ?_)
    · skip
      obtain ⟨k_74, e_75, e_76⟩ := i_sub r2 x1
      have l_77 : (1 : Int32).toInt = 1 := rfl
      have e_78 := i_lt.mp (show (r2 - x1) < (1 : Int32) from c_73)
      unfold cb_X10_behindNumber_94
      refine WP.ret ?_
      have l_79 : (-1 : Int32).toInt = -1 := rfl
      exact ⟨hI, (KB.rf : KB F G F G), (rfl : KT F F), (rfl : KO F F), (show (-1 : Int32).toInt = -1 ∨ (0 ≤ (-1 : Int32).toInt ∧ (-1 : Int32).toInt ≤ 4010) by omega)⟩
    · skip
      obtain ⟨k_80, e_81, e_82⟩ := i_sub r2 x1
      have l_83 : (1 : Int32).toInt = 1 := rfl
      have e_84 := mt i_lt.mpr (show ¬ ((r2 - x1) < (1 : Int32)) from c_73)
      unfold cb_X10_behindNumber_78
      refine WP.ite (fun _ => ?_) (fun c_85 => absurd (by decide) c_85)
      unfold cb_X10_behindNumber_89
      unfold cb_X10_behindNumber_91
      refine WP.ite (fun c_86 => ?_) (fun c_86 => ?_)
      · skip
        have l_87 : (10 : Int32).toInt = 10 := rfl
        have e_88 := i_le.mp (show (r2 - x1) ≤ (10 : Int32) from c_86)
        unfold cb_X10_behindNumber_96
        exact cz_X10_behindNumber_103 (F0 := F) (G0 := G) hfu fu x1 r2 (10 : Int32) (0 : Int64) x1 F G hI (KB.rf : KB F G F G) (rfl : KT F F) (rfl : KO F F) (show 0 ≤ r2.toInt by omega) (show r2.toInt ≤ 4000 by omega) (by omega)
      · skip
        have l_89 : (10 : Int32).toInt = 10 := rfl
        have e_90 := mt i_le.mpr (show ¬ ((r2 - x1) ≤ (10 : Int32)) from c_86)
        unfold cb_X10_behindNumber_94
        refine WP.ret ?_
        have l_91 : (-1 : Int32).toInt = -1 := rfl
        exact ⟨hI, (KB.rf : KB F G F G), (rfl : KT F F), (rfl : KO F F), (show (-1 : Int32).toInt = -1 ∨ (0 ≤ (-1 : Int32).toInt ∧ (-1 : Int32).toInt ≤ 4010) by omega)⟩
theorem cs_X10_behindSign {fu : Nat} (hfu : 8589934592 ≤ fu) (x1 : Int32) (x2 : Int32) (F : PF) (G : PG) (hI : CI F G) (ha : 0 ≤ x1.toInt) (hb : x1.toInt ≤ 4000) : WP (cf_X10_behindSign fu x1 x2 F G) (fun r' F' G' => CI F' G' ∧ KB F G F' G' ∧ KT F F' ∧ KO F F' ∧ ((r'.toInt = -1 ∨ (0 ≤ r'.toInt ∧ r'.toInt ≤ 4010)))) := by
  unfold cf_X10_behindSign
  unfold cb_X10_behindSign_0
  have q_1 := i_rng ((x2.toUInt32 % 65536).toInt32)
  refine WP.bind (cs_J0_indexOf_0f7a4 hfu 3 ((x2.toUInt32 % 65536).toInt32) F G hI (by decide)) ?_
  rintro r2 _ _ ⟨rfl, rfl, hp2⟩
  dsimp only
  unfold cb_X10_behindSign_7
  have q_3 := i_rng x1
  have l_4 : (1 : Int32).toInt = 1 := rfl
  obtain ⟨k_5, e_6, e_7⟩ := i_add x1 (1 : Int32)
  refine WP.bind (cs_X9_at hfu (x1 + (1 : Int32)) F G hI) ?_
  rintro r8 _ _ ⟨rfl, rfl, hp8⟩
  dsimp only
  unfold cb_X10_behindSign_22
  refine WP.ite (fun c_9 => ?_) (fun c_9 => ?_)
  · skip
    have q_10 := i_rng r2
    have l_11 : (0 : Int32).toInt = 0 := rfl
    have e_12 := i_lt.mp (show r2 < (0 : Int32) from c_9)
    unfold cb_X10_behindSign_49
    refine WP.ret ?_
    have l_13 : (-1 : Int32).toInt = -1 := rfl
    exact ⟨hI, (KB.rf : KB F G F G), (rfl : KT F F), (rfl : KO F F), (show (-1 : Int32).toInt = -1 ∨ (0 ≤ (-1 : Int32).toInt ∧ (-1 : Int32).toInt ≤ 4010) by omega)⟩
  · skip
    have q_14 := i_rng r2
    have l_15 : (0 : Int32).toInt = 0 := rfl
    have e_16 := mt i_lt.mpr (show ¬ (r2 < (0 : Int32)) from c_9)
    unfold cb_X10_behindSign_28
    refine WP.ite (fun c_17 => ?_) (fun c_17 => ?_)
    · skip
      have l_18 : (23 : Int32).toInt = 23 := rfl
      have e_19 := i_le.mp (show (23 : Int32) ≤ r2 from c_17)
      unfold cb_X10_behindSign_49
      refine WP.ret ?_
      have l_20 : (-1 : Int32).toInt = -1 := rfl
      exact ⟨hI, (KB.rf : KB F G F G), (rfl : KT F F), (rfl : KO F F), (show (-1 : Int32).toInt = -1 ∨ (0 ≤ (-1 : Int32).toInt ∧ (-1 : Int32).toInt ≤ 4010) by omega)⟩
    · skip
      have l_21 : (23 : Int32).toInt = 23 := rfl
      have e_22 := mt i_le.mpr (show ¬ ((23 : Int32) ≤ r2) from c_17)
      unfold cb_X10_behindSign_36
      refine WP.ite (fun c_23 => ?_) (fun c_23 => ?_)
      · skip
        have q_24 := i_rng x2
        have l_25 : (47 : Int32).toInt = 47 := rfl
        have e_26 := i_eq.mp (show x2 = (47 : Int32) from c_23)
        unfold cb_X10_behindSign_42
        refine WP.ite (fun c_27 => ?_) (fun c_27 => ?_)
        · skip
          have q_28 := i_rng r8
          have l_29 : (42 : Int32).toInt = 42 := rfl
          have e_30 := i_eq.mp (show r8 = (42 : Int32) from c_27)
          unfold cb_X10_behindSign_49
          refine WP.ret ?_
          have l_31 : (-1 : Int32).toInt = -1 := rfl
          exact ⟨hI, (KB.rf : KB F G F G), (rfl : KT F F), (rfl : KO F F), (show (-1 : Int32).toInt = -1 ∨ (0 ≤ (-1 : Int32).toInt ∧ (-1 : Int32).toInt ≤ 4010) by omega)⟩
        · skip
          have q_32 := i_rng r8
          have l_33 : (42 : Int32).toInt = 42 := rfl
          have e_34 := mt i_eq.mpr (show ¬ (r8 = (42 : Int32)) from c_27)
          unfold cb_X10_behindSign_51
          refine WP.ix (show vp_in r2 23 from vp_in_iff.mpr ⟨by omega, by omega⟩) ?_
          refine WP.ite (fun c_35 => ?_) (fun c_35 => ?_)
          · skip
            have e_36 := i_eq.mp (show r8 = x2 from c_35)
            unfold cb_X10_behindSign_64
            refine WP.ix (show vp_in r2 23 from vp_in_iff.mpr ⟨by omega, by omega⟩) ?_
            refine WP.ite (fun c_37 => ?_) (fun c_37 => ?_)
            · skip
              have q_38 := i_rng (tb_3 r2.toNatClampNeg)
              have e_39 := i_eq.mp (show (tb_3 r2.toNatClampNeg) = (0 : Int32) from c_37)
              unfold cb_X10_behindSign_153
              refine WP.ite (fun c_40 => ?_) (fun c_40 => ?_)
              · skip
                have l_41 : (61 : Int32).toInt = 61 := rfl
                have e_42 := i_eq.mp (show r8 = (61 : Int32) from c_40)
                unfold cb_X10_behindSign_160
                refine WP.ix (show vp_in r2 23 from vp_in_iff.mpr ⟨by omega, by omega⟩) ?_
                refine WP.ite (fun c_43 => ?_) (fun c_43 => ?_)
                · skip
                  have q_44 := i_rng (tb_4 r2.toNatClampNeg)
                  have e_45 := i_eq.mp (show (tb_4 r2.toNatClampNeg) = (0 : Int32) from c_43)
                  unfold cb_X10_behindSign_178
                  have q_46 := i_rng (tb_2 r2.toNatClampNeg)
                  refine WP.bind (cs_X10_add hfu (tb_2 r2.toNatClampNeg) (0 : Int32) x1 F G hI) ?_
                  rintro r47 F47 G47 ⟨hI47, hB47, hT47, hO47, hp47⟩
                  dsimp only
                  have q_48 := hI.r 10 rfl
                  have q_49 := hI47.r 10 rfl
                  have e_50 : (F47 10).toInt = (F 10).toInt := hO47
                  unfold cb_X10_behindSign_186
                  refine WP.ret ?_
                  exact ⟨hI47, (KB.tr (KB.rf : KB F G F G) hB47), (KT.tr (rfl : KT F F) hT47), (KO.tr (rfl : KO F F) hO47), (show (x1 + (1 : Int32)).toInt = -1 ∨ (0 ≤ (x1 + (1 : Int32)).toInt ∧ (x1 + (1 : Int32)).toInt ≤ 4010) by omega)⟩
                · skip
                  have q_51 := i_rng (tb_4 r2.toNatClampNeg)
                  have e_52 := mt i_eq.mpr (show ¬ ((tb_4 r2.toNatClampNeg) = (0 : Int32)) from c_43)
                  unfold cb_X10_behindSign_168
                  refine WP.ix (show vp_in r2 23 from vp_in_iff.mpr ⟨by omega, by omega⟩) ?_
                  unfold cb_X10_behindSign_178
                  refine WP.bind (cs_X10_add hfu (tb_4 r2.toNatClampNeg) (0 : Int32) x1 F G hI) ?_
                  rintro r53 F53 G53 ⟨hI53, hB53, hT53, hO53, hp53⟩
                  dsimp only
                  have q_54 := hI.r 10 rfl
                  have q_55 := hI53.r 10 rfl
                  have e_56 : (F53 10).toInt = (F 10).toInt := hO53
                  unfold cb_X10_behindSign_186
                  refine WP.ret ?_
                  obtain ⟨k_57, e_58, e_59⟩ := i_add (x1 + (1 : Int32)) (1 : Int32)
                  exact ⟨hI53, (KB.tr (KB.rf : KB F G F G) hB53), (KT.tr (rfl : KT F F) hT53), (KO.tr (rfl : KO F F) hO53), (show ((x1 + (1 : Int32)) + (1 : Int32)).toInt = -1 ∨ (0 ≤ ((x1 + (1 : Int32)) + (1 : Int32)).toInt ∧ ((x1 + (1 : Int32)) + (1 : Int32)).toInt ≤ 4010) by omega)⟩
              · skip
                have l_60 : (61 : Int32).toInt = 61 := rfl
                have e_61 := mt i_eq.mpr (show ¬ (r8 = (61 : Int32)) from c_40)
                unfold cb_X10_behindSign_178
                have q_62 := i_rng (tb_2 r2.toNatClampNeg)
                refine WP.bind (cs_X10_add hfu (tb_2 r2.toNatClampNeg) (0 : Int32) x1 F G hI) ?_
                rintro r63 F63 G63 ⟨hI63, hB63, hT63, hO63, hp63⟩
                dsimp only
                have q_64 := hI.r 10 rfl
                have q_65 := hI63.r 10 rfl
                have e_66 : (F63 10).toInt = (F 10).toInt := hO63
                unfold cb_X10_behindSign_186
                refine WP.ret ?_
                exact ⟨hI63, (KB.tr (KB.rf : KB F G F G) hB63), (KT.tr (rfl : KT F F) hT63), (KO.tr (rfl : KO F F) hO63), (show (x1 + (1 : Int32)).toInt = -1 ∨ (0 ≤ (x1 + (1 : Int32)).toInt ∧ (x1 + (1 : Int32)).toInt ≤ 4010) by omega)⟩
            · skip
              have q_67 := i_rng (tb_3 r2.toNatClampNeg)
              have e_68 := mt i_eq.mpr (show ¬ ((tb_3 r2.toNatClampNeg) = (0 : Int32)) from c_37)
              unfold cb_X10_behindSign_72
              refine WP.ix (show vp_in r2 23 from vp_in_iff.mpr ⟨by omega, by omega⟩) ?_
              refine WP.ite (fun c_69 => ?_) (fun c_69 => ?_)
              · skip
                have l_70 : (55 : Int32).toInt = 55 := rfl
                have e_71 := i_eq.mp (show (tb_3 r2.toNatClampNeg) = (55 : Int32) from c_69)
                unfold cb_X10_behindSign_89
                obtain ⟨k_72, e_73, e_74⟩ := i_add (x1 + (1 : Int32)) (1 : Int32)
                refine WP.bind (cs_X9_at hfu ((x1 + (1 : Int32)) + (1 : Int32)) F G hI) ?_
                rintro r75 _ _ ⟨rfl, rfl, hp75⟩
                dsimp only
                unfold cb_X10_behindSign_98
                refine WP.ite (fun c_76 => ?_) (fun c_76 => ?_)
                · skip
                  have q_77 := i_rng r75
                  have e_78 := i_eq.mp (show r75 = x2 from c_76)
                  unfold cb_X10_behindSign_102
                  unfold cb_X10_behindSign_109
                  refine WP.ite (fun c_79 => absurd c_79 (by decide)) (fun _ => ?_)
                  unfold cb_X10_behindSign_116
                  refine WP.ite (fun c_80 => absurd c_80 (by decide)) (fun _ => ?_)
                  unfold cb_X10_behindSign_123
                  obtain ⟨k_81, e_82, e_83⟩ := i_add ((x1 + (1 : Int32)) + (1 : Int32)) (1 : Int32)
                  refine WP.bind (cs_X9_at hfu (((x1 + (1 : Int32)) + (1 : Int32)) + (1 : Int32)) F G hI) ?_
                  rintro r84 _ _ ⟨rfl, rfl, hp84⟩
                  dsimp only
                  unfold cb_X10_behindSign_132
                  refine WP.ite (fun c_85 => ?_) (fun c_85 => ?_)
                  · skip
                    have q_86 := i_rng r84
                    have l_87 : (61 : Int32).toInt = 61 := rfl
                    have e_88 := i_eq.mp (show r84 = (61 : Int32) from c_85)
                    unfold cb_X10_behindSign_137
                    unfold cb_X10_behindSign_178
                    have l_89 : (56 : Int32).toInt = 56 := rfl
                    have l_90 : (54 : Int32).toInt = 54 := rfl
                    obtain ⟨k_91, e_92, e_93⟩ := i_sub (56 : Int32) (54 : Int32)
                    have l_94 : (38 : Int32).toInt = 38 := rfl
                    obtain ⟨k_95, e_96, e_97⟩ := i_add ((56 : Int32) - (54 : Int32)) (38 : Int32)
                    refine WP.bind (cs_X10_add hfu (((56 : Int32) - (54 : Int32)) + (38 : Int32)) (0 : Int32) x1 F G hI) ?_
                    rintro r98 F98 G98 ⟨hI98, hB98, hT98, hO98, hp98⟩
                    dsimp only
                    have q_99 := hI.r 10 rfl
                    have q_100 := hI98.r 10 rfl
                    have e_101 : (F98 10).toInt = (F 10).toInt := hO98
                    unfold cb_X10_behindSign_186
                    refine WP.ret ?_
                    obtain ⟨k_102, e_103, e_104⟩ := i_add (((x1 + (1 : Int32)) + (1 : Int32)) + (1 : Int32)) (1 : Int32)
                    exact ⟨hI98, (KB.tr (KB.rf : KB F G F G) hB98), (KT.tr (rfl : KT F F) hT98), (KO.tr (rfl : KO F F) hO98), (show ((((x1 + (1 : Int32)) + (1 : Int32)) + (1 : Int32)) + (1 : Int32)).toInt = -1 ∨ (0 ≤ ((((x1 + (1 : Int32)) + (1 : Int32)) + (1 : Int32)) + (1 : Int32)).toInt ∧ ((((x1 + (1 : Int32)) + (1 : Int32)) + (1 : Int32)) + (1 : Int32)).toInt ≤ 4010) by omega)⟩
                  · skip
                    have q_105 := i_rng r84
                    have l_106 : (61 : Int32).toInt = 61 := rfl
                    have e_107 := mt i_eq.mpr (show ¬ (r84 = (61 : Int32)) from c_85)
                    unfold cb_X10_behindSign_178
                    have l_108 : (56 : Int32).toInt = 56 := rfl
                    refine WP.bind (cs_X10_add hfu (56 : Int32) (0 : Int32) x1 F G hI) ?_
                    rintro r109 F109 G109 ⟨hI109, hB109, hT109, hO109, hp109⟩
                    dsimp only
                    have q_110 := hI.r 10 rfl
                    have q_111 := hI109.r 10 rfl
                    have e_112 : (F109 10).toInt = (F 10).toInt := hO109
                    unfold cb_X10_behindSign_186
                    refine WP.ret ?_
                    exact ⟨hI109, (KB.tr (KB.rf : KB F G F G) hB109), (KT.tr (rfl : KT F F) hT109), (KO.tr (rfl : KO F F) hO109), (show (((x1 + (1 : Int32)) + (1 : Int32)) + (1 : Int32)).toInt = -1 ∨ (0 ≤ (((x1 + (1 : Int32)) + (1 : Int32)) + (1 : Int32)).toInt ∧ (((x1 + (1 : Int32)) + (1 : Int32)) + (1 : Int32)).toInt ≤ 4010) by omega)⟩
                · skip
                  have q_113 := i_rng r75
                  have e_114 := mt i_eq.mpr (show ¬ (r75 = x2) from c_76)
                  unfold cb_X10_behindSign_109
                  refine WP.ite (fun c_115 => ?_) (fun c_115 => ?_)
                  · skip
                    have l_116 : (54 : Int32).toInt = 54 := rfl
                    have e_117 := i_lt.mp (show (tb_3 r2.toNatClampNeg) < (54 : Int32) from c_115)
                    unfold cb_X10_behindSign_178
                    refine WP.bind (cs_X10_add hfu (tb_3 r2.toNatClampNeg) (0 : Int32) x1 F G hI) ?_
                    rintro r118 F118 G118 ⟨hI118, hB118, hT118, hO118, hp118⟩
                    dsimp only
                    have q_119 := hI.r 10 rfl
                    have q_120 := hI118.r 10 rfl
                    have e_121 : (F118 10).toInt = (F 10).toInt := hO118
                    unfold cb_X10_behindSign_186
                    refine WP.ret ?_
                    exact ⟨hI118, (KB.tr (KB.rf : KB F G F G) hB118), (KT.tr (rfl : KT F F) hT118), (KO.tr (rfl : KO F F) hO118), (show ((x1 + (1 : Int32)) + (1 : Int32)).toInt = -1 ∨ (0 ≤ ((x1 + (1 : Int32)) + (1 : Int32)).toInt ∧ ((x1 + (1 : Int32)) + (1 : Int32)).toInt ≤ 4010) by omega)⟩
                  · skip
                    have l_122 : (54 : Int32).toInt = 54 := rfl
                    have e_123 := mt i_lt.mpr (show ¬ ((tb_3 r2.toNatClampNeg) < (54 : Int32)) from c_115)
                    unfold cb_X10_behindSign_116
                    refine WP.ite (fun c_124 => ?_) (fun c_124 => ?_)
                    · skip
                      have l_125 : (56 : Int32).toInt = 56 := rfl
                      have e_126 := i_lt.mp (show (56 : Int32) < (tb_3 r2.toNatClampNeg) from c_124)
                      unfold cb_X10_behindSign_178
                      refine WP.bind (cs_X10_add hfu (tb_3 r2.toNatClampNeg) (0 : Int32) x1 F G hI) ?_
                      rintro r127 F127 G127 ⟨hI127, hB127, hT127, hO127, hp127⟩
                      dsimp only
                      have q_128 := hI.r 10 rfl
                      have q_129 := hI127.r 10 rfl
                      have e_130 : (F127 10).toInt = (F 10).toInt := hO127
                      unfold cb_X10_behindSign_186
                      refine WP.ret ?_
                      exact ⟨hI127, (KB.tr (KB.rf : KB F G F G) hB127), (KT.tr (rfl : KT F F) hT127), (KO.tr (rfl : KO F F) hO127), (show ((x1 + (1 : Int32)) + (1 : Int32)).toInt = -1 ∨ (0 ≤ ((x1 + (1 : Int32)) + (1 : Int32)).toInt ∧ ((x1 + (1 : Int32)) + (1 : Int32)).toInt ≤ 4010) by omega)⟩
                    · skip
                      have l_131 : (56 : Int32).toInt = 56 := rfl
                      have e_132 := mt i_lt.mpr (show ¬ ((56 : Int32) < (tb_3 r2.toNatClampNeg)) from c_124)
                      unfold cb_X10_behindSign_123
                      refine WP.bind (cs_X9_at hfu ((x1 + (1 : Int32)) + (1 : Int32)) F G hI) ?_
                      rintro r133 _ _ ⟨rfl, rfl, hp133⟩
                      dsimp only
                      unfold cb_X10_behindSign_132
                      refine WP.ite (fun c_134 => ?_) (fun c_134 => ?_)
                      · skip
                        have q_135 := i_rng r133
                        have l_136 : (61 : Int32).toInt = 61 := rfl
                        have e_137 := i_eq.mp (show r133 = (61 : Int32) from c_134)
                        unfold cb_X10_behindSign_137
                        unfold cb_X10_behindSign_178
                        obtain ⟨k_138, e_139, e_140⟩ := i_sub (tb_3 r2.toNatClampNeg) (54 : Int32)
                        have l_141 : (38 : Int32).toInt = 38 := rfl
                        obtain ⟨k_142, e_143, e_144⟩ := i_add ((tb_3 r2.toNatClampNeg) - (54 : Int32)) (38 : Int32)
                        refine WP.bind (cs_X10_add hfu (((tb_3 r2.toNatClampNeg) - (54 : Int32)) + (38 : Int32)) (0 : Int32) x1 F G hI) ?_
                        rintro r145 F145 G145 ⟨hI145, hB145, hT145, hO145, hp145⟩
                        dsimp only
                        have q_146 := hI.r 10 rfl
                        have q_147 := hI145.r 10 rfl
                        have e_148 : (F145 10).toInt = (F 10).toInt := hO145
                        unfold cb_X10_behindSign_186
                        refine WP.ret ?_
                        obtain ⟨k_149, e_150, e_151⟩ := i_add ((x1 + (1 : Int32)) + (1 : Int32)) (1 : Int32)
                        exact ⟨hI145, (KB.tr (KB.rf : KB F G F G) hB145), (KT.tr (rfl : KT F F) hT145), (KO.tr (rfl : KO F F) hO145), (show (((x1 + (1 : Int32)) + (1 : Int32)) + (1 : Int32)).toInt = -1 ∨ (0 ≤ (((x1 + (1 : Int32)) + (1 : Int32)) + (1 : Int32)).toInt ∧ (((x1 + (1 : Int32)) + (1 : Int32)) + (1 : Int32)).toInt ≤ 4010) by omega)⟩
                      · skip
                        have q_152 := i_rng r133
                        have l_153 : (61 : Int32).toInt = 61 := rfl
                        have e_154 := mt i_eq.mpr (show ¬ (r133 = (61 : Int32)) from c_134)
                        unfold cb_X10_behindSign_178
                        refine WP.bind (cs_X10_add hfu (tb_3 r2.toNatClampNeg) (0 : Int32) x1 F G hI) ?_
                        rintro r155 F155 G155 ⟨hI155, hB155, hT155, hO155, hp155⟩
                        dsimp only
                        have q_156 := hI.r 10 rfl
                        have q_157 := hI155.r 10 rfl
                        have e_158 : (F155 10).toInt = (F 10).toInt := hO155
                        unfold cb_X10_behindSign_186
                        refine WP.ret ?_
                        exact ⟨hI155, (KB.tr (KB.rf : KB F G F G) hB155), (KT.tr (rfl : KT F F) hT155), (KO.tr (rfl : KO F F) hO155), (show ((x1 + (1 : Int32)) + (1 : Int32)).toInt = -1 ∨ (0 ≤ ((x1 + (1 : Int32)) + (1 : Int32)).toInt ∧ ((x1 + (1 : Int32)) + (1 : Int32)).toInt ≤ 4010) by omega)⟩
              · skip
                have l_159 : (55 : Int32).toInt = 55 := rfl
                have e_160 := mt i_eq.mpr (show ¬ ((tb_3 r2.toNatClampNeg) = (55 : Int32)) from c_69)
                unfold cb_X10_behindSign_109
                refine WP.ite (fun c_161 => ?_) (fun c_161 => ?_)
                · skip
                  have l_162 : (54 : Int32).toInt = 54 := rfl
                  have e_163 := i_lt.mp (show (tb_3 r2.toNatClampNeg) < (54 : Int32) from c_161)
                  unfold cb_X10_behindSign_178
                  refine WP.bind (cs_X10_add hfu (tb_3 r2.toNatClampNeg) (0 : Int32) x1 F G hI) ?_
                  rintro r164 F164 G164 ⟨hI164, hB164, hT164, hO164, hp164⟩
                  dsimp only
                  have q_165 := hI.r 10 rfl
                  have q_166 := hI164.r 10 rfl
                  have e_167 : (F164 10).toInt = (F 10).toInt := hO164
                  unfold cb_X10_behindSign_186
                  refine WP.ret ?_
                  obtain ⟨k_168, e_169, e_170⟩ := i_add (x1 + (1 : Int32)) (1 : Int32)
                  exact ⟨hI164, (KB.tr (KB.rf : KB F G F G) hB164), (KT.tr (rfl : KT F F) hT164), (KO.tr (rfl : KO F F) hO164), (show ((x1 + (1 : Int32)) + (1 : Int32)).toInt = -1 ∨ (0 ≤ ((x1 + (1 : Int32)) + (1 : Int32)).toInt ∧ ((x1 + (1 : Int32)) + (1 : Int32)).toInt ≤ 4010) by omega)⟩
                · skip
                  have l_171 : (54 : Int32).toInt = 54 := rfl
                  have e_172 := mt i_lt.mpr (show ¬ ((tb_3 r2.toNatClampNeg) < (54 : Int32)) from c_161)
                  unfold cb_X10_behindSign_116
                  refine WP.ite (fun c_173 => ?_) (fun c_173 => ?_)
                  · skip
                    have l_174 : (56 : Int32).toInt = 56 := rfl
                    have e_175 := i_lt.mp (show (56 : Int32) < (tb_3 r2.toNatClampNeg) from c_173)
                    unfold cb_X10_behindSign_178
                    refine WP.bind (cs_X10_add hfu (tb_3 r2.toNatClampNeg) (0 : Int32) x1 F G hI) ?_
                    rintro r176 F176 G176 ⟨hI176, hB176, hT176, hO176, hp176⟩
                    dsimp only
                    have q_177 := hI.r 10 rfl
                    have q_178 := hI176.r 10 rfl
                    have e_179 : (F176 10).toInt = (F 10).toInt := hO176
                    unfold cb_X10_behindSign_186
                    refine WP.ret ?_
                    obtain ⟨k_180, e_181, e_182⟩ := i_add (x1 + (1 : Int32)) (1 : Int32)
                    exact ⟨hI176, (KB.tr (KB.rf : KB F G F G) hB176), (KT.tr (rfl : KT F F) hT176), (KO.tr (rfl : KO F F) hO176), (show ((x1 + (1 : Int32)) + (1 : Int32)).toInt = -1 ∨ (0 ≤ ((x1 + (1 : Int32)) + (1 : Int32)).toInt ∧ ((x1 + (1 : Int32)) + (1 : Int32)).toInt ≤ 4010) by omega)⟩
                  · skip
                    have l_183 : (56 : Int32).toInt = 56 := rfl
                    have e_184 := mt i_lt.mpr (show ¬ ((56 : Int32) < (tb_3 r2.toNatClampNeg)) from c_173)
                    unfold cb_X10_behindSign_123
                    obtain ⟨k_185, e_186, e_187⟩ := i_add (x1 + (1 : Int32)) (1 : Int32)
                    refine WP.bind (cs_X9_at hfu ((x1 + (1 : Int32)) + (1 : Int32)) F G hI) ?_
                    rintro r188 _ _ ⟨rfl, rfl, hp188⟩
                    dsimp only
                    unfold cb_X10_behindSign_132
                    refine WP.ite (fun c_189 => ?_) (fun c_189 => ?_)
                    · skip
                      have q_190 := i_rng r188
                      have l_191 : (61 : Int32).toInt = 61 := rfl
                      have e_192 := i_eq.mp (show r188 = (61 : Int32) from c_189)
                      unfold cb_X10_behindSign_137
                      unfold cb_X10_behindSign_178
                      obtain ⟨k_193, e_194, e_195⟩ := i_sub (tb_3 r2.toNatClampNeg) (54 : Int32)
                      have l_196 : (38 : Int32).toInt = 38 := rfl
                      obtain ⟨k_197, e_198, e_199⟩ := i_add ((tb_3 r2.toNatClampNeg) - (54 : Int32)) (38 : Int32)
                      refine WP.bind (cs_X10_add hfu (((tb_3 r2.toNatClampNeg) - (54 : Int32)) + (38 : Int32)) (0 : Int32) x1 F G hI) ?_
                      rintro r200 F200 G200 ⟨hI200, hB200, hT200, hO200, hp200⟩
                      dsimp only
                      have q_201 := hI.r 10 rfl
                      have q_202 := hI200.r 10 rfl
                      have e_203 : (F200 10).toInt = (F 10).toInt := hO200
                      unfold cb_X10_behindSign_186
                      refine WP.ret ?_
                      obtain ⟨k_204, e_205, e_206⟩ := i_add ((x1 + (1 : Int32)) + (1 : Int32)) (1 : Int32)
                      exact ⟨hI200, (KB.tr (KB.rf : KB F G F G) hB200), (KT.tr (rfl : KT F F) hT200), (KO.tr (rfl : KO F F) hO200), (show (((x1 + (1 : Int32)) + (1 : Int32)) + (1 : Int32)).toInt = -1 ∨ (0 ≤ (((x1 + (1 : Int32)) + (1 : Int32)) + (1 : Int32)).toInt ∧ (((x1 + (1 : Int32)) + (1 : Int32)) + (1 : Int32)).toInt ≤ 4010) by omega)⟩
                    · skip
                      have q_207 := i_rng r188
                      have l_208 : (61 : Int32).toInt = 61 := rfl
                      have e_209 := mt i_eq.mpr (show ¬ (r188 = (61 : Int32)) from c_189)
                      unfold cb_X10_behindSign_178
                      refine WP.bind (cs_X10_add hfu (tb_3 r2.toNatClampNeg) (0 : Int32) x1 F G hI) ?_
                      rintro r210 F210 G210 ⟨hI210, hB210, hT210, hO210, hp210⟩
                      dsimp only
                      have q_211 := hI.r 10 rfl
                      have q_212 := hI210.r 10 rfl
                      have e_213 : (F210 10).toInt = (F 10).toInt := hO210
                      unfold cb_X10_behindSign_186
                      refine WP.ret ?_
                      exact ⟨hI210, (KB.tr (KB.rf : KB F G F G) hB210), (KT.tr (rfl : KT F F) hT210), (KO.tr (rfl : KO F F) hO210), (show ((x1 + (1 : Int32)) + (1 : Int32)).toInt = -1 ∨ (0 ≤ ((x1 + (1 : Int32)) + (1 : Int32)).toInt ∧ ((x1 + (1 : Int32)) + (1 : Int32)).toInt ≤ 4010) by omega)⟩
          · skip
            have e_214 := mt i_eq.mpr (show ¬ (r8 = x2) from c_35)
            unfold cb_X10_behindSign_153
            refine WP.ite (fun c_215 => ?_) (fun c_215 => ?_)
            · skip
              have l_216 : (61 : Int32).toInt = 61 := rfl
              have e_217 := i_eq.mp (show r8 = (61 : Int32) from c_215)
              unfold cb_X10_behindSign_160
              refine WP.ix (show vp_in r2 23 from vp_in_iff.mpr ⟨by omega, by omega⟩) ?_
              refine WP.ite (fun c_218 => ?_) (fun c_218 => ?_)
              · skip
                have q_219 := i_rng (tb_4 r2.toNatClampNeg)
                have e_220 := i_eq.mp (show (tb_4 r2.toNatClampNeg) = (0 : Int32) from c_218)
                unfold cb_X10_behindSign_178
                have q_221 := i_rng (tb_2 r2.toNatClampNeg)
                refine WP.bind (cs_X10_add hfu (tb_2 r2.toNatClampNeg) (0 : Int32) x1 F G hI) ?_
                rintro r222 F222 G222 ⟨hI222, hB222, hT222, hO222, hp222⟩
                dsimp only
                have q_223 := hI.r 10 rfl
                have q_224 := hI222.r 10 rfl
                have e_225 : (F222 10).toInt = (F 10).toInt := hO222
                unfold cb_X10_behindSign_186
                refine WP.ret ?_
                exact ⟨hI222, (KB.tr (KB.rf : KB F G F G) hB222), (KT.tr (rfl : KT F F) hT222), (KO.tr (rfl : KO F F) hO222), (show (x1 + (1 : Int32)).toInt = -1 ∨ (0 ≤ (x1 + (1 : Int32)).toInt ∧ (x1 + (1 : Int32)).toInt ≤ 4010) by omega)⟩
              · skip
                have q_226 := i_rng (tb_4 r2.toNatClampNeg)
                have e_227 := mt i_eq.mpr (show ¬ ((tb_4 r2.toNatClampNeg) = (0 : Int32)) from c_218)
                unfold cb_X10_behindSign_168
                refine WP.ix (show vp_in r2 23 from vp_in_iff.mpr ⟨by omega, by omega⟩) ?_
                unfold cb_X10_behindSign_178
                refine WP.bind (cs_X10_add hfu (tb_4 r2.toNatClampNeg) (0 : Int32) x1 F G hI) ?_
                rintro r228 F228 G228 ⟨hI228, hB228, hT228, hO228, hp228⟩
                dsimp only
                have q_229 := hI.r 10 rfl
                have q_230 := hI228.r 10 rfl
                have e_231 : (F228 10).toInt = (F 10).toInt := hO228
                unfold cb_X10_behindSign_186
                refine WP.ret ?_
                obtain ⟨k_232, e_233, e_234⟩ := i_add (x1 + (1 : Int32)) (1 : Int32)
                exact ⟨hI228, (KB.tr (KB.rf : KB F G F G) hB228), (KT.tr (rfl : KT F F) hT228), (KO.tr (rfl : KO F F) hO228), (show ((x1 + (1 : Int32)) + (1 : Int32)).toInt = -1 ∨ (0 ≤ ((x1 + (1 : Int32)) + (1 : Int32)).toInt ∧ ((x1 + (1 : Int32)) + (1 : Int32)).toInt ≤ 4010) by omega)⟩
            · skip
              have l_235 : (61 : Int32).toInt = 61 := rfl
              have e_236 := mt i_eq.mpr (show ¬ (r8 = (61 : Int32)) from c_215)
              unfold cb_X10_behindSign_178
              have q_237 := i_rng (tb_2 r2.toNatClampNeg)
              refine WP.bind (cs_X10_add hfu (tb_2 r2.toNatClampNeg) (0 : Int32) x1 F G hI) ?_
              rintro r238 F238 G238 ⟨hI238, hB238, hT238, hO238, hp238⟩
              dsimp only
              have q_239 := hI.r 10 rfl
              have q_240 := hI238.r 10 rfl
              have e_241 : (F238 10).toInt = (F 10).toInt := hO238
              unfold cb_X10_behindSign_186
              refine WP.ret ?_
              exact ⟨hI238, (KB.tr (KB.rf : KB F G F G) hB238), (KT.tr (rfl : KT F F) hT238), (KO.tr (rfl : KO F F) hO238), (show (x1 + (1 : Int32)).toInt = -1 ∨ (0 ≤ (x1 + (1 : Int32)).toInt ∧ (x1 + (1 : Int32)).toInt ≤ 4010) by omega)⟩
      · skip
        have q_242 := i_rng x2
        have l_243 : (47 : Int32).toInt = 47 := rfl
        have e_244 := mt i_eq.mpr (show ¬ (x2 = (47 : Int32)) from c_23)
        unfold cb_X10_behindSign_51
        refine WP.ix (show vp_in r2 23 from vp_in_iff.mpr ⟨by omega, by omega⟩) ?_
        refine WP.ite (fun c_245 => ?_) (fun c_245 => ?_)
        · skip
          have q_246 := i_rng r8
          have e_247 := i_eq.mp (show r8 = x2 from c_245)
          unfold cb_X10_behindSign_64
          refine WP.ix (show vp_in r2 23 from vp_in_iff.mpr ⟨by omega, by omega⟩) ?_
          refine WP.ite (fun c_248 => ?_) (fun c_248 => ?_)
          · skip
            have q_249 := i_rng (tb_3 r2.toNatClampNeg)
            have e_250 := i_eq.mp (show (tb_3 r2.toNatClampNeg) = (0 : Int32) from c_248)
            unfold cb_X10_behindSign_153
            refine WP.ite (fun c_251 => ?_) (fun c_251 => ?_)
            · skip
              have l_252 : (61 : Int32).toInt = 61 := rfl
              have e_253 := i_eq.mp (show r8 = (61 : Int32) from c_251)
              unfold cb_X10_behindSign_160
              refine WP.ix (show vp_in r2 23 from vp_in_iff.mpr ⟨by omega, by omega⟩) ?_
              refine WP.ite (fun c_254 => ?_) (fun c_254 => ?_)
              · skip
                have q_255 := i_rng (tb_4 r2.toNatClampNeg)
                have e_256 := i_eq.mp (show (tb_4 r2.toNatClampNeg) = (0 : Int32) from c_254)
                unfold cb_X10_behindSign_178
                have q_257 := i_rng (tb_2 r2.toNatClampNeg)
                refine WP.bind (cs_X10_add hfu (tb_2 r2.toNatClampNeg) (0 : Int32) x1 F G hI) ?_
                rintro r258 F258 G258 ⟨hI258, hB258, hT258, hO258, hp258⟩
                dsimp only
                have q_259 := hI.r 10 rfl
                have q_260 := hI258.r 10 rfl
                have e_261 : (F258 10).toInt = (F 10).toInt := hO258
                unfold cb_X10_behindSign_186
                refine WP.ret ?_
                exact ⟨hI258, (KB.tr (KB.rf : KB F G F G) hB258), (KT.tr (rfl : KT F F) hT258), (KO.tr (rfl : KO F F) hO258), (show (x1 + (1 : Int32)).toInt = -1 ∨ (0 ≤ (x1 + (1 : Int32)).toInt ∧ (x1 + (1 : Int32)).toInt ≤ 4010) by omega)⟩
              · skip
                have q_262 := i_rng (tb_4 r2.toNatClampNeg)
                have e_263 := mt i_eq.mpr (show ¬ ((tb_4 r2.toNatClampNeg) = (0 : Int32)) from c_254)
                unfold cb_X10_behindSign_168
                refine WP.ix (show vp_in r2 23 from vp_in_iff.mpr ⟨by omega, by omega⟩) ?_
                unfold cb_X10_behindSign_178
                refine WP.bind (cs_X10_add hfu (tb_4 r2.toNatClampNeg) (0 : Int32) x1 F G hI) ?_
                rintro r264 F264 G264 ⟨hI264, hB264, hT264, hO264, hp264⟩
                dsimp only
                have q_265 := hI.r 10 rfl
                have q_266 := hI264.r 10 rfl
                have e_267 : (F264 10).toInt = (F 10).toInt := hO264
                unfold cb_X10_behindSign_186
                refine WP.ret ?_
                obtain ⟨k_268, e_269, e_270⟩ := i_add (x1 + (1 : Int32)) (1 : Int32)
                exact ⟨hI264, (KB.tr (KB.rf : KB F G F G) hB264), (KT.tr (rfl : KT F F) hT264), (KO.tr (rfl : KO F F) hO264), (show ((x1 + (1 : Int32)) + (1 : Int32)).toInt = -1 ∨ (0 ≤ ((x1 + (1 : Int32)) + (1 : Int32)).toInt ∧ ((x1 + (1 : Int32)) + (1 : Int32)).toInt ≤ 4010) by omega)⟩
            · skip
              have l_271 : (61 : Int32).toInt = 61 := rfl
              have e_272 := mt i_eq.mpr (show ¬ (r8 = (61 : Int32)) from c_251)
              unfold cb_X10_behindSign_178
              have q_273 := i_rng (tb_2 r2.toNatClampNeg)
              refine WP.bind (cs_X10_add hfu (tb_2 r2.toNatClampNeg) (0 : Int32) x1 F G hI) ?_
              rintro r274 F274 G274 ⟨hI274, hB274, hT274, hO274, hp274⟩
              dsimp only
              have q_275 := hI.r 10 rfl
              have q_276 := hI274.r 10 rfl
              have e_277 : (F274 10).toInt = (F 10).toInt := hO274
              unfold cb_X10_behindSign_186
              refine WP.ret ?_
              exact ⟨hI274, (KB.tr (KB.rf : KB F G F G) hB274), (KT.tr (rfl : KT F F) hT274), (KO.tr (rfl : KO F F) hO274), (show (x1 + (1 : Int32)).toInt = -1 ∨ (0 ≤ (x1 + (1 : Int32)).toInt ∧ (x1 + (1 : Int32)).toInt ≤ 4010) by omega)⟩
          · skip
            have q_278 := i_rng (tb_3 r2.toNatClampNeg)
            have e_279 := mt i_eq.mpr (show ¬ ((tb_3 r2.toNatClampNeg) = (0 : Int32)) from c_248)
            unfold cb_X10_behindSign_72
            refine WP.ix (show vp_in r2 23 from vp_in_iff.mpr ⟨by omega, by omega⟩) ?_
            refine WP.ite (fun c_280 => ?_) (fun c_280 => ?_)
            · skip
              have l_281 : (55 : Int32).toInt = 55 := rfl
              have e_282 := i_eq.mp (show (tb_3 r2.toNatClampNeg) = (55 : Int32) from c_280)
              unfold cb_X10_behindSign_89
              obtain ⟨k_283, e_284, e_285⟩ := i_add (x1 + (1 : Int32)) (1 : Int32)
              refine WP.bind (cs_X9_at hfu ((x1 + (1 : Int32)) + (1 : Int32)) F G hI) ?_
              rintro r286 _ _ ⟨rfl, rfl, hp286⟩
              dsimp only
              unfold cb_X10_behindSign_98
              refine WP.ite (fun c_287 => ?_) (fun c_287 => ?_)
              · skip
                have q_288 := i_rng r286
                have e_289 := i_eq.mp (show r286 = x2 from c_287)
                unfold cb_X10_behindSign_102
                unfold cb_X10_behindSign_109
                refine WP.ite (fun c_290 => absurd c_290 (by decide)) (fun _ => ?_)
                unfold cb_X10_behindSign_116
                refine WP.ite (fun c_291 => absurd c_291 (by decide)) (fun _ => ?_)
                unfold cb_X10_behindSign_123
                obtain ⟨k_292, e_293, e_294⟩ := i_add ((x1 + (1 : Int32)) + (1 : Int32)) (1 : Int32)
                refine WP.bind (cs_X9_at hfu (((x1 + (1 : Int32)) + (1 : Int32)) + (1 : Int32)) F G hI) ?_
                rintro r295 _ _ ⟨rfl, rfl, hp295⟩
                dsimp only
                unfold cb_X10_behindSign_132
                refine WP.ite (fun c_296 => ?_) (fun c_296 => ?_)
                · skip
                  have q_297 := i_rng r295
                  have l_298 : (61 : Int32).toInt = 61 := rfl
                  have e_299 := i_eq.mp (show r295 = (61 : Int32) from c_296)
                  unfold cb_X10_behindSign_137
                  unfold cb_X10_behindSign_178
                  have l_300 : (56 : Int32).toInt = 56 := rfl
                  have l_301 : (54 : Int32).toInt = 54 := rfl
                  obtain ⟨k_302, e_303, e_304⟩ := i_sub (56 : Int32) (54 : Int32)
                  have l_305 : (38 : Int32).toInt = 38 := rfl
                  obtain ⟨k_306, e_307, e_308⟩ := i_add ((56 : Int32) - (54 : Int32)) (38 : Int32)
                  refine WP.bind (cs_X10_add hfu (((56 : Int32) - (54 : Int32)) + (38 : Int32)) (0 : Int32) x1 F G hI) ?_
                  rintro r309 F309 G309 ⟨hI309, hB309, hT309, hO309, hp309⟩
                  dsimp only
                  have q_310 := hI.r 10 rfl
                  have q_311 := hI309.r 10 rfl
                  have e_312 : (F309 10).toInt = (F 10).toInt := hO309
                  unfold cb_X10_behindSign_186
                  refine WP.ret ?_
                  obtain ⟨k_313, e_314, e_315⟩ := i_add (((x1 + (1 : Int32)) + (1 : Int32)) + (1 : Int32)) (1 : Int32)
                  exact ⟨hI309, (KB.tr (KB.rf : KB F G F G) hB309), (KT.tr (rfl : KT F F) hT309), (KO.tr (rfl : KO F F) hO309), (show ((((x1 + (1 : Int32)) + (1 : Int32)) + (1 : Int32)) + (1 : Int32)).toInt = -1 ∨ (0 ≤ ((((x1 + (1 : Int32)) + (1 : Int32)) + (1 : Int32)) + (1 : Int32)).toInt ∧ ((((x1 + (1 : Int32)) + (1 : Int32)) + (1 : Int32)) + (1 : Int32)).toInt ≤ 4010) by omega)⟩
                · skip
                  have q_316 := i_rng r295
                  have l_317 : (61 : Int32).toInt = 61 := rfl
                  have e_318 := mt i_eq.mpr (show ¬ (r295 = (61 : Int32)) from c_296)
                  unfold cb_X10_behindSign_178
                  have l_319 : (56 : Int32).toInt = 56 := rfl
                  refine WP.bind (cs_X10_add hfu (56 : Int32) (0 : Int32) x1 F G hI) ?_
                  rintro r320 F320 G320 ⟨hI320, hB320, hT320, hO320, hp320⟩
                  dsimp only
                  have q_321 := hI.r 10 rfl
                  have q_322 := hI320.r 10 rfl
                  have e_323 : (F320 10).toInt = (F 10).toInt := hO320
                  unfold cb_X10_behindSign_186
                  refine WP.ret ?_
                  exact ⟨hI320, (KB.tr (KB.rf : KB F G F G) hB320), (KT.tr (rfl : KT F F) hT320), (KO.tr (rfl : KO F F) hO320), (show (((x1 + (1 : Int32)) + (1 : Int32)) + (1 : Int32)).toInt = -1 ∨ (0 ≤ (((x1 + (1 : Int32)) + (1 : Int32)) + (1 : Int32)).toInt ∧ (((x1 + (1 : Int32)) + (1 : Int32)) + (1 : Int32)).toInt ≤ 4010) by omega)⟩
              · skip
                have q_324 := i_rng r286
                have e_325 := mt i_eq.mpr (show ¬ (r286 = x2) from c_287)
                unfold cb_X10_behindSign_109
                refine WP.ite (fun c_326 => ?_) (fun c_326 => ?_)
                · skip
                  have l_327 : (54 : Int32).toInt = 54 := rfl
                  have e_328 := i_lt.mp (show (tb_3 r2.toNatClampNeg) < (54 : Int32) from c_326)
                  unfold cb_X10_behindSign_178
                  refine WP.bind (cs_X10_add hfu (tb_3 r2.toNatClampNeg) (0 : Int32) x1 F G hI) ?_
                  rintro r329 F329 G329 ⟨hI329, hB329, hT329, hO329, hp329⟩
                  dsimp only
                  have q_330 := hI.r 10 rfl
                  have q_331 := hI329.r 10 rfl
                  have e_332 : (F329 10).toInt = (F 10).toInt := hO329
                  unfold cb_X10_behindSign_186
                  refine WP.ret ?_
                  exact ⟨hI329, (KB.tr (KB.rf : KB F G F G) hB329), (KT.tr (rfl : KT F F) hT329), (KO.tr (rfl : KO F F) hO329), (show ((x1 + (1 : Int32)) + (1 : Int32)).toInt = -1 ∨ (0 ≤ ((x1 + (1 : Int32)) + (1 : Int32)).toInt ∧ ((x1 + (1 : Int32)) + (1 : Int32)).toInt ≤ 4010) by omega)⟩
                · skip
                  have l_333 : (54 : Int32).toInt = 54 := rfl
                  have e_334 := mt i_lt.mpr (show ¬ ((tb_3 r2.toNatClampNeg) < (54 : Int32)) from c_326)
                  unfold cb_X10_behindSign_116
                  refine WP.ite (fun c_335 => ?_) (fun c_335 => ?_)
                  · skip
                    have l_336 : (56 : Int32).toInt = 56 := rfl
                    have e_337 := i_lt.mp (show (56 : Int32) < (tb_3 r2.toNatClampNeg) from c_335)
                    unfold cb_X10_behindSign_178
                    refine WP.bind (cs_X10_add hfu (tb_3 r2.toNatClampNeg) (0 : Int32) x1 F G hI) ?_
                    rintro r338 F338 G338 ⟨hI338, hB338, hT338, hO338, hp338⟩
                    dsimp only
                    have q_339 := hI.r 10 rfl
                    have q_340 := hI338.r 10 rfl
                    have e_341 : (F338 10).toInt = (F 10).toInt := hO338
                    unfold cb_X10_behindSign_186
                    refine WP.ret ?_
                    exact ⟨hI338, (KB.tr (KB.rf : KB F G F G) hB338), (KT.tr (rfl : KT F F) hT338), (KO.tr (rfl : KO F F) hO338), (show ((x1 + (1 : Int32)) + (1 : Int32)).toInt = -1 ∨ (0 ≤ ((x1 + (1 : Int32)) + (1 : Int32)).toInt ∧ ((x1 + (1 : Int32)) + (1 : Int32)).toInt ≤ 4010) by omega)⟩
                  · skip
                    have l_342 : (56 : Int32).toInt = 56 := rfl
                    have e_343 := mt i_lt.mpr (show ¬ ((56 : Int32) < (tb_3 r2.toNatClampNeg)) from c_335)
                    unfold cb_X10_behindSign_123
                    refine WP.bind (cs_X9_at hfu ((x1 + (1 : Int32)) + (1 : Int32)) F G hI) ?_
                    rintro r344 _ _ ⟨rfl, rfl, hp344⟩
                    dsimp only
                    unfold cb_X10_behindSign_132
                    refine WP.ite (fun c_345 => ?_) (fun c_345 => ?_)
                    · skip
                      have q_346 := i_rng r344
                      have l_347 : (61 : Int32).toInt = 61 := rfl
                      have e_348 := i_eq.mp (show r344 = (61 : Int32) from c_345)
                      unfold cb_X10_behindSign_137
                      unfold cb_X10_behindSign_178
                      obtain ⟨k_349, e_350, e_351⟩ := i_sub (tb_3 r2.toNatClampNeg) (54 : Int32)
                      have l_352 : (38 : Int32).toInt = 38 := rfl
                      obtain ⟨k_353, e_354, e_355⟩ := i_add ((tb_3 r2.toNatClampNeg) - (54 : Int32)) (38 : Int32)
                      refine WP.bind (cs_X10_add hfu (((tb_3 r2.toNatClampNeg) - (54 : Int32)) + (38 : Int32)) (0 : Int32) x1 F G hI) ?_
                      rintro r356 F356 G356 ⟨hI356, hB356, hT356, hO356, hp356⟩
                      dsimp only
                      have q_357 := hI.r 10 rfl
                      have q_358 := hI356.r 10 rfl
                      have e_359 : (F356 10).toInt = (F 10).toInt := hO356
                      unfold cb_X10_behindSign_186
                      refine WP.ret ?_
                      obtain ⟨k_360, e_361, e_362⟩ := i_add ((x1 + (1 : Int32)) + (1 : Int32)) (1 : Int32)
                      exact ⟨hI356, (KB.tr (KB.rf : KB F G F G) hB356), (KT.tr (rfl : KT F F) hT356), (KO.tr (rfl : KO F F) hO356), (show (((x1 + (1 : Int32)) + (1 : Int32)) + (1 : Int32)).toInt = -1 ∨ (0 ≤ (((x1 + (1 : Int32)) + (1 : Int32)) + (1 : Int32)).toInt ∧ (((x1 + (1 : Int32)) + (1 : Int32)) + (1 : Int32)).toInt ≤ 4010) by omega)⟩
                    · skip
                      have q_363 := i_rng r344
                      have l_364 : (61 : Int32).toInt = 61 := rfl
                      have e_365 := mt i_eq.mpr (show ¬ (r344 = (61 : Int32)) from c_345)
                      unfold cb_X10_behindSign_178
                      refine WP.bind (cs_X10_add hfu (tb_3 r2.toNatClampNeg) (0 : Int32) x1 F G hI) ?_
                      rintro r366 F366 G366 ⟨hI366, hB366, hT366, hO366, hp366⟩
                      dsimp only
                      have q_367 := hI.r 10 rfl
                      have q_368 := hI366.r 10 rfl
                      have e_369 : (F366 10).toInt = (F 10).toInt := hO366
                      unfold cb_X10_behindSign_186
                      refine WP.ret ?_
                      exact ⟨hI366, (KB.tr (KB.rf : KB F G F G) hB366), (KT.tr (rfl : KT F F) hT366), (KO.tr (rfl : KO F F) hO366), (show ((x1 + (1 : Int32)) + (1 : Int32)).toInt = -1 ∨ (0 ≤ ((x1 + (1 : Int32)) + (1 : Int32)).toInt ∧ ((x1 + (1 : Int32)) + (1 : Int32)).toInt ≤ 4010) by omega)⟩
            · skip
              have l_370 : (55 : Int32).toInt = 55 := rfl
              have e_371 := mt i_eq.mpr (show ¬ ((tb_3 r2.toNatClampNeg) = (55 : Int32)) from c_280)
              unfold cb_X10_behindSign_109
              refine WP.ite (fun c_372 => ?_) (fun c_372 => ?_)
              · skip
                have l_373 : (54 : Int32).toInt = 54 := rfl
                have e_374 := i_lt.mp (show (tb_3 r2.toNatClampNeg) < (54 : Int32) from c_372)
                unfold cb_X10_behindSign_178
                refine WP.bind (cs_X10_add hfu (tb_3 r2.toNatClampNeg) (0 : Int32) x1 F G hI) ?_
                rintro r375 F375 G375 ⟨hI375, hB375, hT375, hO375, hp375⟩
                dsimp only
                have q_376 := hI.r 10 rfl
                have q_377 := hI375.r 10 rfl
                have e_378 : (F375 10).toInt = (F 10).toInt := hO375
                unfold cb_X10_behindSign_186
                refine WP.ret ?_
                obtain ⟨k_379, e_380, e_381⟩ := i_add (x1 + (1 : Int32)) (1 : Int32)
                exact ⟨hI375, (KB.tr (KB.rf : KB F G F G) hB375), (KT.tr (rfl : KT F F) hT375), (KO.tr (rfl : KO F F) hO375), (show ((x1 + (1 : Int32)) + (1 : Int32)).toInt = -1 ∨ (0 ≤ ((x1 + (1 : Int32)) + (1 : Int32)).toInt ∧ ((x1 + (1 : Int32)) + (1 : Int32)).toInt ≤ 4010) by omega)⟩
              · skip
                have l_382 : (54 : Int32).toInt = 54 := rfl
                have e_383 := mt i_lt.mpr (show ¬ ((tb_3 r2.toNatClampNeg) < (54 : Int32)) from c_372)
                unfold cb_X10_behindSign_116
                refine WP.ite (fun c_384 => ?_) (fun c_384 => ?_)
                · skip
                  have l_385 : (56 : Int32).toInt = 56 := rfl
                  have e_386 := i_lt.mp (show (56 : Int32) < (tb_3 r2.toNatClampNeg) from c_384)
                  unfold cb_X10_behindSign_178
                  refine WP.bind (cs_X10_add hfu (tb_3 r2.toNatClampNeg) (0 : Int32) x1 F G hI) ?_
                  rintro r387 F387 G387 ⟨hI387, hB387, hT387, hO387, hp387⟩
                  dsimp only
                  have q_388 := hI.r 10 rfl
                  have q_389 := hI387.r 10 rfl
                  have e_390 : (F387 10).toInt = (F 10).toInt := hO387
                  unfold cb_X10_behindSign_186
                  refine WP.ret ?_
                  obtain ⟨k_391, e_392, e_393⟩ := i_add (x1 + (1 : Int32)) (1 : Int32)
                  exact ⟨hI387, (KB.tr (KB.rf : KB F G F G) hB387), (KT.tr (rfl : KT F F) hT387), (KO.tr (rfl : KO F F) hO387), (show ((x1 + (1 : Int32)) + (1 : Int32)).toInt = -1 ∨ (0 ≤ ((x1 + (1 : Int32)) + (1 : Int32)).toInt ∧ ((x1 + (1 : Int32)) + (1 : Int32)).toInt ≤ 4010) by omega)⟩
                · skip
                  have l_394 : (56 : Int32).toInt = 56 := rfl
                  have e_395 := mt i_lt.mpr (show ¬ ((56 : Int32) < (tb_3 r2.toNatClampNeg)) from c_384)
                  unfold cb_X10_behindSign_123
                  obtain ⟨k_396, e_397, e_398⟩ := i_add (x1 + (1 : Int32)) (1 : Int32)
                  refine WP.bind (cs_X9_at hfu ((x1 + (1 : Int32)) + (1 : Int32)) F G hI) ?_
                  rintro r399 _ _ ⟨rfl, rfl, hp399⟩
                  dsimp only
                  unfold cb_X10_behindSign_132
                  refine WP.ite (fun c_400 => ?_) (fun c_400 => ?_)
                  · skip
                    have q_401 := i_rng r399
                    have l_402 : (61 : Int32).toInt = 61 := rfl
                    have e_403 := i_eq.mp (show r399 = (61 : Int32) from c_400)
                    unfold cb_X10_behindSign_137
                    unfold cb_X10_behindSign_178
                    obtain ⟨k_404, e_405, e_406⟩ := i_sub (tb_3 r2.toNatClampNeg) (54 : Int32)
                    have l_407 : (38 : Int32).toInt = 38 := rfl
                    obtain ⟨k_408, e_409, e_410⟩ := i_add ((tb_3 r2.toNatClampNeg) - (54 : Int32)) (38 : Int32)
                    refine WP.bind (cs_X10_add hfu (((tb_3 r2.toNatClampNeg) - (54 : Int32)) + (38 : Int32)) (0 : Int32) x1 F G hI) ?_
                    rintro r411 F411 G411 ⟨hI411, hB411, hT411, hO411, hp411⟩
                    dsimp only
                    have q_412 := hI.r 10 rfl
                    have q_413 := hI411.r 10 rfl
                    have e_414 : (F411 10).toInt = (F 10).toInt := hO411
                    unfold cb_X10_behindSign_186
                    refine WP.ret ?_
                    obtain ⟨k_415, e_416, e_417⟩ := i_add ((x1 + (1 : Int32)) + (1 : Int32)) (1 : Int32)
                    exact ⟨hI411, (KB.tr (KB.rf : KB F G F G) hB411), (KT.tr (rfl : KT F F) hT411), (KO.tr (rfl : KO F F) hO411), (show (((x1 + (1 : Int32)) + (1 : Int32)) + (1 : Int32)).toInt = -1 ∨ (0 ≤ (((x1 + (1 : Int32)) + (1 : Int32)) + (1 : Int32)).toInt ∧ (((x1 + (1 : Int32)) + (1 : Int32)) + (1 : Int32)).toInt ≤ 4010) by omega)⟩
                  · skip
                    have q_418 := i_rng r399
                    have l_419 : (61 : Int32).toInt = 61 := rfl
                    have e_420 := mt i_eq.mpr (show ¬ (r399 = (61 : Int32)) from c_400)
                    unfold cb_X10_behindSign_178
                    refine WP.bind (cs_X10_add hfu (tb_3 r2.toNatClampNeg) (0 : Int32) x1 F G hI) ?_
                    rintro r421 F421 G421 ⟨hI421, hB421, hT421, hO421, hp421⟩
                    dsimp only
                    have q_422 := hI.r 10 rfl
                    have q_423 := hI421.r 10 rfl
                    have e_424 : (F421 10).toInt = (F 10).toInt := hO421
                    unfold cb_X10_behindSign_186
                    refine WP.ret ?_
                    exact ⟨hI421, (KB.tr (KB.rf : KB F G F G) hB421), (KT.tr (rfl : KT F F) hT421), (KO.tr (rfl : KO F F) hO421), (show ((x1 + (1 : Int32)) + (1 : Int32)).toInt = -1 ∨ (0 ≤ ((x1 + (1 : Int32)) + (1 : Int32)).toInt ∧ ((x1 + (1 : Int32)) + (1 : Int32)).toInt ≤ 4010) by omega)⟩
        · skip
          have q_425 := i_rng r8
          have e_426 := mt i_eq.mpr (show ¬ (r8 = x2) from c_245)
          unfold cb_X10_behindSign_153
          refine WP.ite (fun c_427 => ?_) (fun c_427 => ?_)
          · skip
            have l_428 : (61 : Int32).toInt = 61 := rfl
            have e_429 := i_eq.mp (show r8 = (61 : Int32) from c_427)
            unfold cb_X10_behindSign_160
            refine WP.ix (show vp_in r2 23 from vp_in_iff.mpr ⟨by omega, by omega⟩) ?_
            refine WP.ite (fun c_430 => ?_) (fun c_430 => ?_)
            · skip
              have q_431 := i_rng (tb_4 r2.toNatClampNeg)
              have e_432 := i_eq.mp (show (tb_4 r2.toNatClampNeg) = (0 : Int32) from c_430)
              unfold cb_X10_behindSign_178
              have q_433 := i_rng (tb_2 r2.toNatClampNeg)
              refine WP.bind (cs_X10_add hfu (tb_2 r2.toNatClampNeg) (0 : Int32) x1 F G hI) ?_
              rintro r434 F434 G434 ⟨hI434, hB434, hT434, hO434, hp434⟩
              dsimp only
              have q_435 := hI.r 10 rfl
              have q_436 := hI434.r 10 rfl
              have e_437 : (F434 10).toInt = (F 10).toInt := hO434
              unfold cb_X10_behindSign_186
              refine WP.ret ?_
              exact ⟨hI434, (KB.tr (KB.rf : KB F G F G) hB434), (KT.tr (rfl : KT F F) hT434), (KO.tr (rfl : KO F F) hO434), (show (x1 + (1 : Int32)).toInt = -1 ∨ (0 ≤ (x1 + (1 : Int32)).toInt ∧ (x1 + (1 : Int32)).toInt ≤ 4010) by omega)⟩
            · skip
              have q_438 := i_rng (tb_4 r2.toNatClampNeg)
              have e_439 := mt i_eq.mpr (show ¬ ((tb_4 r2.toNatClampNeg) = (0 : Int32)) from c_430)
              unfold cb_X10_behindSign_168
              refine WP.ix (show vp_in r2 23 from vp_in_iff.mpr ⟨by omega, by omega⟩) ?_
              unfold cb_X10_behindSign_178
              refine WP.bind (cs_X10_add hfu (tb_4 r2.toNatClampNeg) (0 : Int32) x1 F G hI) ?_
              rintro r440 F440 G440 ⟨hI440, hB440, hT440, hO440, hp440⟩
              dsimp only
              have q_441 := hI.r 10 rfl
              have q_442 := hI440.r 10 rfl
              have e_443 : (F440 10).toInt = (F 10).toInt := hO440
              unfold cb_X10_behindSign_186
              refine WP.ret ?_
              obtain ⟨k_444, e_445, e_446⟩ := i_add (x1 + (1 : Int32)) (1 : Int32)
              exact ⟨hI440, (KB.tr (KB.rf : KB F G F G) hB440), (KT.tr (rfl : KT F F) hT440), (KO.tr (rfl : KO F F) hO440), (show ((x1 + (1 : Int32)) + (1 : Int32)).toInt = -1 ∨ (0 ≤ ((x1 + (1 : Int32)) + (1 : Int32)).toInt ∧ ((x1 + (1 : Int32)) + (1 : Int32)).toInt ≤ 4010) by omega)⟩
          · skip
            have l_447 : (61 : Int32).toInt = 61 := rfl
            have e_448 := mt i_eq.mpr (show ¬ (r8 = (61 : Int32)) from c_427)
            unfold cb_X10_behindSign_178
            have q_449 := i_rng (tb_2 r2.toNatClampNeg)
            refine WP.bind (cs_X10_add hfu (tb_2 r2.toNatClampNeg) (0 : Int32) x1 F G hI) ?_
            rintro r450 F450 G450 ⟨hI450, hB450, hT450, hO450, hp450⟩
            dsimp only
            have q_451 := hI.r 10 rfl
            have q_452 := hI450.r 10 rfl
            have e_453 : (F450 10).toInt = (F 10).toInt := hO450
            unfold cb_X10_behindSign_186
            refine WP.ret ?_
            exact ⟨hI450, (KB.tr (KB.rf : KB F G F G) hB450), (KT.tr (rfl : KT F F) hT450), (KO.tr (rfl : KO F F) hO450), (show (x1 + (1 : Int32)).toInt = -1 ∨ (0 ≤ (x1 + (1 : Int32)).toInt ∧ (x1 + (1 : Int32)).toInt ≤ 4010) by omega)⟩
