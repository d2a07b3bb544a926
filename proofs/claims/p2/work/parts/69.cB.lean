def cIH2 (rc : RC) (d : Nat) : Prop := (∀ (F : PF) (G : PG), CI F G → 0 ≤ (F 10).toInt → (4 * (40 - (F 10).toInt) + 1 ≤ (d : Int) ∨ ((F 11).toInt = -2 ∧ 1 ≤ (d : Int))) → WP (rc 0 0 0 F G) (fun r' F' G' => CI F' G' ∧ KB F G F' G' ∧ KT F F' ∧ KS F F' ∧ (((F' 10).toInt = (F 10).toInt ∨ ((F' 10).toInt = (F 10).toInt - 1 ∧ (F' 11).toInt = -2 ∧ (F 11).toInt ≠ -2))))) ∧ (∀ (F : PF) (G : PG), CI F G → 0 ≤ (F 10).toInt → (4 * (40 - (F 10).toInt) + 3 ≤ (d : Int) ∨ ((F 11).toInt = -2 ∧ 1 ≤ (d : Int))) → WP (rc 1 0 0 F G) (fun r' F' G' => CI F' G' ∧ KB F G F' G' ∧ KT F F' ∧ KS F F' ∧ (((F' 10).toInt = (F 10).toInt ∨ ((F' 10).toInt = (F 10).toInt - 1 ∧ (F' 11).toInt = -2 ∧ (F 11).toInt ≠ -2))))) ∧ (∀ (F : PF) (G : PG), CI F G → 0 ≤ (F 10).toInt → (4 * (40 - (F 10).toInt) + 3 ≤ (d : Int) ∨ ((F 11).toInt = -2 ∧ 1 ≤ (d : Int))) → WP (rc 2 0 0 F G) (fun r' F' G' => CI F' G' ∧ KB F G F' G' ∧ KT F F' ∧ KS F F' ∧ (((F' 10).toInt = (F 10).toInt ∨ ((F' 10).toInt = (F 10).toInt - 1 ∧ (F' 11).toInt = -2 ∧ (F 11).toInt ≠ -2))))) ∧ (∀ (F : PF) (G : PG), CI F G → 0 ≤ (F 10).toInt → (4 * (40 - (F 10).toInt) + 2 ≤ (d : Int) ∨ ((F 11).toInt = -2 ∧ 1 ≤ (d : Int))) → WP (rc 3 0 0 F G) (fun r' F' G' => CI F' G' ∧ KB F G F' G' ∧ KT F F' ∧ KS F F' ∧ (((F' 10).toInt = (F 10).toInt ∨ ((F' 10).toInt = (F 10).toInt - 1 ∧ (F' 11).toInt = -2 ∧ (F 11).toInt ≠ -2))))) ∧ (∀ (F : PF) (G : PG), CI F G → 0 ≤ (F 10).toInt → (4 * (40 - (F 10).toInt) + 5 ≤ (d : Int) ∨ ((F 11).toInt = -2 ∧ 2 ≤ (d : Int))) → WP (rc 4 0 0 F G) (fun r' F' G' => CI F' G' ∧ KB F G F' G' ∧ KT F F' ∧ KS F F' ∧ (((F' 10).toInt = (F 10).toInt ∨ ((F' 10).toInt = (F 10).toInt - 1 ∧ (F' 11).toInt = -2 ∧ (F 11).toInt ≠ -2))))) ∧ (∀ (F : PF) (G : PG), CI F G → 0 ≤ (F 10).toInt → (4 * (40 - (F 10).toInt) + 6 ≤ (d : Int) ∨ ((F 11).toInt = -2 ∧ 3 ≤ (d : Int))) → WP (rc 5 0 0 F G) (fun r' F' G' => CI F' G' ∧ KB F G F' G' ∧ KT F F' ∧ KS F F' ∧ (((F' 10).toInt = (F 10).toInt ∨ ((F' 10).toInt = (F 10).toInt - 1 ∧ (F' 11).toInt = -2 ∧ (F 11).toInt ≠ -2))))) ∧ (∀ (F : PF) (G : PG), CI F G → 0 ≤ (F 10).toInt → (4 * (40 - (F 10).toInt) + 4 ≤ (d : Int) ∨ ((F 11).toInt = -2 ∧ 1 ≤ (d : Int))) → WP (rc 6 0 0 F G) (fun r' F' G' => CI F' G' ∧ KB F G F' G' ∧ KT F F' ∧ KS F F' ∧ (((F' 10).toInt = (F 10).toInt ∨ ((F' 10).toInt = (F 10).toInt - 1 ∧ (F' 11).toInt = -2 ∧ (F 11).toInt ≠ -2))))) ∧ (∀ (F : PF) (G : PG), CI F G → 0 ≤ (F 10).toInt → (4 * (40 - (F 10).toInt) + 3 ≤ (d : Int) ∨ ((F 11).toInt = -2 ∧ 1 ≤ (d : Int))) → WP (rc 7 0 0 F G) (fun r' F' G' => CI F' G' ∧ KB F G F' G' ∧ KT F F' ∧ KS F F' ∧ (((F' 10).toInt = (F 10).toInt ∨ ((F' 10).toInt = (F 10).toInt - 1 ∧ (F' 11).toInt = -2 ∧ (F 11).toInt ≠ -2)))))
theorem cz_X4_block_15 {fu : Nat} (hfu : 8589934592 ≤ fu) (rc : RC) {d : Nat} (ih : cIH2 rc d) {F0 : PF} {G0 : PG} (hd : (4 * (40 - (F0 10).toInt) + 1 ≤ (d + 1 : Int) ∨ ((F0 11).toInt = -2 ∧ 1 ≤ (d + 1 : Int)))) : ∀ (n : Nat) (x1 : Int32) (F : PF) (G : PG) (hI : CI F G) (hB : KB F0 G0 F G) (hT : KT F0 F) (hS : KS F0 F) (i_0 : (F 10).toInt = (F0 10).toInt + 1 ∨ ((F 10).toInt = (F0 10).toInt ∧ (F 11).toInt = -2)) (i_1 : 0 ≤ (F0 10).toInt) (i_2 : (F0 10).toInt < 40) (i_3 : (F0 11).toInt ≠ -2) (hn : (2147483647 - x1.toInt).toNat < n), WP (cl_X4_block_15 fu rc n x1 F G) (fun r' F' G' => CI F' G' ∧ KB F0 G0 F' G' ∧ KT F0 F' ∧ KS F0 F' ∧ (((F' 10).toInt = (F0 10).toInt ∨ ((F' 10).toInt = (F0 10).toInt - 1 ∧ (F' 11).toInt = -2 ∧ (F0 11).toInt ≠ -2)))) := by
  intro n
  induction n with
  | zero =>
    intro x1 F G hI hB hT hS i_0 i_1 i_2 i_3 hn
    exact absurd hn (Nat.not_lt_zero _)
  | succ n ihn =>
    intro x1 F G hI hB hT hS i_0 i_1 i_2 i_3 hn
    show WP (cb_X4_block_15 fu rc (cl_X4_block_15 fu rc n)  x1 F G) _
    have q_S : (F0 11).toInt = -2 → (F 11).toInt = -2 := hS
    unfold cb_X4_block_15
    refine WP.ite (fun c_1 => ?_) (fun c_1 => ?_)
    · skip
      have l_2 : (4001 : Int32).toInt = 4001 := rfl
      have q_3 := i_rng x1
      have e_4 := i_le.mp (show (4001 : Int32) ≤ x1 from c_1)
      unfold cb_X4_block_56
      have l_5 : (24 : Int32).toInt = 24 := rfl
      have q_6 := hI.r 10 rfl
      refine WP.bind (cs_X2_closesWith hfu (24 : Int32) F G hI (show 0 ≤ (F 10).toInt by omega) (show (24 : Int32).toInt ≠ -2 by omega)) ?_
      rintro r7 F7 G7 ⟨hI7, hB7, hT7, hS7, hp7⟩
      dsimp only
      have q_8 := i_rng (F 11)
      have q_9 := i_rng (F7 11)
      have e_10 : (F 11).toInt = -2 → (F7 11).toInt = -2 := hS7
      have q_11 := hI7.r 10 rfl
      have e_12 : (F7 10).toInt = (F 10).toInt - 1 := hp7
      unfold cb_X4_block_65
      refine WP.ret ?_
      exact ⟨hI7, (KB.tr hB hB7), (KT.tr hT hT7), (show (F0 11).toInt = -2 → (F7 11).toInt = -2 by omega), (show (F7 10).toInt = (F0 10).toInt ∨ ((F7 10).toInt = (F0 10).toInt - 1 ∧ (F7 11).toInt = -2 ∧ (F0 11).toInt ≠ -2) by omega)⟩
    · skip
      have l_13 : (4001 : Int32).toInt = 4001 := rfl
      have q_14 := i_rng x1
      have e_15 := mt i_le.mpr (show ¬ ((4001 : Int32) ≤ x1) from c_1)
      unfold cb_X4_block_22
      refine WP.ite (fun c_16 => ?_) (fun c_16 => ?_)
      · skip
        have q_17 := i_rng (F 11)
        have l_18 : (24 : Int32).toInt = 24 := rfl
        have e_19 := i_eq.mp (show (F 11) = (24 : Int32) from c_16)
        unfold cb_X4_block_56
        have q_20 := hI.r 10 rfl
        refine WP.bind (cs_X2_closesWith hfu (24 : Int32) F G hI (show 0 ≤ (F 10).toInt by omega) (show (24 : Int32).toInt ≠ -2 by omega)) ?_
        rintro r21 F21 G21 ⟨hI21, hB21, hT21, hS21, hp21⟩
        dsimp only
        have q_22 := i_rng (F21 11)
        have e_23 : (F 11).toInt = -2 → (F21 11).toInt = -2 := hS21
        have q_24 := hI21.r 10 rfl
        have e_25 : (F21 10).toInt = (F 10).toInt - 1 := hp21
        unfold cb_X4_block_65
        refine WP.ret ?_
        exact ⟨hI21, (KB.tr hB hB21), (KT.tr hT hT21), (show (F0 11).toInt = -2 → (F21 11).toInt = -2 by omega), (show (F21 10).toInt = (F0 10).toInt ∨ ((F21 10).toInt = (F0 10).toInt - 1 ∧ (F21 11).toInt = -2 ∧ (F0 11).toInt ≠ -2) by omega)⟩
      · skip
        have q_26 := i_rng (F 11)
        have l_27 : (24 : Int32).toInt = 24 := rfl
        have e_28 := mt i_eq.mpr (show ¬ ((F 11) = (24 : Int32)) from c_16)
        unfold cb_X4_block_34
        refine WP.ite (fun c_29 => ?_) (fun c_29 => ?_)
        · skip
          have l_30 : (-2 : Int32).toInt = -2 := rfl
          have e_31 := i_eq.mp (show (F 11) = (-2 : Int32) from c_29)
          unfold cb_X4_block_56
          have q_32 := hI.r 10 rfl
          refine WP.bind (cs_X2_closesWith hfu (24 : Int32) F G hI (show 0 ≤ (F 10).toInt by omega) (show (24 : Int32).toInt ≠ -2 by omega)) ?_
          rintro r33 F33 G33 ⟨hI33, hB33, hT33, hS33, hp33⟩
          dsimp only
          have q_34 := i_rng (F33 11)
          have e_35 : (F 11).toInt = -2 → (F33 11).toInt = -2 := hS33
          have q_36 := hI33.r 10 rfl
          have e_37 : (F33 10).toInt = (F 10).toInt - 1 := hp33
          unfold cb_X4_block_65
          refine WP.ret ?_
          exact ⟨hI33, (KB.tr hB hB33), (KT.tr hT hT33), (show (F0 11).toInt = -2 → (F33 11).toInt = -2 by omega), (show (F33 10).toInt = (F0 10).toInt ∨ ((F33 10).toInt = (F0 10).toInt - 1 ∧ (F33 11).toInt = -2 ∧ (F0 11).toInt ≠ -2) by omega)⟩
        · skip
          have l_38 : (-2 : Int32).toInt = -2 := rfl
          have e_39 := mt i_eq.mpr (show ¬ ((F 11) = (-2 : Int32)) from c_29)
          unfold cb_X4_block_46
          have q_40 := hI.r 10 rfl
          refine WP.bind (ih.2.2.2.2.2.2.1 F G hI (show 0 ≤ (F 10).toInt by omega) (by omega)) ?_
          rintro r41 F41 G41 ⟨hI41, hB41, hT41, hS41, hp41⟩
          dsimp only
          have q_42 := i_rng (F41 11)
          have e_43 : (F 11).toInt = -2 → (F41 11).toInt = -2 := hS41
          have q_44 := hI41.r 10 rfl
          have e_45 : (F41 10).toInt = (F 10).toInt ∨ ((F41 10).toInt = (F 10).toInt - 1 ∧ (F41 11).toInt = -2 ∧ (F 11).toInt ≠ -2) := hp41
          unfold cb_X4_block_50
          first | have e_46 : (x1 + (1 : Int32)).toInt = x1.toInt + (1) := i_addn x1 rfl (by omega) (by omega) | have e_47 := i_rng (x1 + (1 : Int32))
          exact ihn (x1 + (1 : Int32)) F41 G41 hI41 (KB.tr hB hB41) (KT.tr hT hT41) (show (F0 11).toInt = -2 → (F41 11).toInt = -2 by omega) (show (F41 10).toInt = (F0 10).toInt + 1 ∨ ((F41 10).toInt = (F0 10).toInt ∧ (F41 11).toInt = -2) by omega) (show 0 ≤ (F0 10).toInt by omega) (show (F0 10).toInt < 40 by omega) (show (F0 11).toInt ≠ -2 by omega) (by omega)
theorem ct_X4_block {fu d : Nat} (hfu : 8589934592 ≤ fu) (rc : RC) (ih : cIH2 rc d) (F : PF) (G : PG) (hI : CI F G) (h10 : 0 ≤ (F 10).toInt) (hd : (4 * (40 - (F 10).toInt) + 1 ≤ (d + 1 : Int) ∨ ((F 11).toInt = -2 ∧ 1 ≤ (d + 1 : Int)))) : WP (ch_X4_block fu rc F G) (fun r' F' G' => CI F' G' ∧ KB F G F' G' ∧ KT F F' ∧ KS F F' ∧ (((F' 10).toInt = (F 10).toInt ∨ ((F' 10).toInt = (F 10).toInt - 1 ∧ (F' 11).toInt = -2 ∧ (F 11).toInt ≠ -2)))) := by
  unfold ch_X4_block
  have q_10 := hI.r 10 rfl
  unfold cb_X4_block_0
  have l_1 : (23 : Int32).toInt = 23 := rfl
  refine WP.bind (cs_X2_opens hfu (23 : Int32) F G hI (show (23 : Int32).toInt ≠ -2 by omega)) ?_
  rintro r2 F2 G2 ⟨hI2, hB2, hT2, hS2, hp2⟩
  dsimp only
  have q_3 := i_rng (F 11)
  have q_4 := i_rng (F2 11)
  have e_5 : (F 11).toInt = -2 → (F2 11).toInt = -2 := hS2
  have q_6 := b_rng (hp2.1)
  have q_7 := hI.r 10 rfl
  have q_8 := hI2.r 10 rfl
  have e_9 : r2.toInt = 1 → (F2 10).toInt = (F 10).toInt + 1 ∧ (F 10).toInt < 40 ∧ (F 11).toInt ≠ -2 := hp2.2.1
  have e_10 : r2.toInt = 0 → (F2 10).toInt = (F 10).toInt ∧ (F2 11).toInt = -2 := hp2.2.2
  unfold cb_X4_block_9
  refine WP.ite (fun c_11 => ?_) (fun c_11 => ?_)
  · skip
    have l_12 : (0 : Int32).toInt = 0 := rfl
    have e_13 := i_eq.mp (show r2 = (0 : Int32) from c_11)
    unfold cb_X4_block_12
    refine WP.ret ?_
    exact ⟨hI2, (KB.tr (KB.rf : KB F G F G) hB2), (KT.tr (rfl : KT F F) hT2), (show (F 11).toInt = -2 → (F2 11).toInt = -2 by omega), (show (F2 10).toInt = (F 10).toInt ∨ ((F2 10).toInt = (F 10).toInt - 1 ∧ (F2 11).toInt = -2 ∧ (F 11).toInt ≠ -2) by omega)⟩
  · skip
    have l_14 : (0 : Int32).toInt = 0 := rfl
    have e_15 := mt i_eq.mpr (show ¬ (r2 = (0 : Int32)) from c_11)
    unfold cb_X4_block_13
    exact cz_X4_block_15 (F0 := F) (G0 := G) hfu rc ih hd fu (0 : Int32) F2 G2 hI2 (KB.tr (KB.rf : KB F G F G) hB2) (KT.tr (rfl : KT F F) hT2) (show (F 11).toInt = -2 → (F2 11).toInt = -2 by omega) (show (F2 10).toInt = (F 10).toInt + 1 ∨ ((F2 10).toInt = (F 10).toInt ∧ (F2 11).toInt = -2) by omega) (show 0 ≤ (F 10).toInt by omega) (show (F 10).toInt < 40 by omega) (show (F 11).toInt ≠ -2 by omega) (by omega)
theorem ct_X4_doStatement {fu d : Nat} (hfu : 8589934592 ≤ fu) (rc : RC) (ih : cIH2 rc d) (F : PF) (G : PG) (hI : CI F G) (h10 : 0 ≤ (F 10).toInt) (hd : (4 * (40 - (F 10).toInt) + 3 ≤ (d + 1 : Int) ∨ ((F 11).toInt = -2 ∧ 1 ≤ (d + 1 : Int)))) : WP (ch_X4_doStatement fu rc F G) (fun r' F' G' => CI F' G' ∧ KB F G F' G' ∧ KT F F' ∧ KS F F' ∧ (((F' 10).toInt = (F 10).toInt ∨ ((F' 10).toInt = (F 10).toInt - 1 ∧ (F' 11).toInt = -2 ∧ (F 11).toInt ≠ -2)))) := by
  unfold ch_X4_doStatement
  have q_10 := hI.r 10 rfl
  unfold cb_X4_doStatement_0
  have l_1 : (11 : Int32).toInt = 11 := rfl
  refine WP.bind (cs_X2_opens hfu (11 : Int32) F G hI (show (11 : Int32).toInt ≠ -2 by omega)) ?_
  rintro r2 F2 G2 ⟨hI2, hB2, hT2, hS2, hp2⟩
  dsimp only
  have q_3 := i_rng (F 11)
  have q_4 := i_rng (F2 11)
  have e_5 : (F 11).toInt = -2 → (F2 11).toInt = -2 := hS2
  have q_6 := b_rng (hp2.1)
  have q_7 := hI.r 10 rfl
  have q_8 := hI2.r 10 rfl
  have e_9 : r2.toInt = 1 → (F2 10).toInt = (F 10).toInt + 1 ∧ (F 10).toInt < 40 ∧ (F 11).toInt ≠ -2 := hp2.2.1
  have e_10 : r2.toInt = 0 → (F2 10).toInt = (F 10).toInt ∧ (F2 11).toInt = -2 := hp2.2.2
  unfold cb_X4_doStatement_9
  refine WP.ite (fun c_11 => ?_) (fun c_11 => ?_)
  · skip
    have l_12 : (0 : Int32).toInt = 0 := rfl
    have e_13 := i_eq.mp (show r2 = (0 : Int32) from c_11)
    unfold cb_X4_doStatement_12
    refine WP.ret ?_
    exact ⟨hI2, (KB.tr (KB.rf : KB F G F G) hB2), (KT.tr (rfl : KT F F) hT2), (show (F 11).toInt = -2 → (F2 11).toInt = -2 by omega), (show (F2 10).toInt = (F 10).toInt ∨ ((F2 10).toInt = (F 10).toInt - 1 ∧ (F2 11).toInt = -2 ∧ (F 11).toInt ≠ -2) by omega)⟩
  · skip
    have l_14 : (0 : Int32).toInt = 0 := rfl
    have e_15 := mt i_eq.mpr (show ¬ (r2 = (0 : Int32)) from c_11)
    unfold cb_X4_doStatement_13
    refine WP.bind (ih.2.2.2.2.2.1 F2 G2 hI2 (show 0 ≤ (F2 10).toInt by omega) (by omega)) ?_
    rintro r16 F16 G16 ⟨hI16, hB16, hT16, hS16, hp16⟩
    dsimp only
    have q_17 := i_rng (F16 11)
    have e_18 : (F2 11).toInt = -2 → (F16 11).toInt = -2 := hS16
    have q_19 := hI16.r 10 rfl
    have e_20 : (F16 10).toInt = (F2 10).toInt ∨ ((F16 10).toInt = (F2 10).toInt - 1 ∧ (F16 11).toInt = -2 ∧ (F2 11).toInt ≠ -2) := hp16
    unfold cb_X4_doStatement_35
    have q_21 := i_rng (F16 31)
    have q_22 := hI16.r 6 rfl
    refine WP.bind (cs_X1_aim hfu (F16 31) (F16 6) F16 G16 hI16) ?_
    rintro r23 F23 G23 ⟨hI23, hB23, hT23, hO23, hK23, hp23⟩
    dsimp only
    have q_24 := i_rng (F23 11)
    have e_25 : (F23 11).toInt = (F16 11).toInt := congrArg Int32.toInt hK23
    have q_26 := hI23.r 10 rfl
    have e_27 : (F23 10).toInt = (F16 10).toInt := hO23
    unfold cb_X4_doStatement_53
    have l_28 : (10 : Int32).toInt = 10 := rfl
    refine WP.bind (cs_X2_expect hfu (10 : Int32) F23 G23 hI23 (show (10 : Int32).toInt ≠ -2 by omega)) ?_
    rintro r29 F29 G29 ⟨hI29, hB29, hT29, hO29, hS29, hp29⟩
    dsimp only
    have q_30 := i_rng (F29 11)
    have e_31 : (F23 11).toInt = -2 → (F29 11).toInt = -2 := hS29
    have q_32 := hI29.r 10 rfl
    have e_33 : (F29 10).toInt = (F23 10).toInt := hO29
    unfold cb_X4_doStatement_62
    refine WP.bind (cs_X4_condition hfu F29 G29 hI29) ?_
    rintro r34 F34 G34 ⟨hI34, hB34, hT34, hO34, hS34, hp34⟩
    dsimp only
    have q_35 := i_rng (F34 11)
    have e_36 : (F29 11).toInt = -2 → (F34 11).toInt = -2 := hS34
    have q_37 := hI34.r 10 rfl
    have e_38 : (F34 10).toInt = (F29 10).toInt := hO34
    unfold cb_X4_doStatement_66
    have l_39 : (26 : Int32).toInt = 26 := rfl
    refine WP.bind (cs_X2_expect hfu (26 : Int32) F34 G34 hI34 (show (26 : Int32).toInt ≠ -2 by omega)) ?_
    rintro r40 F40 G40 ⟨hI40, hB40, hT40, hO40, hS40, hp40⟩
    dsimp only
    have q_41 := i_rng (F40 11)
    have e_42 : (F34 11).toInt = -2 → (F40 11).toInt = -2 := hS40
    have q_43 := hI40.r 10 rfl
    have e_44 : (F40 10).toInt = (F34 10).toInt := hO40
    unfold cb_X4_doStatement_75
    have l_45 : (85 : Int32).toInt = 85 := rfl
    have q_46 := hI2.r 6 rfl
    refine WP.bind (cs_X1_addPair hfu (85 : Int32) (F2 6) F40 G40 hI40) ?_
    rintro r47 F47 G47 ⟨hI47, hB47, hT47, hO47, hK47, hp47⟩
    dsimp only
    have q_48 := i_rng (F47 11)
    have e_49 : (F47 11).toInt = (F40 11).toInt := congrArg Int32.toInt hK47
    have q_50 := hI47.r 10 rfl
    have e_51 : (F47 10).toInt = (F40 10).toInt := hO47
    unfold cb_X4_doStatement_85
    have q_52 := i_rng (F47 30)
    have q_53 := hI47.r 6 rfl
    refine WP.bind (cs_X1_aim hfu (F47 30) (F47 6) F47 G47 hI47) ?_
    rintro r54 F54 G54 ⟨hI54, hB54, hT54, hO54, hK54, hp54⟩
    dsimp only
    have q_55 := i_rng (F54 11)
    have e_56 : (F54 11).toInt = (F47 11).toInt := congrArg Int32.toInt hK54
    have q_57 := hI54.r 10 rfl
    have e_58 : (F54 10).toInt = (F47 10).toInt := hO54
    unfold cb_X4_doStatement_103
    have q_59 := i_rng (F2 30)
    have j_60 : CI (fup F54 30 (F2 30)) G54 := CI.fr rfl hI54
    unfold cb_X4_doStatement_108
    have q_61 := i_rng (F2 31)
    have j_62 : CI (fup (fup F54 30 (F2 30)) 31 (F2 31)) G54 := CI.fr rfl j_60
    unfold cb_X4_doStatement_113
    refine WP.bind (cs_X2_closes hfu (fup (fup F54 30 (F2 30)) 31 (F2 31)) G54 j_62 (show 0 ≤ (F54 10).toInt by omega)) ?_
    rintro r63 F63 G63 ⟨hI63, hB63, hT63, hK63, hp63⟩
    dsimp only
    have q_64 := i_rng (F63 11)
    have e_65 : (F63 11).toInt = (F54 11).toInt := congrArg Int32.toInt hK63
    have q_66 := hI63.r 10 rfl
    have e_67 : (F63 10).toInt = (F54 10).toInt - 1 := hp63
    unfold cb_X4_doStatement_120
    refine WP.ret ?_
    exact ⟨hI63, (KB.tr (KB.f (by decide) (KB.f (by decide) (KB.tr (KB.tr (KB.tr (KB.tr (KB.tr (KB.tr (KB.tr (KB.tr (KB.rf : KB F G F G) hB2) hB16) hB23) hB29) hB34) hB40) hB47) hB54))) hB63), (KT.tr (KT.f (by decide) (KT.f (by decide) (KT.tr (KT.tr (KT.tr (KT.tr (KT.tr (KT.tr (KT.tr (KT.tr (rfl : KT F F) hT2) hT16) hT23) hT29) hT34) hT40) hT47) hT54))) hT63), (show (F 11).toInt = -2 → (F63 11).toInt = -2 by omega), (show (F63 10).toInt = (F 10).toInt ∨ ((F63 10).toInt = (F 10).toInt - 1 ∧ (F63 11).toInt = -2 ∧ (F 11).toInt ≠ -2) by omega)⟩
theorem ct_X4_forStatement {fu d : Nat} (hfu : 8589934592 ≤ fu) (rc : RC) (ih : cIH2 rc d) (F : PF) (G : PG) (hI : CI F G) (h10 : 0 ≤ (F 10).toInt) (hd : (4 * (40 - (F 10).toInt) + 3 ≤ (d + 1 : Int) ∨ ((F 11).toInt = -2 ∧ 1 ≤ (d + 1 : Int)))) : WP (ch_X4_forStatement fu rc F G) (fun r' F' G' => CI F' G' ∧ KB F G F' G' ∧ KT F F' ∧ KS F F' ∧ (((F' 10).toInt = (F 10).toInt ∨ ((F' 10).toInt = (F 10).toInt - 1 ∧ (F' 11).toInt = -2 ∧ (F 11).toInt ≠ -2)))) := by
  unfold ch_X4_forStatement
  have q_10 := hI.r 10 rfl
  unfold cb_X4_forStatement_0
  have l_1 : (12 : Int32).toInt = 12 := rfl
  refine WP.bind (cs_X2_opens hfu (12 : Int32) F G hI (show (12 : Int32).toInt ≠ -2 by omega)) ?_
  rintro r2 F2 G2 ⟨hI2, hB2, hT2, hS2, hp2⟩
  dsimp only
  have q_3 := i_rng (F 11)
  have q_4 := i_rng (F2 11)
  have e_5 : (F 11).toInt = -2 → (F2 11).toInt = -2 := hS2
  have q_6 := b_rng (hp2.1)
  have q_7 := hI.r 10 rfl
  have q_8 := hI2.r 10 rfl
  have e_9 : r2.toInt = 1 → (F2 10).toInt = (F 10).toInt + 1 ∧ (F 10).toInt < 40 ∧ (F 11).toInt ≠ -2 := hp2.2.1
  have e_10 : r2.toInt = 0 → (F2 10).toInt = (F 10).toInt ∧ (F2 11).toInt = -2 := hp2.2.2
  unfold cb_X4_forStatement_9
  refine WP.ite (fun c_11 => ?_) (fun c_11 => ?_)
  · skip
    have l_12 : (0 : Int32).toInt = 0 := rfl
    have e_13 := i_eq.mp (show r2 = (0 : Int32) from c_11)
    unfold cb_X4_forStatement_12
    refine WP.ret ?_
    exact ⟨hI2, (KB.tr (KB.rf : KB F G F G) hB2), (KT.tr (rfl : KT F F) hT2), (show (F 11).toInt = -2 → (F2 11).toInt = -2 by omega), (show (F2 10).toInt = (F 10).toInt ∨ ((F2 10).toInt = (F 10).toInt - 1 ∧ (F2 11).toInt = -2 ∧ (F 11).toInt ≠ -2) by omega)⟩
  · skip
    have l_14 : (0 : Int32).toInt = 0 := rfl
    have e_15 := mt i_eq.mpr (show ¬ (r2 = (0 : Int32)) from c_11)
    unfold cb_X4_forStatement_13
    refine WP.bind (cs_X5_enter hfu F2 G2 hI2) ?_
    rintro r16 F16 G16 ⟨hI16, hB16, hT16, hO16, hK16, hp16⟩
    dsimp only
    have q_17 := i_rng (F16 11)
    have e_18 : (F16 11).toInt = (F2 11).toInt := congrArg Int32.toInt hK16
    have q_19 := hI16.r 10 rfl
    have e_20 : (F16 10).toInt = (F2 10).toInt := hO16
    unfold cb_X4_forStatement_30
    have l_21 : (19 : Int32).toInt = 19 := rfl
    refine WP.bind (cs_X2_opens hfu (19 : Int32) F16 G16 hI16 (show (19 : Int32).toInt ≠ -2 by omega)) ?_
    rintro r22 F22 G22 ⟨hI22, hB22, hT22, hS22, hp22⟩
    dsimp only
    have q_23 := i_rng (F22 11)
    have e_24 : (F16 11).toInt = -2 → (F22 11).toInt = -2 := hS22
    have q_25 := b_rng (hp22.1)
    have q_26 := hI22.r 10 rfl
    have e_27 : r22.toInt = 1 → (F22 10).toInt = (F16 10).toInt + 1 ∧ (F16 10).toInt < 40 ∧ (F16 11).toInt ≠ -2 := hp22.2.1
    have e_28 : r22.toInt = 0 → (F22 10).toInt = (F16 10).toInt ∧ (F22 11).toInt = -2 := hp22.2.2
    unfold cb_X4_forStatement_39
    refine WP.ite (fun c_29 => ?_) (fun c_29 => ?_)
    · skip
      have e_30 := i_eq.mp (show r22 = (0 : Int32) from c_29)
      unfold cb_X4_forStatement_63
      refine WP.ite (fun c_31 => ?_) (fun c_31 => ?_)
      · skip
        have e_32 := i_eq.mp (show r22 = (0 : Int32) from c_31)
        unfold cb_X4_forStatement_83
        have l_33 : (26 : Int32).toInt = 26 := rfl
        refine WP.bind (cs_X2_expect hfu (26 : Int32) F22 G22 hI22 (show (26 : Int32).toInt ≠ -2 by omega)) ?_
        rintro r34 F34 G34 ⟨hI34, hB34, hT34, hO34, hS34, hp34⟩
        dsimp only
        have q_35 := i_rng (F34 11)
        have e_36 : (F22 11).toInt = -2 → (F34 11).toInt = -2 := hS34
        have q_37 := hI34.r 10 rfl
        have e_38 : (F34 10).toInt = (F22 10).toInt := hO34
        unfold cb_X4_forStatement_92
        refine WP.ite (fun c_39 => ?_) (fun c_39 => ?_)
        · skip
          have e_40 := i_eq.mp (show (F34 11) = (26 : Int32) from c_39)
          unfold cb_X4_forStatement_135
          refine WP.bind (cs_X2_expect hfu (26 : Int32) F34 G34 hI34 (show (26 : Int32).toInt ≠ -2 by omega)) ?_
          rintro r41 F41 G41 ⟨hI41, hB41, hT41, hO41, hS41, hp41⟩
          dsimp only
          have q_42 := i_rng (F41 11)
          have e_43 : (F34 11).toInt = -2 → (F41 11).toInt = -2 := hS41
          have q_44 := hI41.r 10 rfl
          have e_45 : (F41 10).toInt = (F34 10).toInt := hO41
          unfold cb_X4_forStatement_144
          have l_46 : (84 : Int32).toInt = 84 := rfl
          have l_47 : (-1 : Int32).toInt = -1 := rfl
          refine WP.bind (cs_X1_addJump hfu (84 : Int32) (-1 : Int32) F41 G41 hI41) ?_
          rintro r48 F48 G48 ⟨hI48, hB48, hT48, hO48, hK48, hp48⟩
          dsimp only
          have q_49 := i_rng (F48 11)
          have e_50 : (F48 11).toInt = (F41 11).toInt := congrArg Int32.toInt hK48
          have q_51 := hI48.r 10 rfl
          have e_52 : (F48 10).toInt = (F41 10).toInt := hO48
          have q_53 := hI41.r 21 rfl
          have q_54 := hI48.r 21 rfl
          have e_55 : (F48 21).toInt = (F41 21).toInt := congrArg Int32.toInt hp48
          unfold cb_X4_forStatement_154
          refine WP.ite (fun c_56 => ?_) (fun c_56 => ?_)
          · skip
            have l_57 : (20 : Int32).toInt = 20 := rfl
            have e_58 := i_eq.mp (show (F48 11) = (20 : Int32) from c_56)
            unfold cb_X4_forStatement_181
            have q_59 := hI34.r 6 rfl
            refine WP.bind (cs_X1_addPair hfu (84 : Int32) (F34 6) F48 G48 hI48) ?_
            rintro r60 F60 G60 ⟨hI60, hB60, hT60, hO60, hK60, hp60⟩
            dsimp only
            have q_61 := i_rng (F60 11)
            have e_62 : (F60 11).toInt = (F48 11).toInt := congrArg Int32.toInt hK60
            have q_63 := hI60.r 10 rfl
            have e_64 : (F60 10).toInt = (F48 10).toInt := hO60
            unfold cb_X4_forStatement_192
            refine WP.bind (cs_X2_closesWith hfu (20 : Int32) F60 G60 hI60 (show 0 ≤ (F60 10).toInt by omega) (show (20 : Int32).toInt ≠ -2 by omega)) ?_
            rintro r65 F65 G65 ⟨hI65, hB65, hT65, hS65, hp65⟩
            dsimp only
            have q_66 := i_rng (F65 11)
            have e_67 : (F60 11).toInt = -2 → (F65 11).toInt = -2 := hS65
            have q_68 := hI65.r 10 rfl
            have e_69 : (F65 10).toInt = (F60 10).toInt - 1 := hp65
            unfold cb_X4_forStatement_201
            have q_70 := i_rng r48
            have q_71 := hI65.r 6 rfl
            refine WP.bind (cs_X1_aim hfu r48 (F65 6) F65 G65 hI65) ?_
            rintro r72 F72 G72 ⟨hI72, hB72, hT72, hO72, hK72, hp72⟩
            dsimp only
            have q_73 := i_rng (F72 11)
            have e_74 : (F72 11).toInt = (F65 11).toInt := congrArg Int32.toInt hK72
            have q_75 := hI72.r 10 rfl
            have e_76 : (F72 10).toInt = (F65 10).toInt := hO72
            unfold cb_X4_forStatement_217
            refine WP.bind (ih.2.2.2.2.2.1 F72 G72 hI72 (show 0 ≤ (F72 10).toInt by omega) (by omega)) ?_
            rintro r77 F77 G77 ⟨hI77, hB77, hT77, hS77, hp77⟩
            dsimp only
            have q_78 := i_rng (F77 11)
            have e_79 : (F72 11).toInt = -2 → (F77 11).toInt = -2 := hS77
            have q_80 := hI77.r 10 rfl
            have e_81 : (F77 10).toInt = (F72 10).toInt ∨ ((F77 10).toInt = (F72 10).toInt - 1 ∧ (F77 11).toInt = -2 ∧ (F72 11).toInt ≠ -2) := hp77
            unfold cb_X4_forStatement_221
            have q_82 := hI48.r 6 rfl
            refine WP.bind (cs_X1_addPair hfu (84 : Int32) (F48 6) F77 G77 hI77) ?_
            rintro r83 F83 G83 ⟨hI83, hB83, hT83, hO83, hK83, hp83⟩
            dsimp only
            have q_84 := i_rng (F83 11)
            have e_85 : (F83 11).toInt = (F77 11).toInt := congrArg Int32.toInt hK83
            have q_86 := hI83.r 10 rfl
            have e_87 : (F83 10).toInt = (F77 10).toInt := hO83
            unfold cb_X4_forStatement_232
            have q_88 := i_rng (F83 31)
            refine WP.bind (cs_X1_aim hfu (F83 31) (F48 6) F83 G83 hI83) ?_
            rintro r89 F89 G89 ⟨hI89, hB89, hT89, hO89, hK89, hp89⟩
            dsimp only
            have q_90 := i_rng (F89 11)
            have e_91 : (F89 11).toInt = (F83 11).toInt := congrArg Int32.toInt hK89
            have q_92 := hI89.r 10 rfl
            have e_93 : (F89 10).toInt = (F83 10).toInt := hO89
            unfold cb_X4_forStatement_245
            have q_94 := hI89.r 6 rfl
            refine WP.bind (cs_X1_aim hfu (-1 : Int32) (F89 6) F89 G89 hI89) ?_
            rintro r95 F95 G95 ⟨hI95, hB95, hT95, hO95, hK95, hp95⟩
            dsimp only
            have q_96 := i_rng (F95 11)
            have e_97 : (F95 11).toInt = (F89 11).toInt := congrArg Int32.toInt hK95
            have q_98 := hI95.r 10 rfl
            have e_99 : (F95 10).toInt = (F89 10).toInt := hO95
            unfold cb_X4_forStatement_261
            have q_100 := i_rng (F95 30)
            have q_101 := hI95.r 6 rfl
            refine WP.bind (cs_X1_aim hfu (F95 30) (F95 6) F95 G95 hI95) ?_
            rintro r102 F102 G102 ⟨hI102, hB102, hT102, hO102, hK102, hp102⟩
            dsimp only
            have q_103 := i_rng (F102 11)
            have e_104 : (F102 11).toInt = (F95 11).toInt := congrArg Int32.toInt hK102
            have q_105 := hI102.r 10 rfl
            have e_106 : (F102 10).toInt = (F95 10).toInt := hO102
            unfold cb_X4_forStatement_279
            refine WP.bind (cs_X5_leave hfu F102 G102 hI102) ?_
            rintro r107 F107 G107 ⟨hI107, hB107, hT107, hO107, hK107, hp107⟩
            dsimp only
            have q_108 := i_rng (F107 11)
            have e_109 : (F107 11).toInt = (F102 11).toInt := congrArg Int32.toInt hK107
            have q_110 := hI107.r 10 rfl
            have e_111 : (F107 10).toInt = (F102 10).toInt := hO107
            unfold cb_X4_forStatement_286
            have q_112 := i_rng (F2 30)
            have j_113 : CI (fup F107 30 (F2 30)) G107 := CI.fr rfl hI107
            unfold cb_X4_forStatement_291
            have q_114 := i_rng (F2 31)
            have j_115 : CI (fup (fup F107 30 (F2 30)) 31 (F2 31)) G107 := CI.fr rfl j_113
            unfold cb_X4_forStatement_296
            refine WP.bind (cs_X2_closes hfu (fup (fup F107 30 (F2 30)) 31 (F2 31)) G107 j_115 (show 0 ≤ (F107 10).toInt by omega)) ?_
            rintro r116 F116 G116 ⟨hI116, hB116, hT116, hK116, hp116⟩
            dsimp only
            have q_117 := i_rng (F116 11)
            have e_118 : (F116 11).toInt = (F107 11).toInt := congrArg Int32.toInt hK116
            have q_119 := hI116.r 10 rfl
            have e_120 : (F116 10).toInt = (F107 10).toInt - 1 := hp116
            unfold cb_X4_forStatement_303
            refine WP.ret ?_
            exact ⟨hI116, (KB.tr (KB.f (by decide) (KB.f (by decide) (KB.tr (KB.tr (KB.tr (KB.tr (KB.tr (KB.tr (KB.tr (KB.tr (KB.tr (KB.tr (KB.tr (KB.tr (KB.tr (KB.tr (KB.tr (KB.rf : KB F G F G) hB2) hB16) hB22) hB34) hB41) hB48) hB60) hB65) hB72) hB77) hB83) hB89) hB95) hB102) hB107))) hB116), (KT.tr (KT.f (by decide) (KT.f (by decide) (KT.tr (KT.tr (KT.tr (KT.tr (KT.tr (KT.tr (KT.tr (KT.tr (KT.tr (KT.tr (KT.tr (KT.tr (KT.tr (KT.tr (KT.tr (rfl : KT F F) hT2) hT16) hT22) hT34) hT41) hT48) hT60) hT65) hT72) hT77) hT83) hT89) hT95) hT102) hT107))) hT116), (show (F 11).toInt = -2 → (F116 11).toInt = -2 by omega), (show (F116 10).toInt = (F 10).toInt ∨ ((F116 10).toInt = (F 10).toInt - 1 ∧ (F116 11).toInt = -2 ∧ (F 11).toInt ≠ -2) by omega)⟩
          · skip
            have l_121 : (20 : Int32).toInt = 20 := rfl
            have e_122 := mt i_eq.mpr (show ¬ ((F48 11) = (20 : Int32)) from c_56)
            unfold cb_X4_forStatement_177
            refine WP.bind (cs_X4_simple hfu F48 G48 hI48) ?_
            rintro r123 F123 G123 ⟨hI123, hB123, hT123, hO123, hS123, hp123⟩
            dsimp only
            have q_124 := i_rng (F123 11)
            have e_125 : (F48 11).toInt = -2 → (F123 11).toInt = -2 := hS123
            have q_126 := hI123.r 10 rfl
            have e_127 : (F123 10).toInt = (F48 10).toInt := hO123
            unfold cb_X4_forStatement_181
            have q_128 := hI34.r 6 rfl
            refine WP.bind (cs_X1_addPair hfu (84 : Int32) (F34 6) F123 G123 hI123) ?_
            rintro r129 F129 G129 ⟨hI129, hB129, hT129, hO129, hK129, hp129⟩
            dsimp only
            have q_130 := i_rng (F129 11)
            have e_131 : (F129 11).toInt = (F123 11).toInt := congrArg Int32.toInt hK129
            have q_132 := hI129.r 10 rfl
            have e_133 : (F129 10).toInt = (F123 10).toInt := hO129
            unfold cb_X4_forStatement_192
            refine WP.bind (cs_X2_closesWith hfu (20 : Int32) F129 G129 hI129 (show 0 ≤ (F129 10).toInt by omega) (show (20 : Int32).toInt ≠ -2 by omega)) ?_
            rintro r134 F134 G134 ⟨hI134, hB134, hT134, hS134, hp134⟩
            dsimp only
            have q_135 := i_rng (F134 11)
            have e_136 : (F129 11).toInt = -2 → (F134 11).toInt = -2 := hS134
            have q_137 := hI134.r 10 rfl
            have e_138 : (F134 10).toInt = (F129 10).toInt - 1 := hp134
            unfold cb_X4_forStatement_201
            have q_139 := i_rng r48
            have q_140 := hI134.r 6 rfl
            refine WP.bind (cs_X1_aim hfu r48 (F134 6) F134 G134 hI134) ?_
            rintro r141 F141 G141 ⟨hI141, hB141, hT141, hO141, hK141, hp141⟩
            dsimp only
            have q_142 := i_rng (F141 11)
            have e_143 : (F141 11).toInt = (F134 11).toInt := congrArg Int32.toInt hK141
            have q_144 := hI141.r 10 rfl
            have e_145 : (F141 10).toInt = (F134 10).toInt := hO141
            unfold cb_X4_forStatement_217
            refine WP.bind (ih.2.2.2.2.2.1 F141 G141 hI141 (show 0 ≤ (F141 10).toInt by omega) (by omega)) ?_
            rintro r146 F146 G146 ⟨hI146, hB146, hT146, hS146, hp146⟩
            dsimp only
            have q_147 := i_rng (F146 11)
            have e_148 : (F141 11).toInt = -2 → (F146 11).toInt = -2 := hS146
            have q_149 := hI146.r 10 rfl
            have e_150 : (F146 10).toInt = (F141 10).toInt ∨ ((F146 10).toInt = (F141 10).toInt - 1 ∧ (F146 11).toInt = -2 ∧ (F141 11).toInt ≠ -2) := hp146
            unfold cb_X4_forStatement_221
            have q_151 := hI48.r 6 rfl
            refine WP.bind (cs_X1_addPair hfu (84 : Int32) (F48 6) F146 G146 hI146) ?_
            rintro r152 F152 G152 ⟨hI152, hB152, hT152, hO152, hK152, hp152⟩
            dsimp only
            have q_153 := i_rng (F152 11)
            have e_154 : (F152 11).toInt = (F146 11).toInt := congrArg Int32.toInt hK152
            have q_155 := hI152.r 10 rfl
            have e_156 : (F152 10).toInt = (F146 10).toInt := hO152
            unfold cb_X4_forStatement_232
            have q_157 := i_rng (F152 31)
            refine WP.bind (cs_X1_aim hfu (F152 31) (F48 6) F152 G152 hI152) ?_
            rintro r158 F158 G158 ⟨hI158, hB158, hT158, hO158, hK158, hp158⟩
            dsimp only
            have q_159 := i_rng (F158 11)
            have e_160 : (F158 11).toInt = (F152 11).toInt := congrArg Int32.toInt hK158
            have q_161 := hI158.r 10 rfl
            have e_162 : (F158 10).toInt = (F152 10).toInt := hO158
            unfold cb_X4_forStatement_245
            have q_163 := hI158.r 6 rfl
            refine WP.bind (cs_X1_aim hfu (-1 : Int32) (F158 6) F158 G158 hI158) ?_
            rintro r164 F164 G164 ⟨hI164, hB164, hT164, hO164, hK164, hp164⟩
            dsimp only
            have q_165 := i_rng (F164 11)
            have e_166 : (F164 11).toInt = (F158 11).toInt := congrArg Int32.toInt hK164
            have q_167 := hI164.r 10 rfl
            have e_168 : (F164 10).toInt = (F158 10).toInt := hO164
            unfold cb_X4_forStatement_261
            have q_169 := i_rng (F164 30)
            have q_170 := hI164.r 6 rfl
            refine WP.bind (cs_X1_aim hfu (F164 30) (F164 6) F164 G164 hI164) ?_
            rintro r171 F171 G171 ⟨hI171, hB171, hT171, hO171, hK171, hp171⟩
            dsimp only
            have q_172 := i_rng (F171 11)
            have e_173 : (F171 11).toInt = (F164 11).toInt := congrArg Int32.toInt hK171
            have q_174 := hI171.r 10 rfl
            have e_175 : (F171 10).toInt = (F164 10).toInt := hO171
            unfold cb_X4_forStatement_279
            refine WP.bind (cs_X5_leave hfu F171 G171 hI171) ?_
            rintro r176 F176 G176 ⟨hI176, hB176, hT176, hO176, hK176, hp176⟩
            dsimp only
            have q_177 := i_rng (F176 11)
            have e_178 : (F176 11).toInt = (F171 11).toInt := congrArg Int32.toInt hK176
            have q_179 := hI176.r 10 rfl
            have e_180 : (F176 10).toInt = (F171 10).toInt := hO176
            unfold cb_X4_forStatement_286
            have q_181 := i_rng (F2 30)
            have j_182 : CI (fup F176 30 (F2 30)) G176 := CI.fr rfl hI176
            unfold cb_X4_forStatement_291
            have q_183 := i_rng (F2 31)
            have j_184 : CI (fup (fup F176 30 (F2 30)) 31 (F2 31)) G176 := CI.fr rfl j_182
            unfold cb_X4_forStatement_296
            refine WP.bind (cs_X2_closes hfu (fup (fup F176 30 (F2 30)) 31 (F2 31)) G176 j_184 (show 0 ≤ (F176 10).toInt by omega)) ?_
            rintro r185 F185 G185 ⟨hI185, hB185, hT185, hK185, hp185⟩
            dsimp only
            have q_186 := i_rng (F185 11)
            have e_187 : (F185 11).toInt = (F176 11).toInt := congrArg Int32.toInt hK185
            have q_188 := hI185.r 10 rfl
            have e_189 : (F185 10).toInt = (F176 10).toInt - 1 := hp185
            unfold cb_X4_forStatement_303
            refine WP.ret ?_
            exact ⟨hI185, (KB.tr (KB.f (by decide) (KB.f (by decide) (KB.tr (KB.tr (KB.tr (KB.tr (KB.tr (KB.tr (KB.tr (KB.tr (KB.tr (KB.tr (KB.tr (KB.tr (KB.tr (KB.tr (KB.tr (KB.tr (KB.rf : KB F G F G) hB2) hB16) hB22) hB34) hB41) hB48) hB123) hB129) hB134) hB141) hB146) hB152) hB158) hB164) hB171) hB176))) hB185), (KT.tr (KT.f (by decide) (KT.f (by decide) (KT.tr (KT.tr (KT.tr (KT.tr (KT.tr (KT.tr (KT.tr (KT.tr (KT.tr (KT.tr (KT.tr (KT.tr (KT.tr (KT.tr (KT.tr (KT.tr (rfl : KT F F) hT2) hT16) hT22) hT34) hT41) hT48) hT123) hT129) hT134) hT141) hT146) hT152) hT158) hT164) hT171) hT176))) hT185), (show (F 11).toInt = -2 → (F185 11).toInt = -2 by omega), (show (F185 10).toInt = (F 10).toInt ∨ ((F185 10).toInt = (F 10).toInt - 1 ∧ (F185 11).toInt = -2 ∧ (F 11).toInt ≠ -2) by omega)⟩
        · skip
          have e_190 := mt i_eq.mpr (show ¬ ((F34 11) = (26 : Int32)) from c_39)
          unfold cb_X4_forStatement_116
          refine WP.bind (cs_X3_expression hfu F34 G34 hI34) ?_
          rintro r191 F191 G191 ⟨hI191, hB191, hT191, hO191, hS191, hp191⟩
          dsimp only
          have q_192 := i_rng (F191 11)
          have e_193 : (F34 11).toInt = -2 → (F191 11).toInt = -2 := hS191
          have q_194 := hI191.r 10 rfl
          have e_195 : (F191 10).toInt = (F34 10).toInt := hO191
          unfold cb_X4_forStatement_123
          have l_196 : (86 : Int32).toInt = 86 := rfl
          have l_197 : (-1 : Int32).toInt = -1 := rfl
          refine WP.bind (cs_X1_addJump hfu (86 : Int32) (-1 : Int32) F191 G191 hI191) ?_
          rintro r198 F198 G198 ⟨hI198, hB198, hT198, hO198, hK198, hp198⟩
          dsimp only
          have q_199 := i_rng (F198 11)
          have e_200 : (F198 11).toInt = (F191 11).toInt := congrArg Int32.toInt hK198
          have q_201 := hI198.r 10 rfl
          have e_202 : (F198 10).toInt = (F191 10).toInt := hO198
          have q_203 := hI191.r 21 rfl
          have q_204 := hI198.r 21 rfl
          have e_205 : (F198 21).toInt = (F191 21).toInt := congrArg Int32.toInt hp198
          unfold cb_X4_forStatement_133
          unfold cb_X4_forStatement_135
          refine WP.bind (cs_X2_expect hfu (26 : Int32) F198 G198 hI198 (show (26 : Int32).toInt ≠ -2 by omega)) ?_
          rintro r206 F206 G206 ⟨hI206, hB206, hT206, hO206, hS206, hp206⟩
          dsimp only
          have q_207 := i_rng (F206 11)
          have e_208 : (F198 11).toInt = -2 → (F206 11).toInt = -2 := hS206
          have q_209 := hI206.r 10 rfl
          have e_210 : (F206 10).toInt = (F198 10).toInt := hO206
          unfold cb_X4_forStatement_144
          have l_211 : (84 : Int32).toInt = 84 := rfl
          refine WP.bind (cs_X1_addJump hfu (84 : Int32) (-1 : Int32) F206 G206 hI206) ?_
          rintro r212 F212 G212 ⟨hI212, hB212, hT212, hO212, hK212, hp212⟩
          dsimp only
          have q_213 := i_rng (F212 11)
          have e_214 : (F212 11).toInt = (F206 11).toInt := congrArg Int32.toInt hK212
          have q_215 := hI212.r 10 rfl
          have e_216 : (F212 10).toInt = (F206 10).toInt := hO212
          have q_217 := hI206.r 21 rfl
          have q_218 := hI212.r 21 rfl
          have e_219 : (F212 21).toInt = (F206 21).toInt := congrArg Int32.toInt hp212
          unfold cb_X4_forStatement_154
          refine WP.ite (fun c_220 => ?_) (fun c_220 => ?_)
          · skip
            have l_221 : (20 : Int32).toInt = 20 := rfl
            have e_222 := i_eq.mp (show (F212 11) = (20 : Int32) from c_220)
            unfold cb_X4_forStatement_181
            have q_223 := hI34.r 6 rfl
            refine WP.bind (cs_X1_addPair hfu (84 : Int32) (F34 6) F212 G212 hI212) ?_
            rintro r224 F224 G224 ⟨hI224, hB224, hT224, hO224, hK224, hp224⟩
            dsimp only
            have q_225 := i_rng (F224 11)
            have e_226 : (F224 11).toInt = (F212 11).toInt := congrArg Int32.toInt hK224
            have q_227 := hI224.r 10 rfl
            have e_228 : (F224 10).toInt = (F212 10).toInt := hO224
            unfold cb_X4_forStatement_192
            refine WP.bind (cs_X2_closesWith hfu (20 : Int32) F224 G224 hI224 (show 0 ≤ (F224 10).toInt by omega) (show (20 : Int32).toInt ≠ -2 by omega)) ?_
            rintro r229 F229 G229 ⟨hI229, hB229, hT229, hS229, hp229⟩
            dsimp only
            have q_230 := i_rng (F229 11)
            have e_231 : (F224 11).toInt = -2 → (F229 11).toInt = -2 := hS229
            have q_232 := hI229.r 10 rfl
            have e_233 : (F229 10).toInt = (F224 10).toInt - 1 := hp229
            unfold cb_X4_forStatement_201
            have q_234 := i_rng r212
            have q_235 := hI229.r 6 rfl
            refine WP.bind (cs_X1_aim hfu r212 (F229 6) F229 G229 hI229) ?_
            rintro r236 F236 G236 ⟨hI236, hB236, hT236, hO236, hK236, hp236⟩
            dsimp only
            have q_237 := i_rng (F236 11)
            have e_238 : (F236 11).toInt = (F229 11).toInt := congrArg Int32.toInt hK236
            have q_239 := hI236.r 10 rfl
            have e_240 : (F236 10).toInt = (F229 10).toInt := hO236
            unfold cb_X4_forStatement_217
            refine WP.bind (ih.2.2.2.2.2.1 F236 G236 hI236 (show 0 ≤ (F236 10).toInt by omega) (by omega)) ?_
            rintro r241 F241 G241 ⟨hI241, hB241, hT241, hS241, hp241⟩
            dsimp only
            have q_242 := i_rng (F241 11)
            have e_243 : (F236 11).toInt = -2 → (F241 11).toInt = -2 := hS241
            have q_244 := hI241.r 10 rfl
            have e_245 : (F241 10).toInt = (F236 10).toInt ∨ ((F241 10).toInt = (F236 10).toInt - 1 ∧ (F241 11).toInt = -2 ∧ (F236 11).toInt ≠ -2) := hp241
            unfold cb_X4_forStatement_221
            have q_246 := hI212.r 6 rfl
            refine WP.bind (cs_X1_addPair hfu (84 : Int32) (F212 6) F241 G241 hI241) ?_
            rintro r247 F247 G247 ⟨hI247, hB247, hT247, hO247, hK247, hp247⟩
            dsimp only
            have q_248 := i_rng (F247 11)
            have e_249 : (F247 11).toInt = (F241 11).toInt := congrArg Int32.toInt hK247
            have q_250 := hI247.r 10 rfl
            have e_251 : (F247 10).toInt = (F241 10).toInt := hO247
            unfold cb_X4_forStatement_232
            have q_252 := i_rng (F247 31)
            refine WP.bind (cs_X1_aim hfu (F247 31) (F212 6) F247 G247 hI247) ?_
            rintro r253 F253 G253 ⟨hI253, hB253, hT253, hO253, hK253, hp253⟩
            dsimp only
            have q_254 := i_rng (F253 11)
            have e_255 : (F253 11).toInt = (F247 11).toInt := congrArg Int32.toInt hK253
            have q_256 := hI253.r 10 rfl
            have e_257 : (F253 10).toInt = (F247 10).toInt := hO253
            unfold cb_X4_forStatement_245
            have q_258 := i_rng r198
            have q_259 := hI253.r 6 rfl
            refine WP.bind (cs_X1_aim hfu r198 (F253 6) F253 G253 hI253) ?_
            rintro r260 F260 G260 ⟨hI260, hB260, hT260, hO260, hK260, hp260⟩
            dsimp only
            have q_261 := i_rng (F260 11)
            have e_262 : (F260 11).toInt = (F253 11).toInt := congrArg Int32.toInt hK260
            have q_263 := hI260.r 10 rfl
            have e_264 : (F260 10).toInt = (F253 10).toInt := hO260
            unfold cb_X4_forStatement_261
            have q_265 := i_rng (F260 30)
            have q_266 := hI260.r 6 rfl
            refine WP.bind (cs_X1_aim hfu (F260 30) (F260 6) F260 G260 hI260) ?_
            rintro r267 F267 G267 ⟨hI267, hB267, hT267, hO267, hK267, hp267⟩
            dsimp only
            have q_268 := i_rng (F267 11)
            have e_269 : (F267 11).toInt = (F260 11).toInt := congrArg Int32.toInt hK267
            have q_270 := hI267.r 10 rfl
            have e_271 : (F267 10).toInt = (F260 10).toInt := hO267
            unfold cb_X4_forStatement_279
            refine WP.bind (cs_X5_leave hfu F267 G267 hI267) ?_
            rintro r272 F272 G272 ⟨hI272, hB272, hT272, hO272, hK272, hp272⟩
            dsimp only
            have q_273 := i_rng (F272 11)
            have e_274 : (F272 11).toInt = (F267 11).toInt := congrArg Int32.toInt hK272
            have q_275 := hI272.r 10 rfl
            have e_276 : (F272 10).toInt = (F267 10).toInt := hO272
            unfold cb_X4_forStatement_286
            have q_277 := i_rng (F2 30)
            have j_278 : CI (fup F272 30 (F2 30)) G272 := CI.fr rfl hI272
            unfold cb_X4_forStatement_291
            have q_279 := i_rng (F2 31)
            have j_280 : CI (fup (fup F272 30 (F2 30)) 31 (F2 31)) G272 := CI.fr rfl j_278
            unfold cb_X4_forStatement_296
            refine WP.bind (cs_X2_closes hfu (fup (fup F272 30 (F2 30)) 31 (F2 31)) G272 j_280 (show 0 ≤ (F272 10).toInt by omega)) ?_
            rintro r281 F281 G281 ⟨hI281, hB281, hT281, hK281, hp281⟩
            dsimp only
            have q_282 := i_rng (F281 11)
            have e_283 : (F281 11).toInt = (F272 11).toInt := congrArg Int32.toInt hK281
            have q_284 := hI281.r 10 rfl
            have e_285 : (F281 10).toInt = (F272 10).toInt - 1 := hp281
            unfold cb_X4_forStatement_303
            refine WP.ret ?_
            exact ⟨hI281, (KB.tr (KB.f (by decide) (KB.f (by decide) (KB.tr (KB.tr (KB.tr (KB.tr (KB.tr (KB.tr (KB.tr (KB.tr (KB.tr (KB.tr (KB.tr (KB.tr (KB.tr (KB.tr (KB.tr (KB.tr (KB.tr (KB.rf : KB F G F G) hB2) hB16) hB22) hB34) hB191) hB198) hB206) hB212) hB224) hB229) hB236) hB241) hB247) hB253) hB260) hB267) hB272))) hB281), (KT.tr (KT.f (by decide) (KT.f (by decide) (KT.tr (KT.tr (KT.tr (KT.tr (KT.tr (KT.tr (KT.tr (KT.tr (KT.tr (KT.tr (KT.tr (KT.tr (KT.tr (KT.tr (KT.tr (KT.tr (KT.tr (rfl : KT F F) hT2) hT16) hT22) hT34) hT191) hT198) hT206) hT212) hT224) hT229) hT236) hT241) hT247) hT253) hT260) hT267) hT272))) hT281), (show (F 11).toInt = -2 → (F281 11).toInt = -2 by omega), (show (F281 10).toInt = (F 10).toInt ∨ ((F281 10).toInt = (F 10).toInt - 1 ∧ (F281 11).toInt = -2 ∧ (F 11).toInt ≠ -2) by omega)⟩
          · skip
            have l_286 : (20 : Int32).toInt = 20 := rfl
            have e_287 := mt i_eq.mpr (show ¬ ((F212 11) = (20 : Int32)) from c_220)
            unfold cb_X4_forStatement_177
            refine WP.bind (cs_X4_simple hfu F212 G212 hI212) ?_
            rintro r288 F288 G288 ⟨hI288, hB288, hT288, hO288, hS288, hp288⟩
            dsimp only
            have q_289 := i_rng (F288 11)
            have e_290 : (F212 11).toInt = -2 → (F288 11).toInt = -2 := hS288
            have q_291 := hI288.r 10 rfl
            have e_292 : (F288 10).toInt = (F212 10).toInt := hO288
            unfold cb_X4_forStatement_181
            have q_293 := hI34.r 6 rfl
            refine WP.bind (cs_X1_addPair hfu (84 : Int32) (F34 6) F288 G288 hI288) ?_
            rintro r294 F294 G294 ⟨hI294, hB294, hT294, hO294, hK294, hp294⟩
            dsimp only
            have q_295 := i_rng (F294 11)
            have e_296 : (F294 11).toInt = (F288 11).toInt := congrArg Int32.toInt hK294
            have q_297 := hI294.r 10 rfl
            have e_298 : (F294 10).toInt = (F288 10).toInt := hO294
            unfold cb_X4_forStatement_192
            refine WP.bind (cs_X2_closesWith hfu (20 : Int32) F294 G294 hI294 (show 0 ≤ (F294 10).toInt by omega) (show (20 : Int32).toInt ≠ -2 by omega)) ?_
            rintro r299 F299 G299 ⟨hI299, hB299, hT299, hS299, hp299⟩
            dsimp only
            have q_300 := i_rng (F299 11)
            have e_301 : (F294 11).toInt = -2 → (F299 11).toInt = -2 := hS299
            have q_302 := hI299.r 10 rfl
            have e_303 : (F299 10).toInt = (F294 10).toInt - 1 := hp299
            unfold cb_X4_forStatement_201
            have q_304 := i_rng r212
            have q_305 := hI299.r 6 rfl
            refine WP.bind (cs_X1_aim hfu r212 (F299 6) F299 G299 hI299) ?_
            rintro r306 F306 G306 ⟨hI306, hB306, hT306, hO306, hK306, hp306⟩
            dsimp only
            have q_307 := i_rng (F306 11)
            have e_308 : (F306 11).toInt = (F299 11).toInt := congrArg Int32.toInt hK306
            have q_309 := hI306.r 10 rfl
            have e_310 : (F306 10).toInt = (F299 10).toInt := hO306
            unfold cb_X4_forStatement_217
            refine WP.bind (ih.2.2.2.2.2.1 F306 G306 hI306 (show 0 ≤ (F306 10).toInt by omega) (by omega)) ?_
            rintro r311 F311 G311 ⟨hI311, hB311, hT311, hS311, hp311⟩
            dsimp only
            have q_312 := i_rng (F311 11)
            have e_313 : (F306 11).toInt = -2 → (F311 11).toInt = -2 := hS311
            have q_314 := hI311.r 10 rfl
            have e_315 : (F311 10).toInt = (F306 10).toInt ∨ ((F311 10).toInt = (F306 10).toInt - 1 ∧ (F311 11).toInt = -2 ∧ (F306 11).toInt ≠ -2) := hp311
            unfold cb_X4_forStatement_221
            have q_316 := hI212.r 6 rfl
            refine WP.bind (cs_X1_addPair hfu (84 : Int32) (F212 6) F311 G311 hI311) ?_
            rintro r317 F317 G317 ⟨hI317, hB317, hT317, hO317, hK317, hp317⟩
            dsimp only
            have q_318 := i_rng (F317 11)
            have e_319 : (F317 11).toInt = (F311 11).toInt := congrArg Int32.toInt hK317
            have q_320 := hI317.r 10 rfl
            have e_321 : (F317 10).toInt = (F311 10).toInt := hO317
            unfold cb_X4_forStatement_232
            have q_322 := i_rng (F317 31)
            refine WP.bind (cs_X1_aim hfu (F317 31) (F212 6) F317 G317 hI317) ?_
            rintro r323 F323 G323 ⟨hI323, hB323, hT323, hO323, hK323, hp323⟩
            dsimp only
            have q_324 := i_rng (F323 11)
            have e_325 : (F323 11).toInt = (F317 11).toInt := congrArg Int32.toInt hK323
            have q_326 := hI323.r 10 rfl
            have e_327 : (F323 10).toInt = (F317 10).toInt := hO323
            unfold cb_X4_forStatement_245
            have q_328 := i_rng r198
            have q_329 := hI323.r 6 rfl
            refine WP.bind (cs_X1_aim hfu r198 (F323 6) F323 G323 hI323) ?_
            rintro r330 F330 G330 ⟨hI330, hB330, hT330, hO330, hK330, hp330⟩
            dsimp only
            have q_331 := i_rng (F330 11)
            have e_332 : (F330 11).toInt = (F323 11).toInt := congrArg Int32.toInt hK330
            have q_333 := hI330.r 10 rfl
            have e_334 : (F330 10).toInt = (F323 10).toInt := hO330
            unfold cb_X4_forStatement_261
            have q_335 := i_rng (F330 30)
            have q_336 := hI330.r 6 rfl
            refine WP.bind (cs_X1_aim hfu (F330 30) (F330 6) F330 G330 hI330) ?_
            rintro r337 F337 G337 ⟨hI337, hB337, hT337, hO337, hK337, hp337⟩
            dsimp only
            have q_338 := i_rng (F337 11)
            have e_339 : (F337 11).toInt = (F330 11).toInt := congrArg Int32.toInt hK337
            have q_340 := hI337.r 10 rfl
            have e_341 : (F337 10).toInt = (F330 10).toInt := hO337
            unfold cb_X4_forStatement_279
            refine WP.bind (cs_X5_leave hfu F337 G337 hI337) ?_
            rintro r342 F342 G342 ⟨hI342, hB342, hT342, hO342, hK342, hp342⟩
            dsimp only
            have q_343 := i_rng (F342 11)
            have e_344 : (F342 11).toInt = (F337 11).toInt := congrArg Int32.toInt hK342
            have q_345 := hI342.r 10 rfl
            have e_346 : (F342 10).toInt = (F337 10).toInt := hO342
            unfold cb_X4_forStatement_286
            have q_347 := i_rng (F2 30)
            have j_348 : CI (fup F342 30 (F2 30)) G342 := CI.fr rfl hI342
            unfold cb_X4_forStatement_291
            have q_349 := i_rng (F2 31)
            have j_350 : CI (fup (fup F342 30 (F2 30)) 31 (F2 31)) G342 := CI.fr rfl j_348
            unfold cb_X4_forStatement_296
            refine WP.bind (cs_X2_closes hfu (fup (fup F342 30 (F2 30)) 31 (F2 31)) G342 j_350 (show 0 ≤ (F342 10).toInt by omega)) ?_
            rintro r351 F351 G351 ⟨hI351, hB351, hT351, hK351, hp351⟩
            dsimp only
            have q_352 := i_rng (F351 11)
            have e_353 : (F351 11).toInt = (F342 11).toInt := congrArg Int32.toInt hK351
            have q_354 := hI351.r 10 rfl
            have e_355 : (F351 10).toInt = (F342 10).toInt - 1 := hp351
            unfold cb_X4_forStatement_303
            refine WP.ret ?_
            exact ⟨hI351, (KB.tr (KB.f (by decide) (KB.f (by decide) (KB.tr (KB.tr (KB.tr (KB.tr (KB.tr (KB.tr (KB.tr (KB.tr (KB.tr (KB.tr (KB.tr (KB.tr (KB.tr (KB.tr (KB.tr (KB.tr (KB.tr (KB.tr (KB.rf : KB F G F G) hB2) hB16) hB22) hB34) hB191) hB198) hB206) hB212) hB288) hB294) hB299) hB306) hB311) hB317) hB323) hB330) hB337) hB342))) hB351), (KT.tr (KT.f (by decide) (KT.f (by decide) (KT.tr (KT.tr (KT.tr (KT.tr (KT.tr (KT.tr (KT.tr (KT.tr (KT.tr (KT.tr (KT.tr (KT.tr (KT.tr (KT.tr (KT.tr (KT.tr (KT.tr (KT.tr (rfl : KT F F) hT2) hT16) hT22) hT34) hT191) hT198) hT206) hT212) hT288) hT294) hT299) hT306) hT311) hT317) hT323) hT330) hT337) hT342))) hT351), (show (F 11).toInt = -2 → (F351 11).toInt = -2 by omega), (show (F351 10).toInt = (F 10).toInt ∨ ((F351 10).toInt = (F 10).toInt - 1 ∧ (F351 11).toInt = -2 ∧ (F 11).toInt ≠ -2) by omega)⟩
      · skip
        have e_356 := mt i_eq.mpr (show ¬ (r22 = (0 : Int32)) from c_31)
        unfold cb_X4_forStatement_67
        refine WP.ite (fun c_357 => ?_) (fun c_357 => ?_)
        · skip
          have l_358 : (26 : Int32).toInt = 26 := rfl
          have e_359 := i_eq.mp (show (F22 11) = (26 : Int32) from c_357)
          unfold cb_X4_forStatement_83
          refine WP.bind (cs_X2_expect hfu (26 : Int32) F22 G22 hI22 (show (26 : Int32).toInt ≠ -2 by omega)) ?_
          rintro r360 F360 G360 ⟨hI360, hB360, hT360, hO360, hS360, hp360⟩
          dsimp only
          have q_361 := i_rng (F360 11)
          have e_362 : (F22 11).toInt = -2 → (F360 11).toInt = -2 := hS360
          have q_363 := hI360.r 10 rfl
          have e_364 : (F360 10).toInt = (F22 10).toInt := hO360
          unfold cb_X4_forStatement_92
          refine WP.ite (fun c_365 => ?_) (fun c_365 => ?_)
          · skip
            have e_366 := i_eq.mp (show (F360 11) = (26 : Int32) from c_365)
            unfold cb_X4_forStatement_135
            refine WP.bind (cs_X2_expect hfu (26 : Int32) F360 G360 hI360 (show (26 : Int32).toInt ≠ -2 by omega)) ?_
            rintro r367 F367 G367 ⟨hI367, hB367, hT367, hO367, hS367, hp367⟩
            dsimp only
            have q_368 := i_rng (F367 11)
            have e_369 : (F360 11).toInt = -2 → (F367 11).toInt = -2 := hS367
            have q_370 := hI367.r 10 rfl
            have e_371 : (F367 10).toInt = (F360 10).toInt := hO367
            unfold cb_X4_forStatement_144
            have l_372 : (84 : Int32).toInt = 84 := rfl
            have l_373 : (-1 : Int32).toInt = -1 := rfl
            refine WP.bind (cs_X1_addJump hfu (84 : Int32) (-1 : Int32) F367 G367 hI367) ?_
            rintro r374 F374 G374 ⟨hI374, hB374, hT374, hO374, hK374, hp374⟩
            dsimp only
            have q_375 := i_rng (F374 11)
            have e_376 : (F374 11).toInt = (F367 11).toInt := congrArg Int32.toInt hK374
            have q_377 := hI374.r 10 rfl
            have e_378 : (F374 10).toInt = (F367 10).toInt := hO374
            have q_379 := hI367.r 21 rfl
            have q_380 := hI374.r 21 rfl
            have e_381 : (F374 21).toInt = (F367 21).toInt := congrArg Int32.toInt hp374
            unfold cb_X4_forStatement_154
            refine WP.ite (fun c_382 => ?_) (fun c_382 => ?_)
            · skip
              have l_383 : (20 : Int32).toInt = 20 := rfl
              have e_384 := i_eq.mp (show (F374 11) = (20 : Int32) from c_382)
              unfold cb_X4_forStatement_181
              have q_385 := hI360.r 6 rfl
              refine WP.bind (cs_X1_addPair hfu (84 : Int32) (F360 6) F374 G374 hI374) ?_
              rintro r386 F386 G386 ⟨hI386, hB386, hT386, hO386, hK386, hp386⟩
              dsimp only
              have q_387 := i_rng (F386 11)
              have e_388 : (F386 11).toInt = (F374 11).toInt := congrArg Int32.toInt hK386
              have q_389 := hI386.r 10 rfl
              have e_390 : (F386 10).toInt = (F374 10).toInt := hO386
              unfold cb_X4_forStatement_192
              refine WP.bind (cs_X2_closesWith hfu (20 : Int32) F386 G386 hI386 (show 0 ≤ (F386 10).toInt by omega) (show (20 : Int32).toInt ≠ -2 by omega)) ?_
              rintro r391 F391 G391 ⟨hI391, hB391, hT391, hS391, hp391⟩
              dsimp only
              have q_392 := i_rng (F391 11)
              have e_393 : (F386 11).toInt = -2 → (F391 11).toInt = -2 := hS391
              have q_394 := hI391.r 10 rfl
              have e_395 : (F391 10).toInt = (F386 10).toInt - 1 := hp391
              unfold cb_X4_forStatement_201
              have q_396 := i_rng r374
              have q_397 := hI391.r 6 rfl
              refine WP.bind (cs_X1_aim hfu r374 (F391 6) F391 G391 hI391) ?_
              rintro r398 F398 G398 ⟨hI398, hB398, hT398, hO398, hK398, hp398⟩
              dsimp only
              have q_399 := i_rng (F398 11)
              have e_400 : (F398 11).toInt = (F391 11).toInt := congrArg Int32.toInt hK398
              have q_401 := hI398.r 10 rfl
              have e_402 : (F398 10).toInt = (F391 10).toInt := hO398
              unfold cb_X4_forStatement_217
              refine WP.bind (ih.2.2.2.2.2.1 F398 G398 hI398 (show 0 ≤ (F398 10).toInt by omega) (by omega)) ?_
              rintro r403 F403 G403 ⟨hI403, hB403, hT403, hS403, hp403⟩
              dsimp only
              have q_404 := i_rng (F403 11)
              have e_405 : (F398 11).toInt = -2 → (F403 11).toInt = -2 := hS403
              have q_406 := hI403.r 10 rfl
              have e_407 : (F403 10).toInt = (F398 10).toInt ∨ ((F403 10).toInt = (F398 10).toInt - 1 ∧ (F403 11).toInt = -2 ∧ (F398 11).toInt ≠ -2) := hp403
              unfold cb_X4_forStatement_221
              have q_408 := hI374.r 6 rfl
              refine WP.bind (cs_X1_addPair hfu (84 : Int32) (F374 6) F403 G403 hI403) ?_
              rintro r409 F409 G409 ⟨hI409, hB409, hT409, hO409, hK409, hp409⟩
              dsimp only
              have q_410 := i_rng (F409 11)
              have e_411 : (F409 11).toInt = (F403 11).toInt := congrArg Int32.toInt hK409
              have q_412 := hI409.r 10 rfl
              have e_413 : (F409 10).toInt = (F403 10).toInt := hO409
              unfold cb_X4_forStatement_232
              have q_414 := i_rng (F409 31)
              refine WP.bind (cs_X1_aim hfu (F409 31) (F374 6) F409 G409 hI409) ?_
              rintro r415 F415 G415 ⟨hI415, hB415, hT415, hO415, hK415, hp415⟩
              dsimp only
              have q_416 := i_rng (F415 11)
              have e_417 : (F415 11).toInt = (F409 11).toInt := congrArg Int32.toInt hK415
              have q_418 := hI415.r 10 rfl
              have e_419 : (F415 10).toInt = (F409 10).toInt := hO415
              unfold cb_X4_forStatement_245
              have q_420 := hI415.r 6 rfl
              refine WP.bind (cs_X1_aim hfu (-1 : Int32) (F415 6) F415 G415 hI415) ?_
              rintro r421 F421 G421 ⟨hI421, hB421, hT421, hO421, hK421, hp421⟩
              dsimp only
              have q_422 := i_rng (F421 11)
              have e_423 : (F421 11).toInt = (F415 11).toInt := congrArg Int32.toInt hK421
              have q_424 := hI421.r 10 rfl
              have e_425 : (F421 10).toInt = (F415 10).toInt := hO421
              unfold cb_X4_forStatement_261
              have q_426 := i_rng (F421 30)
              have q_427 := hI421.r 6 rfl
              refine WP.bind (cs_X1_aim hfu (F421 30) (F421 6) F421 G421 hI421) ?_
              rintro r428 F428 G428 ⟨hI428, hB428, hT428, hO428, hK428, hp428⟩
              dsimp only
              have q_429 := i_rng (F428 11)
              have e_430 : (F428 11).toInt = (F421 11).toInt := congrArg Int32.toInt hK428
              have q_431 := hI428.r 10 rfl
              have e_432 : (F428 10).toInt = (F421 10).toInt := hO428
              unfold cb_X4_forStatement_279
              refine WP.bind (cs_X5_leave hfu F428 G428 hI428) ?_
              rintro r433 F433 G433 ⟨hI433, hB433, hT433, hO433, hK433, hp433⟩
              dsimp only
              have q_434 := i_rng (F433 11)
              have e_435 : (F433 11).toInt = (F428 11).toInt := congrArg Int32.toInt hK433
              have q_436 := hI433.r 10 rfl
              have e_437 : (F433 10).toInt = (F428 10).toInt := hO433
              unfold cb_X4_forStatement_286
              have q_438 := i_rng (F2 30)
              have j_439 : CI (fup F433 30 (F2 30)) G433 := CI.fr rfl hI433
              unfold cb_X4_forStatement_291
              have q_440 := i_rng (F2 31)
              have j_441 : CI (fup (fup F433 30 (F2 30)) 31 (F2 31)) G433 := CI.fr rfl j_439
              unfold cb_X4_forStatement_296
              refine WP.bind (cs_X2_closes hfu (fup (fup F433 30 (F2 30)) 31 (F2 31)) G433 j_441 (show 0 ≤ (F433 10).toInt by omega)) ?_
              rintro r442 F442 G442 ⟨hI442, hB442, hT442, hK442, hp442⟩
              dsimp only
              have q_443 := i_rng (F442 11)
              have e_444 : (F442 11).toInt = (F433 11).toInt := congrArg Int32.toInt hK442
              have q_445 := hI442.r 10 rfl
              have e_446 : (F442 10).toInt = (F433 10).toInt - 1 := hp442
              unfold cb_X4_forStatement_303
              refine WP.ret ?_
              exact ⟨hI442, (KB.tr (KB.f (by decide) (KB.f (by decide) (KB.tr (KB.tr (KB.tr (KB.tr (KB.tr (KB.tr (KB.tr (KB.tr (KB.tr (KB.tr (KB.tr (KB.tr (KB.tr (KB.tr (KB.tr (KB.rf : KB F G F G) hB2) hB16) hB22) hB360) hB367) hB374) hB386) hB391) hB398) hB403) hB409) hB415) hB421) hB428) hB433))) hB442), (KT.tr (KT.f (by decide) (KT.f (by decide) (KT.tr (KT.tr (KT.tr (KT.tr (KT.tr (KT.tr (KT.tr (KT.tr (KT.tr (KT.tr (KT.tr (KT.tr (KT.tr (KT.tr (KT.tr (rfl : KT F F) hT2) hT16) hT22) hT360) hT367) hT374) hT386) hT391) hT398) hT403) hT409) hT415) hT421) hT428) hT433))) hT442), (show (F 11).toInt = -2 → (F442 11).toInt = -2 by omega), (show (F442 10).toInt = (F 10).toInt ∨ ((F442 10).toInt = (F 10).toInt - 1 ∧ (F442 11).toInt = -2 ∧ (F 11).toInt ≠ -2) by omega)⟩
            · skip
              have l_447 : (20 : Int32).toInt = 20 := rfl
              have e_448 := mt i_eq.mpr (show ¬ ((F374 11) = (20 : Int32)) from c_382)
              unfold cb_X4_forStatement_177
              refine WP.bind (cs_X4_simple hfu F374 G374 hI374) ?_
              rintro r449 F449 G449 ⟨hI449, hB449, hT449, hO449, hS449, hp449⟩
              dsimp only
              have q_450 := i_rng (F449 11)
              have e_451 : (F374 11).toInt = -2 → (F449 11).toInt = -2 := hS449
              have q_452 := hI449.r 10 rfl
              have e_453 : (F449 10).toInt = (F374 10).toInt := hO449
              unfold cb_X4_forStatement_181
              have q_454 := hI360.r 6 rfl
              refine WP.bind (cs_X1_addPair hfu (84 : Int32) (F360 6) F449 G449 hI449) ?_
              rintro r455 F455 G455 ⟨hI455, hB455, hT455, hO455, hK455, hp455⟩
              dsimp only
              have q_456 := i_rng (F455 11)
              have e_457 : (F455 11).toInt = (F449 11).toInt := congrArg Int32.toInt hK455
              have q_458 := hI455.r 10 rfl
              have e_459 : (F455 10).toInt = (F449 10).toInt := hO455
              unfold cb_X4_forStatement_192
              refine WP.bind (cs_X2_closesWith hfu (20 : Int32) F455 G455 hI455 (show 0 ≤ (F455 10).toInt by omega) (show (20 : Int32).toInt ≠ -2 by omega)) ?_
              rintro r460 F460 G460 ⟨hI460, hB460, hT460, hS460, hp460⟩
              dsimp only
              have q_461 := i_rng (F460 11)
              have e_462 : (F455 11).toInt = -2 → (F460 11).toInt = -2 := hS460
              have q_463 := hI460.r 10 rfl
              have e_464 : (F460 10).toInt = (F455 10).toInt - 1 := hp460
              unfold cb_X4_forStatement_201
              have q_465 := i_rng r374
              have q_466 := hI460.r 6 rfl
              refine WP.bind (cs_X1_aim hfu r374 (F460 6) F460 G460 hI460) ?_
              rintro r467 F467 G467 ⟨hI467, hB467, hT467, hO467, hK467, hp467⟩
              dsimp only
              have q_468 := i_rng (F467 11)
              have e_469 : (F467 11).toInt = (F460 11).toInt := congrArg Int32.toInt hK467
              have q_470 := hI467.r 10 rfl
              have e_471 : (F467 10).toInt = (F460 10).toInt := hO467
              unfold cb_X4_forStatement_217
              refine WP.bind (ih.2.2.2.2.2.1 F467 G467 hI467 (show 0 ≤ (F467 10).toInt by omega) (by omega)) ?_
              rintro r472 F472 G472 ⟨hI472, hB472, hT472, hS472, hp472⟩
              dsimp only
              have q_473 := i_rng (F472 11)
              have e_474 : (F467 11).toInt = -2 → (F472 11).toInt = -2 := hS472
              have q_475 := hI472.r 10 rfl
              have e_476 : (F472 10).toInt = (F467 10).toInt ∨ ((F472 10).toInt = (F467 10).toInt - 1 ∧ (F472 11).toInt = -2 ∧ (F467 11).toInt ≠ -2) := hp472
              unfold cb_X4_forStatement_221
              have q_477 := hI374.r 6 rfl
              refine WP.bind (cs_X1_addPair hfu (84 : Int32) (F374 6) F472 G472 hI472) ?_
              rintro r478 F478 G478 ⟨hI478, hB478, hT478, hO478, hK478, hp478⟩
              dsimp only
              have q_479 := i_rng (F478 11)
              have e_480 : (F478 11).toInt = (F472 11).toInt := congrArg Int32.toInt hK478
              have q_481 := hI478.r 10 rfl
              have e_482 : (F478 10).toInt = (F472 10).toInt := hO478
              unfold cb_X4_forStatement_232
              have q_483 := i_rng (F478 31)
              refine WP.bind (cs_X1_aim hfu (F478 31) (F374 6) F478 G478 hI478) ?_
              rintro r484 F484 G484 ⟨hI484, hB484, hT484, hO484, hK484, hp484⟩
              dsimp only
              have q_485 := i_rng (F484 11)
              have e_486 : (F484 11).toInt = (F478 11).toInt := congrArg Int32.toInt hK484
              have q_487 := hI484.r 10 rfl
              have e_488 : (F484 10).toInt = (F478 10).toInt := hO484
              unfold cb_X4_forStatement_245
              have q_489 := hI484.r 6 rfl
              refine WP.bind (cs_X1_aim hfu (-1 : Int32) (F484 6) F484 G484 hI484) ?_
              rintro r490 F490 G490 ⟨hI490, hB490, hT490, hO490, hK490, hp490⟩
              dsimp only
              have q_491 := i_rng (F490 11)
              have e_492 : (F490 11).toInt = (F484 11).toInt := congrArg Int32.toInt hK490
              have q_493 := hI490.r 10 rfl
              have e_494 : (F490 10).toInt = (F484 10).toInt := hO490
              unfold cb_X4_forStatement_261
              have q_495 := i_rng (F490 30)
              have q_496 := hI490.r 6 rfl
              refine WP.bind (cs_X1_aim hfu (F490 30) (F490 6) F490 G490 hI490) ?_
              rintro r497 F497 G497 ⟨hI497, hB497, hT497, hO497, hK497, hp497⟩
              dsimp only
              have q_498 := i_rng (F497 11)
              have e_499 : (F497 11).toInt = (F490 11).toInt := congrArg Int32.toInt hK497
              have q_500 := hI497.r 10 rfl
              have e_501 : (F497 10).toInt = (F490 10).toInt := hO497
              unfold cb_X4_forStatement_279
              refine WP.bind (cs_X5_leave hfu F497 G497 hI497) ?_
              rintro r502 F502 G502 ⟨hI502, hB502, hT502, hO502, hK502, hp502⟩
              dsimp only
              have q_503 := i_rng (F502 11)
              have e_504 : (F502 11).toInt = (F497 11).toInt := congrArg Int32.toInt hK502
              have q_505 := hI502.r 10 rfl
              have e_506 : (F502 10).toInt = (F497 10).toInt := hO502
              unfold cb_X4_forStatement_286
              have q_507 := i_rng (F2 30)
              have j_508 : CI (fup F502 30 (F2 30)) G502 := CI.fr rfl hI502
              unfold cb_X4_forStatement_291
              have q_509 := i_rng (F2 31)
              have j_510 : CI (fup (fup F502 30 (F2 30)) 31 (F2 31)) G502 := CI.fr rfl j_508
              unfold cb_X4_forStatement_296
              refine WP.bind (cs_X2_closes hfu (fup (fup F502 30 (F2 30)) 31 (F2 31)) G502 j_510 (show 0 ≤ (F502 10).toInt by omega)) ?_
              rintro r511 F511 G511 ⟨hI511, hB511, hT511, hK511, hp511⟩
              dsimp only
              have q_512 := i_rng (F511 11)
              have e_513 : (F511 11).toInt = (F502 11).toInt := congrArg Int32.toInt hK511
              have q_514 := hI511.r 10 rfl
              have e_515 : (F511 10).toInt = (F502 10).toInt - 1 := hp511
              unfold cb_X4_forStatement_303
              refine WP.ret ?_
              exact ⟨hI511, (KB.tr (KB.f (by decide) (KB.f (by decide) (KB.tr (KB.tr (KB.tr (KB.tr (KB.tr (KB.tr (KB.tr (KB.tr (KB.tr (KB.tr (KB.tr (KB.tr (KB.tr (KB.tr (KB.tr (KB.tr (KB.rf : KB F G F G) hB2) hB16) hB22) hB360) hB367) hB374) hB449) hB455) hB460) hB467) hB472) hB478) hB484) hB490) hB497) hB502))) hB511), (KT.tr (KT.f (by decide) (KT.f (by decide) (KT.tr (KT.tr (KT.tr (KT.tr (KT.tr (KT.tr (KT.tr (KT.tr (KT.tr (KT.tr (KT.tr (KT.tr (KT.tr (KT.tr (KT.tr (KT.tr (rfl : KT F F) hT2) hT16) hT22) hT360) hT367) hT374) hT449) hT455) hT460) hT467) hT472) hT478) hT484) hT490) hT497) hT502))) hT511), (show (F 11).toInt = -2 → (F511 11).toInt = -2 by omega), (show (F511 10).toInt = (F 10).toInt ∨ ((F511 10).toInt = (F 10).toInt - 1 ∧ (F511 11).toInt = -2 ∧ (F 11).toInt ≠ -2) by omega)⟩
          · skip
            have e_516 := mt i_eq.mpr (show ¬ ((F360 11) = (26 : Int32)) from c_365)
            unfold cb_X4_forStatement_116
            refine WP.bind (cs_X3_expression hfu F360 G360 hI360) ?_
            rintro r517 F517 G517 ⟨hI517, hB517, hT517, hO517, hS517, hp517⟩
            dsimp only
            have q_518 := i_rng (F517 11)
            have e_519 : (F360 11).toInt = -2 → (F517 11).toInt = -2 := hS517
            have q_520 := hI517.r 10 rfl
            have e_521 : (F517 10).toInt = (F360 10).toInt := hO517
            unfold cb_X4_forStatement_123
            have l_522 : (86 : Int32).toInt = 86 := rfl
            have l_523 : (-1 : Int32).toInt = -1 := rfl
            refine WP.bind (cs_X1_addJump hfu (86 : Int32) (-1 : Int32) F517 G517 hI517) ?_
            rintro r524 F524 G524 ⟨hI524, hB524, hT524, hO524, hK524, hp524⟩
            dsimp only
            have q_525 := i_rng (F524 11)
            have e_526 : (F524 11).toInt = (F517 11).toInt := congrArg Int32.toInt hK524
            have q_527 := hI524.r 10 rfl
            have e_528 : (F524 10).toInt = (F517 10).toInt := hO524
            have q_529 := hI517.r 21 rfl
            have q_530 := hI524.r 21 rfl
            have e_531 : (F524 21).toInt = (F517 21).toInt := congrArg Int32.toInt hp524
            unfold cb_X4_forStatement_133
            unfold cb_X4_forStatement_135
            refine WP.bind (cs_X2_expect hfu (26 : Int32) F524 G524 hI524 (show (26 : Int32).toInt ≠ -2 by omega)) ?_
            rintro r532 F532 G532 ⟨hI532, hB532, hT532, hO532, hS532, hp532⟩
            dsimp only
            have q_533 := i_rng (F532 11)
            have e_534 : (F524 11).toInt = -2 → (F532 11).toInt = -2 := hS532
            have q_535 := hI532.r 10 rfl
            have e_536 : (F532 10).toInt = (F524 10).toInt := hO532
            unfold cb_X4_forStatement_144
            have l_537 : (84 : Int32).toInt = 84 := rfl
            refine WP.bind (cs_X1_addJump hfu (84 : Int32) (-1 : Int32) F532 G532 hI532) ?_
            rintro r538 F538 G538 ⟨hI538, hB538, hT538, hO538, hK538, hp538⟩
            dsimp only
            have q_539 := i_rng (F538 11)
            have e_540 : (F538 11).toInt = (F532 11).toInt := congrArg Int32.toInt hK538
            have q_541 := hI538.r 10 rfl
            have e_542 : (F538 10).toInt = (F532 10).toInt := hO538
            have q_543 := hI532.r 21 rfl
            have q_544 := hI538.r 21 rfl
            have e_545 : (F538 21).toInt = (F532 21).toInt := congrArg Int32.toInt hp538
            unfold cb_X4_forStatement_154
            refine WP.ite (fun c_546 => ?_) (fun c_546 => ?_)
            · skip
              have l_547 : (20 : Int32).toInt = 20 := rfl
              have e_548 := i_eq.mp (show (F538 11) = (20 : Int32) from c_546)
              unfold cb_X4_forStatement_181
              have q_549 := hI360.r 6 rfl
              refine WP.bind (cs_X1_addPair hfu (84 : Int32) (F360 6) F538 G538 hI538) ?_
              rintro r550 F550 G550 ⟨hI550, hB550, hT550, hO550, hK550, hp550⟩
              dsimp only
              have q_551 := i_rng (F550 11)
              have e_552 : (F550 11).toInt = (F538 11).toInt := congrArg Int32.toInt hK550
              have q_553 := hI550.r 10 rfl
              have e_554 : (F550 10).toInt = (F538 10).toInt := hO550
              unfold cb_X4_forStatement_192
              refine WP.bind (cs_X2_closesWith hfu (20 : Int32) F550 G550 hI550 (show 0 ≤ (F550 10).toInt by omega) (show (20 : Int32).toInt ≠ -2 by omega)) ?_
              rintro r555 F555 G555 ⟨hI555, hB555, hT555, hS555, hp555⟩
              dsimp only
              have q_556 := i_rng (F555 11)
              have e_557 : (F550 11).toInt = -2 → (F555 11).toInt = -2 := hS555
              have q_558 := hI555.r 10 rfl
              have e_559 : (F555 10).toInt = (F550 10).toInt - 1 := hp555
              unfold cb_X4_forStatement_201
              have q_560 := i_rng r538
              have q_561 := hI555.r 6 rfl
              refine WP.bind (cs_X1_aim hfu r538 (F555 6) F555 G555 hI555) ?_
              rintro r562 F562 G562 ⟨hI562, hB562, hT562, hO562, hK562, hp562⟩
              dsimp only
              have q_563 := i_rng (F562 11)
              have e_564 : (F562 11).toInt = (F555 11).toInt := congrArg Int32.toInt hK562
              have q_565 := hI562.r 10 rfl
              have e_566 : (F562 10).toInt = (F555 10).toInt := hO562
              unfold cb_X4_forStatement_217
              refine WP.bind (ih.2.2.2.2.2.1 F562 G562 hI562 (show 0 ≤ (F562 10).toInt by omega) (by omega)) ?_
              rintro r567 F567 G567 ⟨hI567, hB567, hT567, hS567, hp567⟩
              dsimp only
              have q_568 := i_rng (F567 11)
              have e_569 : (F562 11).toInt = -2 → (F567 11).toInt = -2 := hS567
              have q_570 := hI567.r 10 rfl
              have e_571 : (F567 10).toInt = (F562 10).toInt ∨ ((F567 10).toInt = (F562 10).toInt - 1 ∧ (F567 11).toInt = -2 ∧ (F562 11).toInt ≠ -2) := hp567
              unfold cb_X4_forStatement_221
              have q_572 := hI538.r 6 rfl
              refine WP.bind (cs_X1_addPair hfu (84 : Int32) (F538 6) F567 G567 hI567) ?_
              rintro r573 F573 G573 ⟨hI573, hB573, hT573, hO573, hK573, hp573⟩
              dsimp only
              have q_574 := i_rng (F573 11)
              have e_575 : (F573 11).toInt = (F567 11).toInt := congrArg Int32.toInt hK573
              have q_576 := hI573.r 10 rfl
              have e_577 : (F573 10).toInt = (F567 10).toInt := hO573
              unfold cb_X4_forStatement_232
              have q_578 := i_rng (F573 31)
              refine WP.bind (cs_X1_aim hfu (F573 31) (F538 6) F573 G573 hI573) ?_
              rintro r579 F579 G579 ⟨hI579, hB579, hT579, hO579, hK579, hp579⟩
              dsimp only
              have q_580 := i_rng (F579 11)
              have e_581 : (F579 11).toInt = (F573 11).toInt := congrArg Int32.toInt hK579
              have q_582 := hI579.r 10 rfl
              have e_583 : (F579 10).toInt = (F573 10).toInt := hO579
              unfold cb_X4_forStatement_245
              have q_584 := i_rng r524
              have q_585 := hI579.r 6 rfl
              refine WP.bind (cs_X1_aim hfu r524 (F579 6) F579 G579 hI579) ?_
              rintro r586 F586 G586 ⟨hI586, hB586, hT586, hO586, hK586, hp586⟩
              dsimp only
              have q_587 := i_rng (F586 11)
              have e_588 : (F586 11).toInt = (F579 11).toInt := congrArg Int32.toInt hK586
              have q_589 := hI586.r 10 rfl
              have e_590 : (F586 10).toInt = (F579 10).toInt := hO586
              unfold cb_X4_forStatement_261
              have q_591 := i_rng (F586 30)
              have q_592 := hI586.r 6 rfl
              refine WP.bind (cs_X1_aim hfu (F586 30) (F586 6) F586 G586 hI586) ?_
              rintro r593 F593 G593 ⟨hI593, hB593, hT593, hO593, hK593, hp593⟩
              dsimp only
              have q_594 := i_rng (F593 11)
              have e_595 : (F593 11).toInt = (F586 11).toInt := congrArg Int32.toInt hK593
              have q_596 := hI593.r 10 rfl
              have e_597 : (F593 10).toInt = (F586 10).toInt := hO593
              unfold cb_X4_forStatement_279
              refine WP.bind (cs_X5_leave hfu F593 G593 hI593) ?_
              rintro r598 F598 G598 ⟨hI598, hB598, hT598, hO598, hK598, hp598⟩
              dsimp only
              have q_599 := i_rng (F598 11)
              have e_600 : (F598 11).toInt = (F593 11).toInt := congrArg Int32.toInt hK598
              have q_601 := hI598.r 10 rfl
              have e_602 : (F598 10).toInt = (F593 10).toInt := hO598
              unfold cb_X4_forStatement_286
              have q_603 := i_rng (F2 30)
              have j_604 : CI (fup F598 30 (F2 30)) G598 := CI.fr rfl hI598
              unfold cb_X4_forStatement_291
              have q_605 := i_rng (F2 31)
              have j_606 : CI (fup (fup F598 30 (F2 30)) 31 (F2 31)) G598 := CI.fr rfl j_604
              unfold cb_X4_forStatement_296
              refine WP.bind (cs_X2_closes hfu (fup (fup F598 30 (F2 30)) 31 (F2 31)) G598 j_606 (show 0 ≤ (F598 10).toInt by omega)) ?_
              rintro r607 F607 G607 ⟨hI607, hB607, hT607, hK607, hp607⟩
              dsimp only
              have q_608 := i_rng (F607 11)
              have e_609 : (F607 11).toInt = (F598 11).toInt := congrArg Int32.toInt hK607
              have q_610 := hI607.r 10 rfl
              have e_611 : (F607 10).toInt = (F598 10).toInt - 1 := hp607
              unfold cb_X4_forStatement_303
              refine WP.ret ?_
              exact ⟨hI607, (KB.tr (KB.f (by decide) (KB.f (by decide) (KB.tr (KB.tr (KB.tr (KB.tr (KB.tr (KB.tr (KB.tr (KB.tr (KB.tr (KB.tr (KB.tr (KB.tr (KB.tr (KB.tr (KB.tr (KB.tr (KB.tr (KB.rf : KB F G F G) hB2) hB16) hB22) hB360) hB517) hB524) hB532) hB538) hB550) hB555) hB562) hB567) hB573) hB579) hB586) hB593) hB598))) hB607), (KT.tr (KT.f (by decide) (KT.f (by decide) (KT.tr (KT.tr (KT.tr (KT.tr (KT.tr (KT.tr (KT.tr (KT.tr (KT.tr (KT.tr (KT.tr (KT.tr (KT.tr (KT.tr (KT.tr (KT.tr (KT.tr (rfl : KT F F) hT2) hT16) hT22) hT360) hT517) hT524) hT532) hT538) hT550) hT555) hT562) hT567) hT573) hT579) hT586) hT593) hT598))) hT607), (show (F 11).toInt = -2 → (F607 11).toInt = -2 by omega), (show (F607 10).toInt = (F 10).toInt ∨ ((F607 10).toInt = (F 10).toInt - 1 ∧ (F607 11).toInt = -2 ∧ (F 11).toInt ≠ -2) by omega)⟩
            · skip
              have l_612 : (20 : Int32).toInt = 20 := rfl
              have e_613 := mt i_eq.mpr (show ¬ ((F538 11) = (20 : Int32)) from c_546)
              unfold cb_X4_forStatement_177
              refine WP.bind (cs_X4_simple hfu F538 G538 hI538) ?_
              rintro r614 F614 G614 ⟨hI614, hB614, hT614, hO614, hS614, hp614⟩
              dsimp only
              have q_615 := i_rng (F614 11)
              have e_616 : (F538 11).toInt = -2 → (F614 11).toInt = -2 := hS614
              have q_617 := hI614.r 10 rfl
              have e_618 : (F614 10).toInt = (F538 10).toInt := hO614
              unfold cb_X4_forStatement_181
              have q_619 := hI360.r 6 rfl
              refine WP.bind (cs_X1_addPair hfu (84 : Int32) (F360 6) F614 G614 hI614) ?_
              rintro r620 F620 G620 ⟨hI620, hB620, hT620, hO620, hK620, hp620⟩
              dsimp only
              have q_621 := i_rng (F620 11)
              have e_622 : (F620 11).toInt = (F614 11).toInt := congrArg Int32.toInt hK620
              have q_623 := hI620.r 10 rfl
              have e_624 : (F620 10).toInt = (F614 10).toInt := hO620
              unfold cb_X4_forStatement_192
              refine WP.bind (cs_X2_closesWith hfu (20 : Int32) F620 G620 hI620 (show 0 ≤ (F620 10).toInt by omega) (show (20 : Int32).toInt ≠ -2 by omega)) ?_
              rintro r625 F625 G625 ⟨hI625, hB625, hT625, hS625, hp625⟩
              dsimp only
              have q_626 := i_rng (F625 11)
              have e_627 : (F620 11).toInt = -2 → (F625 11).toInt = -2 := hS625
              have q_628 := hI625.r 10 rfl
              have e_629 : (F625 10).toInt = (F620 10).toInt - 1 := hp625
              unfold cb_X4_forStatement_201
              have q_630 := i_rng r538
              have q_631 := hI625.r 6 rfl
              refine WP.bind (cs_X1_aim hfu r538 (F625 6) F625 G625 hI625) ?_
              rintro r632 F632 G632 ⟨hI632, hB632, hT632, hO632, hK632, hp632⟩
              dsimp only
              have q_633 := i_rng (F632 11)
              have e_634 : (F632 11).toInt = (F625 11).toInt := congrArg Int32.toInt hK632
              have q_635 := hI632.r 10 rfl
              have e_636 : (F632 10).toInt = (F625 10).toInt := hO632
              unfold cb_X4_forStatement_217
              refine WP.bind (ih.2.2.2.2.2.1 F632 G632 hI632 (show 0 ≤ (F632 10).toInt by omega) (by omega)) ?_
              rintro r637 F637 G637 ⟨hI637, hB637, hT637, hS637, hp637⟩
              dsimp only
              have q_638 := i_rng (F637 11)
              have e_639 : (F632 11).toInt = -2 → (F637 11).toInt = -2 := hS637
              have q_640 := hI637.r 10 rfl
              have e_641 : (F637 10).toInt = (F632 10).toInt ∨ ((F637 10).toInt = (F632 10).toInt - 1 ∧ (F637 11).toInt = -2 ∧ (F632 11).toInt ≠ -2) := hp637
              unfold cb_X4_forStatement_221
              have q_642 := hI538.r 6 rfl
              refine WP.bind (cs_X1_addPair hfu (84 : Int32) (F538 6) F637 G637 hI637) ?_
              rintro r643 F643 G643 ⟨hI643, hB643, hT643, hO643, hK643, hp643⟩
              dsimp only
              have q_644 := i_rng (F643 11)
              have e_645 : (F643 11).toInt = (F637 11).toInt := congrArg Int32.toInt hK643
              have q_646 := hI643.r 10 rfl
              have e_647 : (F643 10).toInt = (F637 10).toInt := hO643
              unfold cb_X4_forStatement_232
              have q_648 := i_rng (F643 31)
              refine WP.bind (cs_X1_aim hfu (F643 31) (F538 6) F643 G643 hI643) ?_
              rintro r649 F649 G649 ⟨hI649, hB649, hT649, hO649, hK649, hp649⟩
              dsimp only
              have q_650 := i_rng (F649 11)
              have e_651 : (F649 11).toInt = (F643 11).toInt := congrArg Int32.toInt hK649
              have q_652 := hI649.r 10 rfl
              have e_653 : (F649 10).toInt = (F643 10).toInt := hO649
              unfold cb_X4_forStatement_245
              have q_654 := i_rng r524
              have q_655 := hI649.r 6 rfl
              refine WP.bind (cs_X1_aim hfu r524 (F649 6) F649 G649 hI649) ?_
              rintro r656 F656 G656 ⟨hI656, hB656, hT656, hO656, hK656, hp656⟩
              dsimp only
              have q_657 := i_rng (F656 11)
              have e_658 : (F656 11).toInt = (F649 11).toInt := congrArg Int32.toInt hK656
              have q_659 := hI656.r 10 rfl
              have e_660 : (F656 10).toInt = (F649 10).toInt := hO656
              unfold cb_X4_forStatement_261
              have q_661 := i_rng (F656 30)
              have q_662 := hI656.r 6 rfl
              refine WP.bind (cs_X1_aim hfu (F656 30) (F656 6) F656 G656 hI656) ?_
              rintro r663 F663 G663 ⟨hI663, hB663, hT663, hO663, hK663, hp663⟩
              dsimp only
              have q_664 := i_rng (F663 11)
              have e_665 : (F663 11).toInt = (F656 11).toInt := congrArg Int32.toInt hK663
              have q_666 := hI663.r 10 rfl
              have e_667 : (F663 10).toInt = (F656 10).toInt := hO663
              unfold cb_X4_forStatement_279
              refine WP.bind (cs_X5_leave hfu F663 G663 hI663) ?_
              rintro r668 F668 G668 ⟨hI668, hB668, hT668, hO668, hK668, hp668⟩
              dsimp only
              have q_669 := i_rng (F668 11)
              have e_670 : (F668 11).toInt = (F663 11).toInt := congrArg Int32.toInt hK668
              have q_671 := hI668.r 10 rfl
              have e_672 : (F668 10).toInt = (F663 10).toInt := hO668
              unfold cb_X4_forStatement_286
              have q_673 := i_rng (F2 30)
              have j_674 : CI (fup F668 30 (F2 30)) G668 := CI.fr rfl hI668
              unfold cb_X4_forStatement_291
              have q_675 := i_rng (F2 31)
              have j_676 : CI (fup (fup F668 30 (F2 30)) 31 (F2 31)) G668 := CI.fr rfl j_674
              unfold cb_X4_forStatement_296
              refine WP.bind (cs_X2_closes hfu (fup (fup F668 30 (F2 30)) 31 (F2 31)) G668 j_676 (show 0 ≤ (F668 10).toInt by omega)) ?_
              rintro r677 F677 G677 ⟨hI677, hB677, hT677, hK677, hp677⟩
              dsimp only
              have q_678 := i_rng (F677 11)
              have e_679 : (F677 11).toInt = (F668 11).toInt := congrArg Int32.toInt hK677
              have q_680 := hI677.r 10 rfl
              have e_681 : (F677 10).toInt = (F668 10).toInt - 1 := hp677
              unfold cb_X4_forStatement_303
              refine WP.ret ?_
              exact ⟨hI677, (KB.tr (KB.f (by decide) (KB.f (by decide) (KB.tr (KB.tr (KB.tr (KB.tr (KB.tr (KB.tr (KB.tr (KB.tr (KB.tr (KB.tr (KB.tr (KB.tr (KB.tr (KB.tr (KB.tr (KB.tr (KB.tr (KB.tr (KB.rf : KB F G F G) hB2) hB16) hB22) hB360) hB517) hB524) hB532) hB538) hB614) hB620) hB625) hB632) hB637) hB643) hB649) hB656) hB663) hB668))) hB677), (KT.tr (KT.f (by decide) (KT.f (by decide) (KT.tr (KT.tr (KT.tr (KT.tr (KT.tr (KT.tr (KT.tr (KT.tr (KT.tr (KT.tr (KT.tr (KT.tr (KT.tr (KT.tr (KT.tr (KT.tr (KT.tr (KT.tr (rfl : KT F F) hT2) hT16) hT22) hT360) hT517) hT524) hT532) hT538) hT614) hT620) hT625) hT632) hT637) hT643) hT649) hT656) hT663) hT668))) hT677), (show (F 11).toInt = -2 → (F677 11).toInt = -2 by omega), (show (F677 10).toInt = (F 10).toInt ∨ ((F677 10).toInt = (F 10).toInt - 1 ∧ (F677 11).toInt = -2 ∧ (F 11).toInt ≠ -2) by omega)⟩
        · skip
          have l_682 : (26 : Int32).toInt = 26 := rfl
          have e_683 := mt i_eq.mpr (show ¬ ((F22 11) = (26 : Int32)) from c_357)
          unfold cb_X4_forStatement_79
          refine WP.bind (cs_X4_simple hfu F22 G22 hI22) ?_
          rintro r684 F684 G684 ⟨hI684, hB684, hT684, hO684, hS684, hp684⟩
          dsimp only
          have q_685 := i_rng (F684 11)
          have e_686 : (F22 11).toInt = -2 → (F684 11).toInt = -2 := hS684
          have q_687 := hI684.r 10 rfl
          have e_688 : (F684 10).toInt = (F22 10).toInt := hO684
          unfold cb_X4_forStatement_83
          refine WP.bind (cs_X2_expect hfu (26 : Int32) F684 G684 hI684 (show (26 : Int32).toInt ≠ -2 by omega)) ?_
          rintro r689 F689 G689 ⟨hI689, hB689, hT689, hO689, hS689, hp689⟩
          dsimp only
          have q_690 := i_rng (F689 11)
          have e_691 : (F684 11).toInt = -2 → (F689 11).toInt = -2 := hS689
          have q_692 := hI689.r 10 rfl
          have e_693 : (F689 10).toInt = (F684 10).toInt := hO689
          unfold cb_X4_forStatement_92
          refine WP.ite (fun c_694 => ?_) (fun c_694 => ?_)
          · skip
            have e_695 := i_eq.mp (show (F689 11) = (26 : Int32) from c_694)
            unfold cb_X4_forStatement_135
            refine WP.bind (cs_X2_expect hfu (26 : Int32) F689 G689 hI689 (show (26 : Int32).toInt ≠ -2 by omega)) ?_
            rintro r696 F696 G696 ⟨hI696, hB696, hT696, hO696, hS696, hp696⟩
            dsimp only
            have q_697 := i_rng (F696 11)
            have e_698 : (F689 11).toInt = -2 → (F696 11).toInt = -2 := hS696
            have q_699 := hI696.r 10 rfl
            have e_700 : (F696 10).toInt = (F689 10).toInt := hO696
            unfold cb_X4_forStatement_144
            have l_701 : (84 : Int32).toInt = 84 := rfl
            have l_702 : (-1 : Int32).toInt = -1 := rfl
            refine WP.bind (cs_X1_addJump hfu (84 : Int32) (-1 : Int32) F696 G696 hI696) ?_
            rintro r703 F703 G703 ⟨hI703, hB703, hT703, hO703, hK703, hp703⟩
            dsimp only
            have q_704 := i_rng (F703 11)
            have e_705 : (F703 11).toInt = (F696 11).toInt := congrArg Int32.toInt hK703
            have q_706 := hI703.r 10 rfl
            have e_707 : (F703 10).toInt = (F696 10).toInt := hO703
            have q_708 := hI696.r 21 rfl
            have q_709 := hI703.r 21 rfl
            have e_710 : (F703 21).toInt = (F696 21).toInt := congrArg Int32.toInt hp703
            unfold cb_X4_forStatement_154
            refine WP.ite (fun c_711 => ?_) (fun c_711 => ?_)
            · skip
              have l_712 : (20 : Int32).toInt = 20 := rfl
              have e_713 := i_eq.mp (show (F703 11) = (20 : Int32) from c_711)
              unfold cb_X4_forStatement_181
              have q_714 := hI689.r 6 rfl
              refine WP.bind (cs_X1_addPair hfu (84 : Int32) (F689 6) F703 G703 hI703) ?_
              rintro r715 F715 G715 ⟨hI715, hB715, hT715, hO715, hK715, hp715⟩
              dsimp only
              have q_716 := i_rng (F715 11)
              have e_717 : (F715 11).toInt = (F703 11).toInt := congrArg Int32.toInt hK715
              have q_718 := hI715.r 10 rfl
              have e_719 : (F715 10).toInt = (F703 10).toInt := hO715
              unfold cb_X4_forStatement_192
              refine WP.bind (cs_X2_closesWith hfu (20 : Int32) F715 G715 hI715 (show 0 ≤ (F715 10).toInt by omega) (show (20 : Int32).toInt ≠ -2 by omega)) ?_
              rintro r720 F720 G720 ⟨hI720, hB720, hT720, hS720, hp720⟩
              dsimp only
              have q_721 := i_rng (F720 11)
              have e_722 : (F715 11).toInt = -2 → (F720 11).toInt = -2 := hS720
              have q_723 := hI720.r 10 rfl
              have e_724 : (F720 10).toInt = (F715 10).toInt - 1 := hp720
              unfold cb_X4_forStatement_201
              have q_725 := i_rng r703
              have q_726 := hI720.r 6 rfl
              refine WP.bind (cs_X1_aim hfu r703 (F720 6) F720 G720 hI720) ?_
              rintro r727 F727 G727 ⟨hI727, hB727, hT727, hO727, hK727, hp727⟩
              dsimp only
              have q_728 := i_rng (F727 11)
              have e_729 : (F727 11).toInt = (F720 11).toInt := congrArg Int32.toInt hK727
              have q_730 := hI727.r 10 rfl
              have e_731 : (F727 10).toInt = (F720 10).toInt := hO727
              unfold cb_X4_forStatement_217
              refine WP.bind (ih.2.2.2.2.2.1 F727 G727 hI727 (show 0 ≤ (F727 10).toInt by omega) (by omega)) ?_
              rintro r732 F732 G732 ⟨hI732, hB732, hT732, hS732, hp732⟩
              dsimp only
              have q_733 := i_rng (F732 11)
              have e_734 : (F727 11).toInt = -2 → (F732 11).toInt = -2 := hS732
              have q_735 := hI732.r 10 rfl
              have e_736 : (F732 10).toInt = (F727 10).toInt ∨ ((F732 10).toInt = (F727 10).toInt - 1 ∧ (F732 11).toInt = -2 ∧ (F727 11).toInt ≠ -2) := hp732
              unfold cb_X4_forStatement_221
              have q_737 := hI703.r 6 rfl
              refine WP.bind (cs_X1_addPair hfu (84 : Int32) (F703 6) F732 G732 hI732) ?_
              rintro r738 F738 G738 ⟨hI738, hB738, hT738, hO738, hK738, hp738⟩
              dsimp only
              have q_739 := i_rng (F738 11)
              have e_740 : (F738 11).toInt = (F732 11).toInt := congrArg Int32.toInt hK738
              have q_741 := hI738.r 10 rfl
              have e_742 : (F738 10).toInt = (F732 10).toInt := hO738
              unfold cb_X4_forStatement_232
              have q_743 := i_rng (F738 31)
              refine WP.bind (cs_X1_aim hfu (F738 31) (F703 6) F738 G738 hI738) ?_
              rintro r744 F744 G744 ⟨hI744, hB744, hT744, hO744, hK744, hp744⟩
              dsimp only
              have q_745 := i_rng (F744 11)
              have e_746 : (F744 11).toInt = (F738 11).toInt := congrArg Int32.toInt hK744
              have q_747 := hI744.r 10 rfl
              have e_748 : (F744 10).toInt = (F738 10).toInt := hO744
              unfold cb_X4_forStatement_245
              have q_749 := hI744.r 6 rfl
              refine WP.bind (cs_X1_aim hfu (-1 : Int32) (F744 6) F744 G744 hI744) ?_
              rintro r750 F750 G750 ⟨hI750, hB750, hT750, hO750, hK750, hp750⟩
              dsimp only
              have q_751 := i_rng (F750 11)
              have e_752 : (F750 11).toInt = (F744 11).toInt := congrArg Int32.toInt hK750
              have q_753 := hI750.r 10 rfl
              have e_754 : (F750 10).toInt = (F744 10).toInt := hO750
              unfold cb_X4_forStatement_261
              have q_755 := i_rng (F750 30)
              have q_756 := hI750.r 6 rfl
              refine WP.bind (cs_X1_aim hfu (F750 30) (F750 6) F750 G750 hI750) ?_
              rintro r757 F757 G757 ⟨hI757, hB757, hT757, hO757, hK757, hp757⟩
              dsimp only
              have q_758 := i_rng (F757 11)
              have e_759 : (F757 11).toInt = (F750 11).toInt := congrArg Int32.toInt hK757
              have q_760 := hI757.r 10 rfl
              have e_761 : (F757 10).toInt = (F750 10).toInt := hO757
              unfold cb_X4_forStatement_279
              refine WP.bind (cs_X5_leave hfu F757 G757 hI757) ?_
              rintro r762 F762 G762 ⟨hI762, hB762, hT762, hO762, hK762, hp762⟩
              dsimp only
              have q_763 := i_rng (F762 11)
              have e_764 : (F762 11).toInt = (F757 11).toInt := congrArg Int32.toInt hK762
              have q_765 := hI762.r 10 rfl
              have e_766 : (F762 10).toInt = (F757 10).toInt := hO762
              unfold cb_X4_forStatement_286
              have q_767 := i_rng (F2 30)
              have j_768 : CI (fup F762 30 (F2 30)) G762 := CI.fr rfl hI762
              unfold cb_X4_forStatement_291
              have q_769 := i_rng (F2 31)
              have j_770 : CI (fup (fup F762 30 (F2 30)) 31 (F2 31)) G762 := CI.fr rfl j_768
              unfold cb_X4_forStatement_296
              refine WP.bind (cs_X2_closes hfu (fup (fup F762 30 (F2 30)) 31 (F2 31)) G762 j_770 (show 0 ≤ (F762 10).toInt by omega)) ?_
              rintro r771 F771 G771 ⟨hI771, hB771, hT771, hK771, hp771⟩
              dsimp only
              have q_772 := i_rng (F771 11)
              have e_773 : (F771 11).toInt = (F762 11).toInt := congrArg Int32.toInt hK771
              have q_774 := hI771.r 10 rfl
              have e_775 : (F771 10).toInt = (F762 10).toInt - 1 := hp771
              unfold cb_X4_forStatement_303
              refine WP.ret ?_
              exact ⟨hI771, (KB.tr (KB.f (by decide) (KB.f (by decide) (KB.tr (KB.tr (KB.tr (KB.tr (KB.tr (KB.tr (KB.tr (KB.tr (KB.tr (KB.tr (KB.tr (KB.tr (KB.tr (KB.tr (KB.tr (KB.tr (KB.rf : KB F G F G) hB2) hB16) hB22) hB684) hB689) hB696) hB703) hB715) hB720) hB727) hB732) hB738) hB744) hB750) hB757) hB762))) hB771), (KT.tr (KT.f (by decide) (KT.f (by decide) (KT.tr (KT.tr (KT.tr (KT.tr (KT.tr (KT.tr (KT.tr (KT.tr (KT.tr (KT.tr (KT.tr (KT.tr (KT.tr (KT.tr (KT.tr (KT.tr (rfl : KT F F) hT2) hT16) hT22) hT684) hT689) hT696) hT703) hT715) hT720) hT727) hT732) hT738) hT744) hT750) hT757) hT762))) hT771), (show (F 11).toInt = -2 → (F771 11).toInt = -2 by omega), (show (F771 10).toInt = (F 10).toInt ∨ ((F771 10).toInt = (F 10).toInt - 1 ∧ (F771 11).toInt = -2 ∧ (F 11).toInt ≠ -2) by omega)⟩
            · skip
              have l_776 : (20 : Int32).toInt = 20 := rfl
              have e_777 := mt i_eq.mpr (show ¬ ((F703 11) = (20 : Int32)) from c_711)
              unfold cb_X4_forStatement_177
              refine WP.bind (cs_X4_simple hfu F703 G703 hI703) ?_
              rintro r778 F778 G778 ⟨hI778, hB778, hT778, hO778, hS778, hp778⟩
              dsimp only
              have q_779 := i_rng (F778 11)
              have e_780 : (F703 11).toInt = -2 → (F778 11).toInt = -2 := hS778
              have q_781 := hI778.r 10 rfl
              have e_782 : (F778 10).toInt = (F703 10).toInt := hO778
              unfold cb_X4_forStatement_181
              have q_783 := hI689.r 6 rfl
              refine WP.bind (cs_X1_addPair hfu (84 : Int32) (F689 6) F778 G778 hI778) ?_
              rintro r784 F784 G784 ⟨hI784, hB784, hT784, hO784, hK784, hp784⟩
              dsimp only
              have q_785 := i_rng (F784 11)
              have e_786 : (F784 11).toInt = (F778 11).toInt := congrArg Int32.toInt hK784
              have q_787 := hI784.r 10 rfl
              have e_788 : (F784 10).toInt = (F778 10).toInt := hO784
              unfold cb_X4_forStatement_192
              refine WP.bind (cs_X2_closesWith hfu (20 : Int32) F784 G784 hI784 (show 0 ≤ (F784 10).toInt by omega) (show (20 : Int32).toInt ≠ -2 by omega)) ?_
              rintro r789 F789 G789 ⟨hI789, hB789, hT789, hS789, hp789⟩
              dsimp only
              have q_790 := i_rng (F789 11)
              have e_791 : (F784 11).toInt = -2 → (F789 11).toInt = -2 := hS789
              have q_792 := hI789.r 10 rfl
              have e_793 : (F789 10).toInt = (F784 10).toInt - 1 := hp789
              unfold cb_X4_forStatement_201
              have q_794 := i_rng r703
              have q_795 := hI789.r 6 rfl
              refine WP.bind (cs_X1_aim hfu r703 (F789 6) F789 G789 hI789) ?_
              rintro r796 F796 G796 ⟨hI796, hB796, hT796, hO796, hK796, hp796⟩
              dsimp only
              have q_797 := i_rng (F796 11)
              have e_798 : (F796 11).toInt = (F789 11).toInt := congrArg Int32.toInt hK796
              have q_799 := hI796.r 10 rfl
              have e_800 : (F796 10).toInt = (F789 10).toInt := hO796
              unfold cb_X4_forStatement_217
              refine WP.bind (ih.2.2.2.2.2.1 F796 G796 hI796 (show 0 ≤ (F796 10).toInt by omega) (by omega)) ?_
              rintro r801 F801 G801 ⟨hI801, hB801, hT801, hS801, hp801⟩
              dsimp only
              have q_802 := i_rng (F801 11)
              have e_803 : (F796 11).toInt = -2 → (F801 11).toInt = -2 := hS801
              have q_804 := hI801.r 10 rfl
              have e_805 : (F801 10).toInt = (F796 10).toInt ∨ ((F801 10).toInt = (F796 10).toInt - 1 ∧ (F801 11).toInt = -2 ∧ (F796 11).toInt ≠ -2) := hp801
              unfold cb_X4_forStatement_221
              have q_806 := hI703.r 6 rfl
              refine WP.bind (cs_X1_addPair hfu (84 : Int32) (F703 6) F801 G801 hI801) ?_
              rintro r807 F807 G807 ⟨hI807, hB807, hT807, hO807, hK807, hp807⟩
              dsimp only
              have q_808 := i_rng (F807 11)
              have e_809 : (F807 11).toInt = (F801 11).toInt := congrArg Int32.toInt hK807
              have q_810 := hI807.r 10 rfl
              have e_811 : (F807 10).toInt = (F801 10).toInt := hO807
              unfold cb_X4_forStatement_232
              have q_812 := i_rng (F807 31)
              refine WP.bind (cs_X1_aim hfu (F807 31) (F703 6) F807 G807 hI807) ?_
              rintro r813 F813 G813 ⟨hI813, hB813, hT813, hO813, hK813, hp813⟩
              dsimp only
              have q_814 := i_rng (F813 11)
              have e_815 : (F813 11).toInt = (F807 11).toInt := congrArg Int32.toInt hK813
              have q_816 := hI813.r 10 rfl
              have e_817 : (F813 10).toInt = (F807 10).toInt := hO813
              unfold cb_X4_forStatement_245
              have q_818 := hI813.r 6 rfl
              refine WP.bind (cs_X1_aim hfu (-1 : Int32) (F813 6) F813 G813 hI813) ?_
              rintro r819 F819 G819 ⟨hI819, hB819, hT819, hO819, hK819, hp819⟩
              dsimp only
              have q_820 := i_rng (F819 11)
              have e_821 : (F819 11).toInt = (F813 11).toInt := congrArg Int32.toInt hK819
              have q_822 := hI819.r 10 rfl
              have e_823 : (F819 10).toInt = (F813 10).toInt := hO819
              unfold cb_X4_forStatement_261
              have q_824 := i_rng (F819 30)
              have q_825 := hI819.r 6 rfl
              refine WP.bind (cs_X1_aim hfu (F819 30) (F819 6) F819 G819 hI819) ?_
              rintro r826 F826 G826 ⟨hI826, hB826, hT826, hO826, hK826, hp826⟩
              dsimp only
              have q_827 := i_rng (F826 11)
              have e_828 : (F826 11).toInt = (F819 11).toInt := congrArg Int32.toInt hK826
              have q_829 := hI826.r 10 rfl
              have e_830 : (F826 10).toInt = (F819 10).toInt := hO826
              unfold cb_X4_forStatement_279
              refine WP.bind (cs_X5_leave hfu F826 G826 hI826) ?_
              rintro r831 F831 G831 ⟨hI831, hB831, hT831, hO831, hK831, hp831⟩
              dsimp only
              have q_832 := i_rng (F831 11)
              have e_833 : (F831 11).toInt = (F826 11).toInt := congrArg Int32.toInt hK831
              have q_834 := hI831.r 10 rfl
              have e_835 : (F831 10).toInt = (F826 10).toInt := hO831
              unfold cb_X4_forStatement_286
              have q_836 := i_rng (F2 30)
              have j_837 : CI (fup F831 30 (F2 30)) G831 := CI.fr rfl hI831
              unfold cb_X4_forStatement_291
              have q_838 := i_rng (F2 31)
              have j_839 : CI (fup (fup F831 30 (F2 30)) 31 (F2 31)) G831 := CI.fr rfl j_837
              unfold cb_X4_forStatement_296
              refine WP.bind (cs_X2_closes hfu (fup (fup F831 30 (F2 30)) 31 (F2 31)) G831 j_839 (show 0 ≤ (F831 10).toInt by omega)) ?_
              rintro r840 F840 G840 ⟨hI840, hB840, hT840, hK840, hp840⟩
              dsimp only
              have q_841 := i_rng (F840 11)
              have e_842 : (F840 11).toInt = (F831 11).toInt := congrArg Int32.toInt hK840
              have q_843 := hI840.r 10 rfl
              have e_844 : (F840 10).toInt = (F831 10).toInt - 1 := hp840
              unfold cb_X4_forStatement_303
              refine WP.ret ?_
              exact ⟨hI840, (KB.tr (KB.f (by decide) (KB.f (by decide) (KB.tr (KB.tr (KB.tr (KB.tr (KB.tr (KB.tr (KB.tr (KB.tr (KB.tr (KB.tr (KB.tr (KB.tr (KB.tr (KB.tr (KB.tr (KB.tr (KB.tr (KB.rf : KB F G F G) hB2) hB16) hB22) hB684) hB689) hB696) hB703) hB778) hB784) hB789) hB796) hB801) hB807) hB813) hB819) hB826) hB831))) hB840), (KT.tr (KT.f (by decide) (KT.f (by decide) (KT.tr (KT.tr (KT.tr (KT.tr (KT.tr (KT.tr (KT.tr (KT.tr (KT.tr (KT.tr (KT.tr (KT.tr (KT.tr (KT.tr (KT.tr (KT.tr (KT.tr (rfl : KT F F) hT2) hT16) hT22) hT684) hT689) hT696) hT703) hT778) hT784) hT789) hT796) hT801) hT807) hT813) hT819) hT826) hT831))) hT840), (show (F 11).toInt = -2 → (F840 11).toInt = -2 by omega), (show (F840 10).toInt = (F 10).toInt ∨ ((F840 10).toInt = (F 10).toInt - 1 ∧ (F840 11).toInt = -2 ∧ (F 11).toInt ≠ -2) by omega)⟩
          · skip
            have e_845 := mt i_eq.mpr (show ¬ ((F689 11) = (26 : Int32)) from c_694)
            unfold cb_X4_forStatement_116
            refine WP.bind (cs_X3_expression hfu F689 G689 hI689) ?_
            rintro r846 F846 G846 ⟨hI846, hB846, hT846, hO846, hS846, hp846⟩
            dsimp only
            have q_847 := i_rng (F846 11)
            have e_848 : (F689 11).toInt = -2 → (F846 11).toInt = -2 := hS846
            have q_849 := hI846.r 10 rfl
            have e_850 : (F846 10).toInt = (F689 10).toInt := hO846
            unfold cb_X4_forStatement_123
            have l_851 : (86 : Int32).toInt = 86 := rfl
            have l_852 : (-1 : Int32).toInt = -1 := rfl
            refine WP.bind (cs_X1_addJump hfu (86 : Int32) (-1 : Int32) F846 G846 hI846) ?_
            rintro r853 F853 G853 ⟨hI853, hB853, hT853, hO853, hK853, hp853⟩
            dsimp only
            have q_854 := i_rng (F853 11)
            have e_855 : (F853 11).toInt = (F846 11).toInt := congrArg Int32.toInt hK853
            have q_856 := hI853.r 10 rfl
            have e_857 : (F853 10).toInt = (F846 10).toInt := hO853
            have q_858 := hI846.r 21 rfl
            have q_859 := hI853.r 21 rfl
            have e_860 : (F853 21).toInt = (F846 21).toInt := congrArg Int32.toInt hp853
            unfold cb_X4_forStatement_133
            unfold cb_X4_forStatement_135
            refine WP.bind (cs_X2_expect hfu (26 : Int32) F853 G853 hI853 (show (26 : Int32).toInt ≠ -2 by omega)) ?_
            rintro r861 F861 G861 ⟨hI861, hB861, hT861, hO861, hS861, hp861⟩
            dsimp only
            have q_862 := i_rng (F861 11)
            have e_863 : (F853 11).toInt = -2 → (F861 11).toInt = -2 := hS861
            have q_864 := hI861.r 10 rfl
            have e_865 : (F861 10).toInt = (F853 10).toInt := hO861
            unfold cb_X4_forStatement_144
            have l_866 : (84 : Int32).toInt = 84 := rfl
            refine WP.bind (cs_X1_addJump hfu (84 : Int32) (-1 : Int32) F861 G861 hI861) ?_
            rintro r867 F867 G867 ⟨hI867, hB867, hT867, hO867, hK867, hp867⟩
            dsimp only
            have q_868 := i_rng (F867 11)
            have e_869 : (F867 11).toInt = (F861 11).toInt := congrArg Int32.toInt hK867
            have q_870 := hI867.r 10 rfl
            have e_871 : (F867 10).toInt = (F861 10).toInt := hO867
            have q_872 := hI861.r 21 rfl
            have q_873 := hI867.r 21 rfl
            have e_874 : (F867 21).toInt = (F861 21).toInt := congrArg Int32.toInt hp867
            unfold cb_X4_forStatement_154
            refine WP.ite (fun c_875 => ?_) (fun c_875 => ?_)
            · skip
              have l_876 : (20 : Int32).toInt = 20 := rfl
              have e_877 := i_eq.mp (show (F867 11) = (20 : Int32) from c_875)
              unfold cb_X4_forStatement_181
              have q_878 := hI689.r 6 rfl
              refine WP.bind (cs_X1_addPair hfu (84 : Int32) (F689 6) F867 G867 hI867) ?_
              rintro r879 F879 G879 ⟨hI879, hB879, hT879, hO879, hK879, hp879⟩
              dsimp only
              have q_880 := i_rng (F879 11)
              have e_881 : (F879 11).toInt = (F867 11).toInt := congrArg Int32.toInt hK879
              have q_882 := hI879.r 10 rfl
              have e_883 : (F879 10).toInt = (F867 10).toInt := hO879
              unfold cb_X4_forStatement_192
              refine WP.bind (cs_X2_closesWith hfu (20 : Int32) F879 G879 hI879 (show 0 ≤ (F879 10).toInt by omega) (show (20 : Int32).toInt ≠ -2 by omega)) ?_
              rintro r884 F884 G884 ⟨hI884, hB884, hT884, hS884, hp884⟩
              dsimp only
              have q_885 := i_rng (F884 11)
              have e_886 : (F879 11).toInt = -2 → (F884 11).toInt = -2 := hS884
              have q_887 := hI884.r 10 rfl
              have e_888 : (F884 10).toInt = (F879 10).toInt - 1 := hp884
              unfold cb_X4_forStatement_201
              have q_889 := i_rng r867
              have q_890 := hI884.r 6 rfl
              refine WP.bind (cs_X1_aim hfu r867 (F884 6) F884 G884 hI884) ?_
              rintro r891 F891 G891 ⟨hI891, hB891, hT891, hO891, hK891, hp891⟩
              dsimp only
              have q_892 := i_rng (F891 11)
              have e_893 : (F891 11).toInt = (F884 11).toInt := congrArg Int32.toInt hK891
              have q_894 := hI891.r 10 rfl
              have e_895 : (F891 10).toInt = (F884 10).toInt := hO891
              unfold cb_X4_forStatement_217
              refine WP.bind (ih.2.2.2.2.2.1 F891 G891 hI891 (show 0 ≤ (F891 10).toInt by omega) (by omega)) ?_
              rintro r896 F896 G896 ⟨hI896, hB896, hT896, hS896, hp896⟩
              dsimp only
              have q_897 := i_rng (F896 11)
              have e_898 : (F891 11).toInt = -2 → (F896 11).toInt = -2 := hS896
              have q_899 := hI896.r 10 rfl
              have e_900 : (F896 10).toInt = (F891 10).toInt ∨ ((F896 10).toInt = (F891 10).toInt - 1 ∧ (F896 11).toInt = -2 ∧ (F891 11).toInt ≠ -2) := hp896
              unfold cb_X4_forStatement_221
              have q_901 := hI867.r 6 rfl
              refine WP.bind (cs_X1_addPair hfu (84 : Int32) (F867 6) F896 G896 hI896) ?_
              rintro r902 F902 G902 ⟨hI902, hB902, hT902, hO902, hK902, hp902⟩
              dsimp only
              have q_903 := i_rng (F902 11)
              have e_904 : (F902 11).toInt = (F896 11).toInt := congrArg Int32.toInt hK902
              have q_905 := hI902.r 10 rfl
              have e_906 : (F902 10).toInt = (F896 10).toInt := hO902
              unfold cb_X4_forStatement_232
              have q_907 := i_rng (F902 31)
              refine WP.bind (cs_X1_aim hfu (F902 31) (F867 6) F902 G902 hI902) ?_
              rintro r908 F908 G908 ⟨hI908, hB908, hT908, hO908, hK908, hp908⟩
              dsimp only
              have q_909 := i_rng (F908 11)
              have e_910 : (F908 11).toInt = (F902 11).toInt := congrArg Int32.toInt hK908
              have q_911 := hI908.r 10 rfl
              have e_912 : (F908 10).toInt = (F902 10).toInt := hO908
              unfold cb_X4_forStatement_245
              have q_913 := i_rng r853
              have q_914 := hI908.r 6 rfl
              refine WP.bind (cs_X1_aim hfu r853 (F908 6) F908 G908 hI908) ?_
              rintro r915 F915 G915 ⟨hI915, hB915, hT915, hO915, hK915, hp915⟩
              dsimp only
              have q_916 := i_rng (F915 11)
              have e_917 : (F915 11).toInt = (F908 11).toInt := congrArg Int32.toInt hK915
              have q_918 := hI915.r 10 rfl
              have e_919 : (F915 10).toInt = (F908 10).toInt := hO915
              unfold cb_X4_forStatement_261
              have q_920 := i_rng (F915 30)
              have q_921 := hI915.r 6 rfl
              refine WP.bind (cs_X1_aim hfu (F915 30) (F915 6) F915 G915 hI915) ?_
              rintro r922 F922 G922 ⟨hI922, hB922, hT922, hO922, hK922, hp922⟩
              dsimp only
              have q_923 := i_rng (F922 11)
              have e_924 : (F922 11).toInt = (F915 11).toInt := congrArg Int32.toInt hK922
              have q_925 := hI922.r 10 rfl
              have e_926 : (F922 10).toInt = (F915 10).toInt := hO922
              unfold cb_X4_forStatement_279
              refine WP.bind (cs_X5_leave hfu F922 G922 hI922) ?_
              rintro r927 F927 G927 ⟨hI927, hB927, hT927, hO927, hK927, hp927⟩
              dsimp only
              have q_928 := i_rng (F927 11)
              have e_929 : (F927 11).toInt = (F922 11).toInt := congrArg Int32.toInt hK927
              have q_930 := hI927.r 10 rfl
              have e_931 : (F927 10).toInt = (F922 10).toInt := hO927
              unfold cb_X4_forStatement_286
              have q_932 := i_rng (F2 30)
              have j_933 : CI (fup F927 30 (F2 30)) G927 := CI.fr rfl hI927
              unfold cb_X4_forStatement_291
              have q_934 := i_rng (F2 31)
              have j_935 : CI (fup (fup F927 30 (F2 30)) 31 (F2 31)) G927 := CI.fr rfl j_933
              unfold cb_X4_forStatement_296
              refine WP.bind (cs_X2_closes hfu (fup (fup F927 30 (F2 30)) 31 (F2 31)) G927 j_935 (show 0 ≤ (F927 10).toInt by omega)) ?_
              rintro r936 F936 G936 ⟨hI936, hB936, hT936, hK936, hp936⟩
              dsimp only
              have q_937 := i_rng (F936 11)
              have e_938 : (F936 11).toInt = (F927 11).toInt := congrArg Int32.toInt hK936
              have q_939 := hI936.r 10 rfl
              have e_940 : (F936 10).toInt = (F927 10).toInt - 1 := hp936
              unfold cb_X4_forStatement_303
              refine WP.ret ?_
              exact ⟨hI936, (KB.tr (KB.f (by decide) (KB.f (by decide) (KB.tr (KB.tr (KB.tr (KB.tr (KB.tr (KB.tr (KB.tr (KB.tr (KB.tr (KB.tr (KB.tr (KB.tr (KB.tr (KB.tr (KB.tr (KB.tr (KB.tr (KB.tr (KB.rf : KB F G F G) hB2) hB16) hB22) hB684) hB689) hB846) hB853) hB861) hB867) hB879) hB884) hB891) hB896) hB902) hB908) hB915) hB922) hB927))) hB936), (KT.tr (KT.f (by decide) (KT.f (by decide) (KT.tr (KT.tr (KT.tr (KT.tr (KT.tr (KT.tr (KT.tr (KT.tr (KT.tr (KT.tr (KT.tr (KT.tr (KT.tr (KT.tr (KT.tr (KT.tr (KT.tr (KT.tr (rfl : KT F F) hT2) hT16) hT22) hT684) hT689) hT846) hT853) hT861) hT867) hT879) hT884) hT891) hT896) hT902) hT908) hT915) hT922) hT927))) hT936), (show (F 11).toInt = -2 → (F936 11).toInt = -2 by omega), (show (F936 10).toInt = (F 10).toInt ∨ ((F936 10).toInt = (F 10).toInt - 1 ∧ (F936 11).toInt = -2 ∧ (F 11).toInt ≠ -2) by omega)⟩
            · skip
              have l_941 : (20 : Int32).toInt = 20 := rfl
              have e_942 := mt i_eq.mpr (show ¬ ((F867 11) = (20 : Int32)) from c_875)
              unfold cb_X4_forStatement_177
              refine WP.bind (cs_X4_simple hfu F867 G867 hI867) ?_
              rintro r943 F943 G943 ⟨hI943, hB943, hT943, hO943, hS943, hp943⟩
              dsimp only
              have q_944 := i_rng (F943 11)
              have e_945 : (F867 11).toInt = -2 → (F943 11).toInt = -2 := hS943
              have q_946 := hI943.r 10 rfl
              have e_947 : (F943 10).toInt = (F867 10).toInt := hO943
              unfold cb_X4_forStatement_181
              have q_948 := hI689.r 6 rfl
              refine WP.bind (cs_X1_addPair hfu (84 : Int32) (F689 6) F943 G943 hI943) ?_
              rintro r949 F949 G949 ⟨hI949, hB949, hT949, hO949, hK949, hp949⟩
              dsimp only
              have q_950 := i_rng (F949 11)
              have e_951 : (F949 11).toInt = (F943 11).toInt := congrArg Int32.toInt hK949
              have q_952 := hI949.r 10 rfl
              have e_953 : (F949 10).toInt = (F943 10).toInt := hO949
              unfold cb_X4_forStatement_192
              refine WP.bind (cs_X2_closesWith hfu (20 : Int32) F949 G949 hI949 (show 0 ≤ (F949 10).toInt by omega) (show (20 : Int32).toInt ≠ -2 by omega)) ?_
              rintro r954 F954 G954 ⟨hI954, hB954, hT954, hS954, hp954⟩
              dsimp only
              have q_955 := i_rng (F954 11)
              have e_956 : (F949 11).toInt = -2 → (F954 11).toInt = -2 := hS954
              have q_957 := hI954.r 10 rfl
              have e_958 : (F954 10).toInt = (F949 10).toInt - 1 := hp954
              unfold cb_X4_forStatement_201
              have q_959 := i_rng r867
              have q_960 := hI954.r 6 rfl
              refine WP.bind (cs_X1_aim hfu r867 (F954 6) F954 G954 hI954) ?_
              rintro r961 F961 G961 ⟨hI961, hB961, hT961, hO961, hK961, hp961⟩
              dsimp only
              have q_962 := i_rng (F961 11)
              have e_963 : (F961 11).toInt = (F954 11).toInt := congrArg Int32.toInt hK961
              have q_964 := hI961.r 10 rfl
              have e_965 : (F961 10).toInt = (F954 10).toInt := hO961
              unfold cb_X4_forStatement_217
              refine WP.bind (ih.2.2.2.2.2.1 F961 G961 hI961 (show 0 ≤ (F961 10).toInt by omega) (by omega)) ?_
              rintro r966 F966 G966 ⟨hI966, hB966, hT966, hS966, hp966⟩
              dsimp only
              have q_967 := i_rng (F966 11)
              have e_968 : (F961 11).toInt = -2 → (F966 11).toInt = -2 := hS966
              have q_969 := hI966.r 10 rfl
              have e_970 : (F966 10).toInt = (F961 10).toInt ∨ ((F966 10).toInt = (F961 10).toInt - 1 ∧ (F966 11).toInt = -2 ∧ (F961 11).toInt ≠ -2) := hp966
              unfold cb_X4_forStatement_221
              have q_971 := hI867.r 6 rfl
              refine WP.bind (cs_X1_addPair hfu (84 : Int32) (F867 6) F966 G966 hI966) ?_
              rintro r972 F972 G972 ⟨hI972, hB972, hT972, hO972, hK972, hp972⟩
              dsimp only
              have q_973 := i_rng (F972 11)
              have e_974 : (F972 11).toInt = (F966 11).toInt := congrArg Int32.toInt hK972
              have q_975 := hI972.r 10 rfl
              have e_976 : (F972 10).toInt = (F966 10).toInt := hO972
              unfold cb_X4_forStatement_232
              have q_977 := i_rng (F972 31)
              refine WP.bind (cs_X1_aim hfu (F972 31) (F867 6) F972 G972 hI972) ?_
              rintro r978 F978 G978 ⟨hI978, hB978, hT978, hO978, hK978, hp978⟩
              dsimp only
              have q_979 := i_rng (F978 11)
              have e_980 : (F978 11).toInt = (F972 11).toInt := congrArg Int32.toInt hK978
              have q_981 := hI978.r 10 rfl
              have e_982 : (F978 10).toInt = (F972 10).toInt := hO978
              unfold cb_X4_forStatement_245
              have q_983 := i_rng r853
              have q_984 := hI978.r 6 rfl
              refine WP.bind (cs_X1_aim hfu r853 (F978 6) F978 G978 hI978) ?_
              rintro r985 F985 G985 ⟨hI985, hB985, hT985, hO985, hK985, hp985⟩
              dsimp only
              have q_986 := i_rng (F985 11)
              have e_987 : (F985 11).toInt = (F978 11).toInt := congrArg Int32.toInt hK985
              have q_988 := hI985.r 10 rfl
              have e_989 : (F985 10).toInt = (F978 10).toInt := hO985
              unfold cb_X4_forStatement_261
              have q_990 := i_rng (F985 30)
              have q_991 := hI985.r 6 rfl
              refine WP.bind (cs_X1_aim hfu (F985 30) (F985 6) F985 G985 hI985) ?_
              rintro r992 F992 G992 ⟨hI992, hB992, hT992, hO992, hK992, hp992⟩
              dsimp only
              have q_993 := i_rng (F992 11)
              have e_994 : (F992 11).toInt = (F985 11).toInt := congrArg Int32.toInt hK992
              have q_995 := hI992.r 10 rfl
              have e_996 : (F992 10).toInt = (F985 10).toInt := hO992
              unfold cb_X4_forStatement_279
              refine WP.bind (cs_X5_leave hfu F992 G992 hI992) ?_
              rintro r997 F997 G997 ⟨hI997, hB997, hT997, hO997, hK997, hp997⟩
              dsimp only
              have q_998 := i_rng (F997 11)
              have e_999 : (F997 11).toInt = (F992 11).toInt := congrArg Int32.toInt hK997
              have q_1000 := hI997.r 10 rfl
              have e_1001 : (F997 10).toInt = (F992 10).toInt := hO997
              unfold cb_X4_forStatement_286
              have q_1002 := i_rng (F2 30)
              have j_1003 : CI (fup F997 30 (F2 30)) G997 := CI.fr rfl hI997
              unfold cb_X4_forStatement_291
              have q_1004 := i_rng (F2 31)
              have j_1005 : CI (fup (fup F997 30 (F2 30)) 31 (F2 31)) G997 := CI.fr rfl j_1003
              unfold cb_X4_forStatement_296
              refine WP.bind (cs_X2_closes hfu (fup (fup F997 30 (F2 30)) 31 (F2 31)) G997 j_1005 (show 0 ≤ (F997 10).toInt by omega)) ?_
              rintro r1006 F1006 G1006 ⟨hI1006, hB1006, hT1006, hK1006, hp1006⟩
              dsimp only
              have q_1007 := i_rng (F1006 11)
              have e_1008 : (F1006 11).toInt = (F997 11).toInt := congrArg Int32.toInt hK1006
              have q_1009 := hI1006.r 10 rfl
              have e_1010 : (F1006 10).toInt = (F997 10).toInt - 1 := hp1006
              unfold cb_X4_forStatement_303
              refine WP.ret ?_
              exact ⟨hI1006, (KB.tr (KB.f (by decide) (KB.f (by decide) (KB.tr (KB.tr (KB.tr (KB.tr (KB.tr (KB.tr (KB.tr (KB.tr (KB.tr (KB.tr (KB.tr (KB.tr (KB.tr (KB.tr (KB.tr (KB.tr (KB.tr (KB.tr (KB.tr (KB.rf : KB F G F G) hB2) hB16) hB22) hB684) hB689) hB846) hB853) hB861) hB867) hB943) hB949) hB954) hB961) hB966) hB972) hB978) hB985) hB992) hB997))) hB1006), (KT.tr (KT.f (by decide) (KT.f (by decide) (KT.tr (KT.tr (KT.tr (KT.tr (KT.tr (KT.tr (KT.tr (KT.tr (KT.tr (KT.tr (KT.tr (KT.tr (KT.tr (KT.tr (KT.tr (KT.tr (KT.tr (KT.tr (KT.tr (rfl : KT F F) hT2) hT16) hT22) hT684) hT689) hT846) hT853) hT861) hT867) hT943) hT949) hT954) hT961) hT966) hT972) hT978) hT985) hT992) hT997))) hT1006), (show (F 11).toInt = -2 → (F1006 11).toInt = -2 by omega), (show (F1006 10).toInt = (F 10).toInt ∨ ((F1006 10).toInt = (F 10).toInt - 1 ∧ (F1006 11).toInt = -2 ∧ (F 11).toInt ≠ -2) by omega)⟩
    · skip
      have e_1011 := mt i_eq.mpr (show ¬ (r22 = (0 : Int32)) from c_29)
      unfold cb_X4_forStatement_44
      refine WP.ite (fun c_1012 => ?_) (fun c_1012 => ?_)
      · skip
        have l_1013 : (4 : Int32).toInt = 4 := rfl
        have e_1014 := i_eq.mp (show (F22 11) = (4 : Int32) from c_1012)
        unfold cb_X4_forStatement_55
        have l_1015 : (1 : Int32).toInt = 1 := rfl
        refine WP.bind (cs_X4_localTold hfu (1 : Int32) F22 G22 hI22 (by decide)) ?_
        rintro r1016 F1016 G1016 ⟨hI1016, hB1016, hT1016, hO1016, hp1016⟩
        dsimp only
        have q_1017 := hI1016.r 10 rfl
        have e_1018 : (F1016 10).toInt = (F22 10).toInt := hO1016
        unfold cb_X4_forStatement_60
        unfold cb_X4_forStatement_83
        have l_1019 : (26 : Int32).toInt = 26 := rfl
        refine WP.bind (cs_X2_expect hfu (26 : Int32) F1016 G1016 hI1016 (show (26 : Int32).toInt ≠ -2 by omega)) ?_
        rintro r1020 F1020 G1020 ⟨hI1020, hB1020, hT1020, hO1020, hS1020, hp1020⟩
        dsimp only
        have q_1021 := i_rng (F1016 11)
        have q_1022 := i_rng (F1020 11)
        have e_1023 : (F1016 11).toInt = -2 → (F1020 11).toInt = -2 := hS1020
        have q_1024 := hI1020.r 10 rfl
        have e_1025 : (F1020 10).toInt = (F1016 10).toInt := hO1020
        unfold cb_X4_forStatement_92
        refine WP.ite (fun c_1026 => ?_) (fun c_1026 => ?_)
        · skip
          have e_1027 := i_eq.mp (show (F1020 11) = (26 : Int32) from c_1026)
          unfold cb_X4_forStatement_135
          refine WP.bind (cs_X2_expect hfu (26 : Int32) F1020 G1020 hI1020 (show (26 : Int32).toInt ≠ -2 by omega)) ?_
          rintro r1028 F1028 G1028 ⟨hI1028, hB1028, hT1028, hO1028, hS1028, hp1028⟩
          dsimp only
          have q_1029 := i_rng (F1028 11)
          have e_1030 : (F1020 11).toInt = -2 → (F1028 11).toInt = -2 := hS1028
          have q_1031 := hI1028.r 10 rfl
          have e_1032 : (F1028 10).toInt = (F1020 10).toInt := hO1028
          unfold cb_X4_forStatement_144
          have l_1033 : (84 : Int32).toInt = 84 := rfl
          have l_1034 : (-1 : Int32).toInt = -1 := rfl
          refine WP.bind (cs_X1_addJump hfu (84 : Int32) (-1 : Int32) F1028 G1028 hI1028) ?_
          rintro r1035 F1035 G1035 ⟨hI1035, hB1035, hT1035, hO1035, hK1035, hp1035⟩
          dsimp only
          have q_1036 := i_rng (F1035 11)
          have e_1037 : (F1035 11).toInt = (F1028 11).toInt := congrArg Int32.toInt hK1035
          have q_1038 := hI1035.r 10 rfl
          have e_1039 : (F1035 10).toInt = (F1028 10).toInt := hO1035
          have q_1040 := hI1028.r 21 rfl
          have q_1041 := hI1035.r 21 rfl
          have e_1042 : (F1035 21).toInt = (F1028 21).toInt := congrArg Int32.toInt hp1035
          unfold cb_X4_forStatement_154
          refine WP.ite (fun c_1043 => ?_) (fun c_1043 => ?_)
          · skip
            have l_1044 : (20 : Int32).toInt = 20 := rfl
            have e_1045 := i_eq.mp (show (F1035 11) = (20 : Int32) from c_1043)
            unfold cb_X4_forStatement_181
            have q_1046 := hI1020.r 6 rfl
            refine WP.bind (cs_X1_addPair hfu (84 : Int32) (F1020 6) F1035 G1035 hI1035) ?_
            rintro r1047 F1047 G1047 ⟨hI1047, hB1047, hT1047, hO1047, hK1047, hp1047⟩
            dsimp only
            have q_1048 := i_rng (F1047 11)
            have e_1049 : (F1047 11).toInt = (F1035 11).toInt := congrArg Int32.toInt hK1047
            have q_1050 := hI1047.r 10 rfl
            have e_1051 : (F1047 10).toInt = (F1035 10).toInt := hO1047
            unfold cb_X4_forStatement_192
            refine WP.bind (cs_X2_closesWith hfu (20 : Int32) F1047 G1047 hI1047 (show 0 ≤ (F1047 10).toInt by omega) (show (20 : Int32).toInt ≠ -2 by omega)) ?_
            rintro r1052 F1052 G1052 ⟨hI1052, hB1052, hT1052, hS1052, hp1052⟩
            dsimp only
            have q_1053 := i_rng (F1052 11)
            have e_1054 : (F1047 11).toInt = -2 → (F1052 11).toInt = -2 := hS1052
            have q_1055 := hI1052.r 10 rfl
            have e_1056 : (F1052 10).toInt = (F1047 10).toInt - 1 := hp1052
            unfold cb_X4_forStatement_201
            have q_1057 := i_rng r1035
            have q_1058 := hI1052.r 6 rfl
            refine WP.bind (cs_X1_aim hfu r1035 (F1052 6) F1052 G1052 hI1052) ?_
            rintro r1059 F1059 G1059 ⟨hI1059, hB1059, hT1059, hO1059, hK1059, hp1059⟩
            dsimp only
            have q_1060 := i_rng (F1059 11)
            have e_1061 : (F1059 11).toInt = (F1052 11).toInt := congrArg Int32.toInt hK1059
            have q_1062 := hI1059.r 10 rfl
            have e_1063 : (F1059 10).toInt = (F1052 10).toInt := hO1059
            unfold cb_X4_forStatement_217
            refine WP.bind (ih.2.2.2.2.2.1 F1059 G1059 hI1059 (show 0 ≤ (F1059 10).toInt by omega) (by omega)) ?_
            rintro r1064 F1064 G1064 ⟨hI1064, hB1064, hT1064, hS1064, hp1064⟩
            dsimp only
            have q_1065 := i_rng (F1064 11)
            have e_1066 : (F1059 11).toInt = -2 → (F1064 11).toInt = -2 := hS1064
            have q_1067 := hI1064.r 10 rfl
            have e_1068 : (F1064 10).toInt = (F1059 10).toInt ∨ ((F1064 10).toInt = (F1059 10).toInt - 1 ∧ (F1064 11).toInt = -2 ∧ (F1059 11).toInt ≠ -2) := hp1064
            unfold cb_X4_forStatement_221
            have q_1069 := hI1035.r 6 rfl
            refine WP.bind (cs_X1_addPair hfu (84 : Int32) (F1035 6) F1064 G1064 hI1064) ?_
            rintro r1070 F1070 G1070 ⟨hI1070, hB1070, hT1070, hO1070, hK1070, hp1070⟩
            dsimp only
            have q_1071 := i_rng (F1070 11)
            have e_1072 : (F1070 11).toInt = (F1064 11).toInt := congrArg Int32.toInt hK1070
            have q_1073 := hI1070.r 10 rfl
            have e_1074 : (F1070 10).toInt = (F1064 10).toInt := hO1070
            unfold cb_X4_forStatement_232
            have q_1075 := i_rng (F1070 31)
            refine WP.bind (cs_X1_aim hfu (F1070 31) (F1035 6) F1070 G1070 hI1070) ?_
            rintro r1076 F1076 G1076 ⟨hI1076, hB1076, hT1076, hO1076, hK1076, hp1076⟩
            dsimp only
            have q_1077 := i_rng (F1076 11)
            have e_1078 : (F1076 11).toInt = (F1070 11).toInt := congrArg Int32.toInt hK1076
            have q_1079 := hI1076.r 10 rfl
            have e_1080 : (F1076 10).toInt = (F1070 10).toInt := hO1076
            unfold cb_X4_forStatement_245
            have q_1081 := hI1076.r 6 rfl
            refine WP.bind (cs_X1_aim hfu (-1 : Int32) (F1076 6) F1076 G1076 hI1076) ?_
            rintro r1082 F1082 G1082 ⟨hI1082, hB1082, hT1082, hO1082, hK1082, hp1082⟩
            dsimp only
            have q_1083 := i_rng (F1082 11)
            have e_1084 : (F1082 11).toInt = (F1076 11).toInt := congrArg Int32.toInt hK1082
            have q_1085 := hI1082.r 10 rfl
            have e_1086 : (F1082 10).toInt = (F1076 10).toInt := hO1082
            unfold cb_X4_forStatement_261
            have q_1087 := i_rng (F1082 30)
            have q_1088 := hI1082.r 6 rfl
            refine WP.bind (cs_X1_aim hfu (F1082 30) (F1082 6) F1082 G1082 hI1082) ?_
            rintro r1089 F1089 G1089 ⟨hI1089, hB1089, hT1089, hO1089, hK1089, hp1089⟩
            dsimp only
            have q_1090 := i_rng (F1089 11)
            have e_1091 : (F1089 11).toInt = (F1082 11).toInt := congrArg Int32.toInt hK1089
            have q_1092 := hI1089.r 10 rfl
            have e_1093 : (F1089 10).toInt = (F1082 10).toInt := hO1089
            unfold cb_X4_forStatement_279
            refine WP.bind (cs_X5_leave hfu F1089 G1089 hI1089) ?_
            rintro r1094 F1094 G1094 ⟨hI1094, hB1094, hT1094, hO1094, hK1094, hp1094⟩
            dsimp only
            have q_1095 := i_rng (F1094 11)
            have e_1096 : (F1094 11).toInt = (F1089 11).toInt := congrArg Int32.toInt hK1094
            have q_1097 := hI1094.r 10 rfl
            have e_1098 : (F1094 10).toInt = (F1089 10).toInt := hO1094
            unfold cb_X4_forStatement_286
            have q_1099 := i_rng (F2 30)
            have j_1100 : CI (fup F1094 30 (F2 30)) G1094 := CI.fr rfl hI1094
            unfold cb_X4_forStatement_291
            have q_1101 := i_rng (F2 31)
            have j_1102 : CI (fup (fup F1094 30 (F2 30)) 31 (F2 31)) G1094 := CI.fr rfl j_1100
            unfold cb_X4_forStatement_296
            refine WP.bind (cs_X2_closes hfu (fup (fup F1094 30 (F2 30)) 31 (F2 31)) G1094 j_1102 (show 0 ≤ (F1094 10).toInt by omega)) ?_
            rintro r1103 F1103 G1103 ⟨hI1103, hB1103, hT1103, hK1103, hp1103⟩
            dsimp only
            have q_1104 := i_rng (F1103 11)
            have e_1105 : (F1103 11).toInt = (F1094 11).toInt := congrArg Int32.toInt hK1103
            have q_1106 := hI1103.r 10 rfl
            have e_1107 : (F1103 10).toInt = (F1094 10).toInt - 1 := hp1103
            unfold cb_X4_forStatement_303
            refine WP.ret ?_
            exact ⟨hI1103, (KB.tr (KB.f (by decide) (KB.f (by decide) (KB.tr (KB.tr (KB.tr (KB.tr (KB.tr (KB.tr (KB.tr (KB.tr (KB.tr (KB.tr (KB.tr (KB.tr (KB.tr (KB.tr (KB.tr (KB.tr (KB.rf : KB F G F G) hB2) hB16) hB22) hB1016) hB1020) hB1028) hB1035) hB1047) hB1052) hB1059) hB1064) hB1070) hB1076) hB1082) hB1089) hB1094))) hB1103), (KT.tr (KT.f (by decide) (KT.f (by decide) (KT.tr (KT.tr (KT.tr (KT.tr (KT.tr (KT.tr (KT.tr (KT.tr (KT.tr (KT.tr (KT.tr (KT.tr (KT.tr (KT.tr (KT.tr (KT.tr (rfl : KT F F) hT2) hT16) hT22) hT1016) hT1020) hT1028) hT1035) hT1047) hT1052) hT1059) hT1064) hT1070) hT1076) hT1082) hT1089) hT1094))) hT1103), (show (F 11).toInt = -2 → (F1103 11).toInt = -2 by omega), (show (F1103 10).toInt = (F 10).toInt ∨ ((F1103 10).toInt = (F 10).toInt - 1 ∧ (F1103 11).toInt = -2 ∧ (F 11).toInt ≠ -2) by omega)⟩
          · skip
            have l_1108 : (20 : Int32).toInt = 20 := rfl
            have e_1109 := mt i_eq.mpr (show ¬ ((F1035 11) = (20 : Int32)) from c_1043)
            unfold cb_X4_forStatement_177
            refine WP.bind (cs_X4_simple hfu F1035 G1035 hI1035) ?_
            rintro r1110 F1110 G1110 ⟨hI1110, hB1110, hT1110, hO1110, hS1110, hp1110⟩
            dsimp only
            have q_1111 := i_rng (F1110 11)
            have e_1112 : (F1035 11).toInt = -2 → (F1110 11).toInt = -2 := hS1110
            have q_1113 := hI1110.r 10 rfl
            have e_1114 : (F1110 10).toInt = (F1035 10).toInt := hO1110
            unfold cb_X4_forStatement_181
            have q_1115 := hI1020.r 6 rfl
            refine WP.bind (cs_X1_addPair hfu (84 : Int32) (F1020 6) F1110 G1110 hI1110) ?_
            rintro r1116 F1116 G1116 ⟨hI1116, hB1116, hT1116, hO1116, hK1116, hp1116⟩
            dsimp only
            have q_1117 := i_rng (F1116 11)
            have e_1118 : (F1116 11).toInt = (F1110 11).toInt := congrArg Int32.toInt hK1116
            have q_1119 := hI1116.r 10 rfl
            have e_1120 : (F1116 10).toInt = (F1110 10).toInt := hO1116
            unfold cb_X4_forStatement_192
            refine WP.bind (cs_X2_closesWith hfu (20 : Int32) F1116 G1116 hI1116 (show 0 ≤ (F1116 10).toInt by omega) (show (20 : Int32).toInt ≠ -2 by omega)) ?_
            rintro r1121 F1121 G1121 ⟨hI1121, hB1121, hT1121, hS1121, hp1121⟩
            dsimp only
            have q_1122 := i_rng (F1121 11)
            have e_1123 : (F1116 11).toInt = -2 → (F1121 11).toInt = -2 := hS1121
            have q_1124 := hI1121.r 10 rfl
            have e_1125 : (F1121 10).toInt = (F1116 10).toInt - 1 := hp1121
            unfold cb_X4_forStatement_201
            have q_1126 := i_rng r1035
            have q_1127 := hI1121.r 6 rfl
            refine WP.bind (cs_X1_aim hfu r1035 (F1121 6) F1121 G1121 hI1121) ?_
            rintro r1128 F1128 G1128 ⟨hI1128, hB1128, hT1128, hO1128, hK1128, hp1128⟩
            dsimp only
            have q_1129 := i_rng (F1128 11)
            have e_1130 : (F1128 11).toInt = (F1121 11).toInt := congrArg Int32.toInt hK1128
            have q_1131 := hI1128.r 10 rfl
            have e_1132 : (F1128 10).toInt = (F1121 10).toInt := hO1128
            unfold cb_X4_forStatement_217
            refine WP.bind (ih.2.2.2.2.2.1 F1128 G1128 hI1128 (show 0 ≤ (F1128 10).toInt by omega) (by omega)) ?_
            rintro r1133 F1133 G1133 ⟨hI1133, hB1133, hT1133, hS1133, hp1133⟩
            dsimp only
            have q_1134 := i_rng (F1133 11)
            have e_1135 : (F1128 11).toInt = -2 → (F1133 11).toInt = -2 := hS1133
            have q_1136 := hI1133.r 10 rfl
            have e_1137 : (F1133 10).toInt = (F1128 10).toInt ∨ ((F1133 10).toInt = (F1128 10).toInt - 1 ∧ (F1133 11).toInt = -2 ∧ (F1128 11).toInt ≠ -2) := hp1133
            unfold cb_X4_forStatement_221
            have q_1138 := hI1035.r 6 rfl
            refine WP.bind (cs_X1_addPair hfu (84 : Int32) (F1035 6) F1133 G1133 hI1133) ?_
            rintro r1139 F1139 G1139 ⟨hI1139, hB1139, hT1139, hO1139, hK1139, hp1139⟩
            dsimp only
            have q_1140 := i_rng (F1139 11)
            have e_1141 : (F1139 11).toInt = (F1133 11).toInt := congrArg Int32.toInt hK1139
            have q_1142 := hI1139.r 10 rfl
            have e_1143 : (F1139 10).toInt = (F1133 10).toInt := hO1139
            unfold cb_X4_forStatement_232
            have q_1144 := i_rng (F1139 31)
            refine WP.bind (cs_X1_aim hfu (F1139 31) (F1035 6) F1139 G1139 hI1139) ?_
            rintro r1145 F1145 G1145 ⟨hI1145, hB1145, hT1145, hO1145, hK1145, hp1145⟩
            dsimp only
            have q_1146 := i_rng (F1145 11)
            have e_1147 : (F1145 11).toInt = (F1139 11).toInt := congrArg Int32.toInt hK1145
            have q_1148 := hI1145.r 10 rfl
            have e_1149 : (F1145 10).toInt = (F1139 10).toInt := hO1145
            unfold cb_X4_forStatement_245
            have q_1150 := hI1145.r 6 rfl
            refine WP.bind (cs_X1_aim hfu (-1 : Int32) (F1145 6) F1145 G1145 hI1145) ?_
            rintro r1151 F1151 G1151 ⟨hI1151, hB1151, hT1151, hO1151, hK1151, hp1151⟩
            dsimp only
            have q_1152 := i_rng (F1151 11)
            have e_1153 : (F1151 11).toInt = (F1145 11).toInt := congrArg Int32.toInt hK1151
            have q_1154 := hI1151.r 10 rfl
            have e_1155 : (F1151 10).toInt = (F1145 10).toInt := hO1151
            unfold cb_X4_forStatement_261
            have q_1156 := i_rng (F1151 30)
            have q_1157 := hI1151.r 6 rfl
            refine WP.bind (cs_X1_aim hfu (F1151 30) (F1151 6) F1151 G1151 hI1151) ?_
            rintro r1158 F1158 G1158 ⟨hI1158, hB1158, hT1158, hO1158, hK1158, hp1158⟩
            dsimp only
            have q_1159 := i_rng (F1158 11)
            have e_1160 : (F1158 11).toInt = (F1151 11).toInt := congrArg Int32.toInt hK1158
            have q_1161 := hI1158.r 10 rfl
            have e_1162 : (F1158 10).toInt = (F1151 10).toInt := hO1158
            unfold cb_X4_forStatement_279
            refine WP.bind (cs_X5_leave hfu F1158 G1158 hI1158) ?_
            rintro r1163 F1163 G1163 ⟨hI1163, hB1163, hT1163, hO1163, hK1163, hp1163⟩
            dsimp only
            have q_1164 := i_rng (F1163 11)
            have e_1165 : (F1163 11).toInt = (F1158 11).toInt := congrArg Int32.toInt hK1163
            have q_1166 := hI1163.r 10 rfl
            have e_1167 : (F1163 10).toInt = (F1158 10).toInt := hO1163
            unfold cb_X4_forStatement_286
            have q_1168 := i_rng (F2 30)
            have j_1169 : CI (fup F1163 30 (F2 30)) G1163 := CI.fr rfl hI1163
            unfold cb_X4_forStatement_291
            have q_1170 := i_rng (F2 31)
            have j_1171 : CI (fup (fup F1163 30 (F2 30)) 31 (F2 31)) G1163 := CI.fr rfl j_1169
            unfold cb_X4_forStatement_296
            refine WP.bind (cs_X2_closes hfu (fup (fup F1163 30 (F2 30)) 31 (F2 31)) G1163 j_1171 (show 0 ≤ (F1163 10).toInt by omega)) ?_
            rintro r1172 F1172 G1172 ⟨hI1172, hB1172, hT1172, hK1172, hp1172⟩
            dsimp only
            have q_1173 := i_rng (F1172 11)
            have e_1174 : (F1172 11).toInt = (F1163 11).toInt := congrArg Int32.toInt hK1172
            have q_1175 := hI1172.r 10 rfl
            have e_1176 : (F1172 10).toInt = (F1163 10).toInt - 1 := hp1172
            unfold cb_X4_forStatement_303
            refine WP.ret ?_
            exact ⟨hI1172, (KB.tr (KB.f (by decide) (KB.f (by decide) (KB.tr (KB.tr (KB.tr (KB.tr (KB.tr (KB.tr (KB.tr (KB.tr (KB.tr (KB.tr (KB.tr (KB.tr (KB.tr (KB.tr (KB.tr (KB.tr (KB.tr (KB.rf : KB F G F G) hB2) hB16) hB22) hB1016) hB1020) hB1028) hB1035) hB1110) hB1116) hB1121) hB1128) hB1133) hB1139) hB1145) hB1151) hB1158) hB1163))) hB1172), (KT.tr (KT.f (by decide) (KT.f (by decide) (KT.tr (KT.tr (KT.tr (KT.tr (KT.tr (KT.tr (KT.tr (KT.tr (KT.tr (KT.tr (KT.tr (KT.tr (KT.tr (KT.tr (KT.tr (KT.tr (KT.tr (rfl : KT F F) hT2) hT16) hT22) hT1016) hT1020) hT1028) hT1035) hT1110) hT1116) hT1121) hT1128) hT1133) hT1139) hT1145) hT1151) hT1158) hT1163))) hT1172), (show (F 11).toInt = -2 → (F1172 11).toInt = -2 by omega), (show (F1172 10).toInt = (F 10).toInt ∨ ((F1172 10).toInt = (F 10).toInt - 1 ∧ (F1172 11).toInt = -2 ∧ (F 11).toInt ≠ -2) by omega)⟩
        · skip
          have e_1177 := mt i_eq.mpr (show ¬ ((F1020 11) = (26 : Int32)) from c_1026)
          unfold cb_X4_forStatement_116
          refine WP.bind (cs_X3_expression hfu F1020 G1020 hI1020) ?_
          rintro r1178 F1178 G1178 ⟨hI1178, hB1178, hT1178, hO1178, hS1178, hp1178⟩
          dsimp only
          have q_1179 := i_rng (F1178 11)
          have e_1180 : (F1020 11).toInt = -2 → (F1178 11).toInt = -2 := hS1178
          have q_1181 := hI1178.r 10 rfl
          have e_1182 : (F1178 10).toInt = (F1020 10).toInt := hO1178
          unfold cb_X4_forStatement_123
          have l_1183 : (86 : Int32).toInt = 86 := rfl
          have l_1184 : (-1 : Int32).toInt = -1 := rfl
          refine WP.bind (cs_X1_addJump hfu (86 : Int32) (-1 : Int32) F1178 G1178 hI1178) ?_
          rintro r1185 F1185 G1185 ⟨hI1185, hB1185, hT1185, hO1185, hK1185, hp1185⟩
          dsimp only
          have q_1186 := i_rng (F1185 11)
          have e_1187 : (F1185 11).toInt = (F1178 11).toInt := congrArg Int32.toInt hK1185
          have q_1188 := hI1185.r 10 rfl
          have e_1189 : (F1185 10).toInt = (F1178 10).toInt := hO1185
          have q_1190 := hI1178.r 21 rfl
          have q_1191 := hI1185.r 21 rfl
          have e_1192 : (F1185 21).toInt = (F1178 21).toInt := congrArg Int32.toInt hp1185
          unfold cb_X4_forStatement_133
          unfold cb_X4_forStatement_135
          refine WP.bind (cs_X2_expect hfu (26 : Int32) F1185 G1185 hI1185 (show (26 : Int32).toInt ≠ -2 by omega)) ?_
          rintro r1193 F1193 G1193 ⟨hI1193, hB1193, hT1193, hO1193, hS1193, hp1193⟩
          dsimp only
          have q_1194 := i_rng (F1193 11)
          have e_1195 : (F1185 11).toInt = -2 → (F1193 11).toInt = -2 := hS1193
          have q_1196 := hI1193.r 10 rfl
          have e_1197 : (F1193 10).toInt = (F1185 10).toInt := hO1193
          unfold cb_X4_forStatement_144
          have l_1198 : (84 : Int32).toInt = 84 := rfl
          refine WP.bind (cs_X1_addJump hfu (84 : Int32) (-1 : Int32) F1193 G1193 hI1193) ?_
          rintro r1199 F1199 G1199 ⟨hI1199, hB1199, hT1199, hO1199, hK1199, hp1199⟩
          dsimp only
          have q_1200 := i_rng (F1199 11)
          have e_1201 : (F1199 11).toInt = (F1193 11).toInt := congrArg Int32.toInt hK1199
          have q_1202 := hI1199.r 10 rfl
          have e_1203 : (F1199 10).toInt = (F1193 10).toInt := hO1199
          have q_1204 := hI1193.r 21 rfl
          have q_1205 := hI1199.r 21 rfl
          have e_1206 : (F1199 21).toInt = (F1193 21).toInt := congrArg Int32.toInt hp1199
          unfold cb_X4_forStatement_154
          refine WP.ite (fun c_1207 => ?_) (fun c_1207 => ?_)
          · skip
            have l_1208 : (20 : Int32).toInt = 20 := rfl
            have e_1209 := i_eq.mp (show (F1199 11) = (20 : Int32) from c_1207)
            unfold cb_X4_forStatement_181
            have q_1210 := hI1020.r 6 rfl
            refine WP.bind (cs_X1_addPair hfu (84 : Int32) (F1020 6) F1199 G1199 hI1199) ?_
            rintro r1211 F1211 G1211 ⟨hI1211, hB1211, hT1211, hO1211, hK1211, hp1211⟩
            dsimp only
            have q_1212 := i_rng (F1211 11)
            have e_1213 : (F1211 11).toInt = (F1199 11).toInt := congrArg Int32.toInt hK1211
            have q_1214 := hI1211.r 10 rfl
            have e_1215 : (F1211 10).toInt = (F1199 10).toInt := hO1211
            unfold cb_X4_forStatement_192
            refine WP.bind (cs_X2_closesWith hfu (20 : Int32) F1211 G1211 hI1211 (show 0 ≤ (F1211 10).toInt by omega) (show (20 : Int32).toInt ≠ -2 by omega)) ?_
            rintro r1216 F1216 G1216 ⟨hI1216, hB1216, hT1216, hS1216, hp1216⟩
            dsimp only
            have q_1217 := i_rng (F1216 11)
            have e_1218 : (F1211 11).toInt = -2 → (F1216 11).toInt = -2 := hS1216
            have q_1219 := hI1216.r 10 rfl
            have e_1220 : (F1216 10).toInt = (F1211 10).toInt - 1 := hp1216
            unfold cb_X4_forStatement_201
            have q_1221 := i_rng r1199
            have q_1222 := hI1216.r 6 rfl
            refine WP.bind (cs_X1_aim hfu r1199 (F1216 6) F1216 G1216 hI1216) ?_
            rintro r1223 F1223 G1223 ⟨hI1223, hB1223, hT1223, hO1223, hK1223, hp1223⟩
            dsimp only
            have q_1224 := i_rng (F1223 11)
            have e_1225 : (F1223 11).toInt = (F1216 11).toInt := congrArg Int32.toInt hK1223
            have q_1226 := hI1223.r 10 rfl
            have e_1227 : (F1223 10).toInt = (F1216 10).toInt := hO1223
            unfold cb_X4_forStatement_217
            refine WP.bind (ih.2.2.2.2.2.1 F1223 G1223 hI1223 (show 0 ≤ (F1223 10).toInt by omega) (by omega)) ?_
            rintro r1228 F1228 G1228 ⟨hI1228, hB1228, hT1228, hS1228, hp1228⟩
            dsimp only
            have q_1229 := i_rng (F1228 11)
            have e_1230 : (F1223 11).toInt = -2 → (F1228 11).toInt = -2 := hS1228
            have q_1231 := hI1228.r 10 rfl
            have e_1232 : (F1228 10).toInt = (F1223 10).toInt ∨ ((F1228 10).toInt = (F1223 10).toInt - 1 ∧ (F1228 11).toInt = -2 ∧ (F1223 11).toInt ≠ -2) := hp1228
            unfold cb_X4_forStatement_221
            have q_1233 := hI1199.r 6 rfl
            refine WP.bind (cs_X1_addPair hfu (84 : Int32) (F1199 6) F1228 G1228 hI1228) ?_
            rintro r1234 F1234 G1234 ⟨hI1234, hB1234, hT1234, hO1234, hK1234, hp1234⟩
            dsimp only
            have q_1235 := i_rng (F1234 11)
            have e_1236 : (F1234 11).toInt = (F1228 11).toInt := congrArg Int32.toInt hK1234
            have q_1237 := hI1234.r 10 rfl
            have e_1238 : (F1234 10).toInt = (F1228 10).toInt := hO1234
            unfold cb_X4_forStatement_232
            have q_1239 := i_rng (F1234 31)
            refine WP.bind (cs_X1_aim hfu (F1234 31) (F1199 6) F1234 G1234 hI1234) ?_
            rintro r1240 F1240 G1240 ⟨hI1240, hB1240, hT1240, hO1240, hK1240, hp1240⟩
            dsimp only
            have q_1241 := i_rng (F1240 11)
            have e_1242 : (F1240 11).toInt = (F1234 11).toInt := congrArg Int32.toInt hK1240
            have q_1243 := hI1240.r 10 rfl
            have e_1244 : (F1240 10).toInt = (F1234 10).toInt := hO1240
            unfold cb_X4_forStatement_245
            have q_1245 := i_rng r1185
            have q_1246 := hI1240.r 6 rfl
            refine WP.bind (cs_X1_aim hfu r1185 (F1240 6) F1240 G1240 hI1240) ?_
            rintro r1247 F1247 G1247 ⟨hI1247, hB1247, hT1247, hO1247, hK1247, hp1247⟩
            dsimp only
            have q_1248 := i_rng (F1247 11)
            have e_1249 : (F1247 11).toInt = (F1240 11).toInt := congrArg Int32.toInt hK1247
            have q_1250 := hI1247.r 10 rfl
            have e_1251 : (F1247 10).toInt = (F1240 10).toInt := hO1247
            unfold cb_X4_forStatement_261
            have q_1252 := i_rng (F1247 30)
            have q_1253 := hI1247.r 6 rfl
            refine WP.bind (cs_X1_aim hfu (F1247 30) (F1247 6) F1247 G1247 hI1247) ?_
            rintro r1254 F1254 G1254 ⟨hI1254, hB1254, hT1254, hO1254, hK1254, hp1254⟩
            dsimp only
            have q_1255 := i_rng (F1254 11)
            have e_1256 : (F1254 11).toInt = (F1247 11).toInt := congrArg Int32.toInt hK1254
            have q_1257 := hI1254.r 10 rfl
            have e_1258 : (F1254 10).toInt = (F1247 10).toInt := hO1254
            unfold cb_X4_forStatement_279
            refine WP.bind (cs_X5_leave hfu F1254 G1254 hI1254) ?_
            rintro r1259 F1259 G1259 ⟨hI1259, hB1259, hT1259, hO1259, hK1259, hp1259⟩
            dsimp only
            have q_1260 := i_rng (F1259 11)
            have e_1261 : (F1259 11).toInt = (F1254 11).toInt := congrArg Int32.toInt hK1259
            have q_1262 := hI1259.r 10 rfl
            have e_1263 : (F1259 10).toInt = (F1254 10).toInt := hO1259
            unfold cb_X4_forStatement_286
            have q_1264 := i_rng (F2 30)
            have j_1265 : CI (fup F1259 30 (F2 30)) G1259 := CI.fr rfl hI1259
            unfold cb_X4_forStatement_291
            have q_1266 := i_rng (F2 31)
            have j_1267 : CI (fup (fup F1259 30 (F2 30)) 31 (F2 31)) G1259 := CI.fr rfl j_1265
            unfold cb_X4_forStatement_296
            refine WP.bind (cs_X2_closes hfu (fup (fup F1259 30 (F2 30)) 31 (F2 31)) G1259 j_1267 (show 0 ≤ (F1259 10).toInt by omega)) ?_
            rintro r1268 F1268 G1268 ⟨hI1268, hB1268, hT1268, hK1268, hp1268⟩
            dsimp only
            have q_1269 := i_rng (F1268 11)
            have e_1270 : (F1268 11).toInt = (F1259 11).toInt := congrArg Int32.toInt hK1268
            have q_1271 := hI1268.r 10 rfl
            have e_1272 : (F1268 10).toInt = (F1259 10).toInt - 1 := hp1268
            unfold cb_X4_forStatement_303
            refine WP.ret ?_
            exact ⟨hI1268, (KB.tr (KB.f (by decide) (KB.f (by decide) (KB.tr (KB.tr (KB.tr (KB.tr (KB.tr (KB.tr (KB.tr (KB.tr (KB.tr (KB.tr (KB.tr (KB.tr (KB.tr (KB.tr (KB.tr (KB.tr (KB.tr (KB.tr (KB.rf : KB F G F G) hB2) hB16) hB22) hB1016) hB1020) hB1178) hB1185) hB1193) hB1199) hB1211) hB1216) hB1223) hB1228) hB1234) hB1240) hB1247) hB1254) hB1259))) hB1268), (KT.tr (KT.f (by decide) (KT.f (by decide) (KT.tr (KT.tr (KT.tr (KT.tr (KT.tr (KT.tr (KT.tr (KT.tr (KT.tr (KT.tr (KT.tr (KT.tr (KT.tr (KT.tr (KT.tr (KT.tr (KT.tr (KT.tr (rfl : KT F F) hT2) hT16) hT22) hT1016) hT1020) hT1178) hT1185) hT1193) hT1199) hT1211) hT1216) hT1223) hT1228) hT1234) hT1240) hT1247) hT1254) hT1259))) hT1268), (show (F 11).toInt = -2 → (F1268 11).toInt = -2 by omega), (show (F1268 10).toInt = (F 10).toInt ∨ ((F1268 10).toInt = (F 10).toInt - 1 ∧ (F1268 11).toInt = -2 ∧ (F 11).toInt ≠ -2) by omega)⟩
          · skip
            have l_1273 : (20 : Int32).toInt = 20 := rfl
            have e_1274 := mt i_eq.mpr (show ¬ ((F1199 11) = (20 : Int32)) from c_1207)
            unfold cb_X4_forStatement_177
            refine WP.bind (cs_X4_simple hfu F1199 G1199 hI1199) ?_
            rintro r1275 F1275 G1275 ⟨hI1275, hB1275, hT1275, hO1275, hS1275, hp1275⟩
            dsimp only
            have q_1276 := i_rng (F1275 11)
            have e_1277 : (F1199 11).toInt = -2 → (F1275 11).toInt = -2 := hS1275
            have q_1278 := hI1275.r 10 rfl
            have e_1279 : (F1275 10).toInt = (F1199 10).toInt := hO1275
            unfold cb_X4_forStatement_181
            have q_1280 := hI1020.r 6 rfl
            refine WP.bind (cs_X1_addPair hfu (84 : Int32) (F1020 6) F1275 G1275 hI1275) ?_
            rintro r1281 F1281 G1281 ⟨hI1281, hB1281, hT1281, hO1281, hK1281, hp1281⟩
            dsimp only
            have q_1282 := i_rng (F1281 11)
            have e_1283 : (F1281 11).toInt = (F1275 11).toInt := congrArg Int32.toInt hK1281
            have q_1284 := hI1281.r 10 rfl
            have e_1285 : (F1281 10).toInt = (F1275 10).toInt := hO1281
            unfold cb_X4_forStatement_192
            refine WP.bind (cs_X2_closesWith hfu (20 : Int32) F1281 G1281 hI1281 (show 0 ≤ (F1281 10).toInt by omega) (show (20 : Int32).toInt ≠ -2 by omega)) ?_
            rintro r1286 F1286 G1286 ⟨hI1286, hB1286, hT1286, hS1286, hp1286⟩
            dsimp only
            have q_1287 := i_rng (F1286 11)
            have e_1288 : (F1281 11).toInt = -2 → (F1286 11).toInt = -2 := hS1286
            have q_1289 := hI1286.r 10 rfl
            have e_1290 : (F1286 10).toInt = (F1281 10).toInt - 1 := hp1286
            unfold cb_X4_forStatement_201
            have q_1291 := i_rng r1199
            have q_1292 := hI1286.r 6 rfl
            refine WP.bind (cs_X1_aim hfu r1199 (F1286 6) F1286 G1286 hI1286) ?_
            rintro r1293 F1293 G1293 ⟨hI1293, hB1293, hT1293, hO1293, hK1293, hp1293⟩
            dsimp only
            have q_1294 := i_rng (F1293 11)
            have e_1295 : (F1293 11).toInt = (F1286 11).toInt := congrArg Int32.toInt hK1293
            have q_1296 := hI1293.r 10 rfl
            have e_1297 : (F1293 10).toInt = (F1286 10).toInt := hO1293
            unfold cb_X4_forStatement_217
            refine WP.bind (ih.2.2.2.2.2.1 F1293 G1293 hI1293 (show 0 ≤ (F1293 10).toInt by omega) (by omega)) ?_
            rintro r1298 F1298 G1298 ⟨hI1298, hB1298, hT1298, hS1298, hp1298⟩
            dsimp only
            have q_1299 := i_rng (F1298 11)
            have e_1300 : (F1293 11).toInt = -2 → (F1298 11).toInt = -2 := hS1298
            have q_1301 := hI1298.r 10 rfl
            have e_1302 : (F1298 10).toInt = (F1293 10).toInt ∨ ((F1298 10).toInt = (F1293 10).toInt - 1 ∧ (F1298 11).toInt = -2 ∧ (F1293 11).toInt ≠ -2) := hp1298
            unfold cb_X4_forStatement_221
            have q_1303 := hI1199.r 6 rfl
            refine WP.bind (cs_X1_addPair hfu (84 : Int32) (F1199 6) F1298 G1298 hI1298) ?_
            rintro r1304 F1304 G1304 ⟨hI1304, hB1304, hT1304, hO1304, hK1304, hp1304⟩
            dsimp only
            have q_1305 := i_rng (F1304 11)
            have e_1306 : (F1304 11).toInt = (F1298 11).toInt := congrArg Int32.toInt hK1304
            have q_1307 := hI1304.r 10 rfl
            have e_1308 : (F1304 10).toInt = (F1298 10).toInt := hO1304
            unfold cb_X4_forStatement_232
            have q_1309 := i_rng (F1304 31)
            refine WP.bind (cs_X1_aim hfu (F1304 31) (F1199 6) F1304 G1304 hI1304) ?_
            rintro r1310 F1310 G1310 ⟨hI1310, hB1310, hT1310, hO1310, hK1310, hp1310⟩
            dsimp only
            have q_1311 := i_rng (F1310 11)
            have e_1312 : (F1310 11).toInt = (F1304 11).toInt := congrArg Int32.toInt hK1310
            have q_1313 := hI1310.r 10 rfl
            have e_1314 : (F1310 10).toInt = (F1304 10).toInt := hO1310
            unfold cb_X4_forStatement_245
            have q_1315 := i_rng r1185
            have q_1316 := hI1310.r 6 rfl
            refine WP.bind (cs_X1_aim hfu r1185 (F1310 6) F1310 G1310 hI1310) ?_
            rintro r1317 F1317 G1317 ⟨hI1317, hB1317, hT1317, hO1317, hK1317, hp1317⟩
            dsimp only
            have q_1318 := i_rng (F1317 11)
            have e_1319 : (F1317 11).toInt = (F1310 11).toInt := congrArg Int32.toInt hK1317
            have q_1320 := hI1317.r 10 rfl
            have e_1321 : (F1317 10).toInt = (F1310 10).toInt := hO1317
            unfold cb_X4_forStatement_261
            have q_1322 := i_rng (F1317 30)
            have q_1323 := hI1317.r 6 rfl
            refine WP.bind (cs_X1_aim hfu (F1317 30) (F1317 6) F1317 G1317 hI1317) ?_
            rintro r1324 F1324 G1324 ⟨hI1324, hB1324, hT1324, hO1324, hK1324, hp1324⟩
            dsimp only
            have q_1325 := i_rng (F1324 11)
            have e_1326 : (F1324 11).toInt = (F1317 11).toInt := congrArg Int32.toInt hK1324
            have q_1327 := hI1324.r 10 rfl
            have e_1328 : (F1324 10).toInt = (F1317 10).toInt := hO1324
            unfold cb_X4_forStatement_279
            refine WP.bind (cs_X5_leave hfu F1324 G1324 hI1324) ?_
            rintro r1329 F1329 G1329 ⟨hI1329, hB1329, hT1329, hO1329, hK1329, hp1329⟩
            dsimp only
            have q_1330 := i_rng (F1329 11)
            have e_1331 : (F1329 11).toInt = (F1324 11).toInt := congrArg Int32.toInt hK1329
            have q_1332 := hI1329.r 10 rfl
            have e_1333 : (F1329 10).toInt = (F1324 10).toInt := hO1329
            unfold cb_X4_forStatement_286
            have q_1334 := i_rng (F2 30)
            have j_1335 : CI (fup F1329 30 (F2 30)) G1329 := CI.fr rfl hI1329
            unfold cb_X4_forStatement_291
            have q_1336 := i_rng (F2 31)
            have j_1337 : CI (fup (fup F1329 30 (F2 30)) 31 (F2 31)) G1329 := CI.fr rfl j_1335
            unfold cb_X4_forStatement_296
            refine WP.bind (cs_X2_closes hfu (fup (fup F1329 30 (F2 30)) 31 (F2 31)) G1329 j_1337 (show 0 ≤ (F1329 10).toInt by omega)) ?_
            rintro r1338 F1338 G1338 ⟨hI1338, hB1338, hT1338, hK1338, hp1338⟩
            dsimp only
            have q_1339 := i_rng (F1338 11)
            have e_1340 : (F1338 11).toInt = (F1329 11).toInt := congrArg Int32.toInt hK1338
            have q_1341 := hI1338.r 10 rfl
            have e_1342 : (F1338 10).toInt = (F1329 10).toInt - 1 := hp1338
            unfold cb_X4_forStatement_303
            refine WP.ret ?_
            exact ⟨hI1338, (KB.tr (KB.f (by decide) (KB.f (by decide) (KB.tr (KB.tr (KB.tr (KB.tr (KB.tr (KB.tr (KB.tr (KB.tr (KB.tr (KB.tr (KB.tr (KB.tr (KB.tr (KB.tr (KB.tr (KB.tr (KB.tr (KB.tr (KB.tr (KB.rf : KB F G F G) hB2) hB16) hB22) hB1016) hB1020) hB1178) hB1185) hB1193) hB1199) hB1275) hB1281) hB1286) hB1293) hB1298) hB1304) hB1310) hB1317) hB1324) hB1329))) hB1338), (KT.tr (KT.f (by decide) (KT.f (by decide) (KT.tr (KT.tr (KT.tr (KT.tr (KT.tr (KT.tr (KT.tr (KT.tr (KT.tr (KT.tr (KT.tr (KT.tr (KT.tr (KT.tr (KT.tr (KT.tr (KT.tr (KT.tr (KT.tr (rfl : KT F F) hT2) hT16) hT22) hT1016) hT1020) hT1178) hT1185) hT1193) hT1199) hT1275) hT1281) hT1286) hT1293) hT1298) hT1304) hT1310) hT1317) hT1324) hT1329))) hT1338), (show (F 11).toInt = -2 → (F1338 11).toInt = -2 by omega), (show (F1338 10).toInt = (F 10).toInt ∨ ((F1338 10).toInt = (F 10).toInt - 1 ∧ (F1338 11).toInt = -2 ∧ (F 11).toInt ≠ -2) by omega)⟩
      · skip
        have l_1343 : (4 : Int32).toInt = 4 := rfl
        have e_1344 := mt i_eq.mpr (show ¬ ((F22 11) = (4 : Int32)) from c_1012)
        unfold cb_X4_forStatement_63
        refine WP.ite (fun c_1345 => ?_) (fun c_1345 => ?_)
        · skip
          have e_1346 := i_eq.mp (show r22 = (0 : Int32) from c_1345)
          unfold cb_X4_forStatement_83
          have l_1347 : (26 : Int32).toInt = 26 := rfl
          refine WP.bind (cs_X2_expect hfu (26 : Int32) F22 G22 hI22 (show (26 : Int32).toInt ≠ -2 by omega)) ?_
          rintro r1348 F1348 G1348 ⟨hI1348, hB1348, hT1348, hO1348, hS1348, hp1348⟩
          dsimp only
          have q_1349 := i_rng (F1348 11)
          have e_1350 : (F22 11).toInt = -2 → (F1348 11).toInt = -2 := hS1348
          have q_1351 := hI1348.r 10 rfl
          have e_1352 : (F1348 10).toInt = (F22 10).toInt := hO1348
          unfold cb_X4_forStatement_92
          refine WP.ite (fun c_1353 => ?_) (fun c_1353 => ?_)
          · skip
            have e_1354 := i_eq.mp (show (F1348 11) = (26 : Int32) from c_1353)
            unfold cb_X4_forStatement_135
            refine WP.bind (cs_X2_expect hfu (26 : Int32) F1348 G1348 hI1348 (show (26 : Int32).toInt ≠ -2 by omega)) ?_
            rintro r1355 F1355 G1355 ⟨hI1355, hB1355, hT1355, hO1355, hS1355, hp1355⟩
            dsimp only
            have q_1356 := i_rng (F1355 11)
            have e_1357 : (F1348 11).toInt = -2 → (F1355 11).toInt = -2 := hS1355
            have q_1358 := hI1355.r 10 rfl
            have e_1359 : (F1355 10).toInt = (F1348 10).toInt := hO1355
            unfold cb_X4_forStatement_144
            have l_1360 : (84 : Int32).toInt = 84 := rfl
            have l_1361 : (-1 : Int32).toInt = -1 := rfl
            refine WP.bind (cs_X1_addJump hfu (84 : Int32) (-1 : Int32) F1355 G1355 hI1355) ?_
            rintro r1362 F1362 G1362 ⟨hI1362, hB1362, hT1362, hO1362, hK1362, hp1362⟩
            dsimp only
            have q_1363 := i_rng (F1362 11)
            have e_1364 : (F1362 11).toInt = (F1355 11).toInt := congrArg Int32.toInt hK1362
            have q_1365 := hI1362.r 10 rfl
            have e_1366 : (F1362 10).toInt = (F1355 10).toInt := hO1362
            have q_1367 := hI1355.r 21 rfl
            have q_1368 := hI1362.r 21 rfl
            have e_1369 : (F1362 21).toInt = (F1355 21).toInt := congrArg Int32.toInt hp1362
            unfold cb_X4_forStatement_154
            refine WP.ite (fun c_1370 => ?_) (fun c_1370 => ?_)
            · skip
              have l_1371 : (20 : Int32).toInt = 20 := rfl
              have e_1372 := i_eq.mp (show (F1362 11) = (20 : Int32) from c_1370)
              unfold cb_X4_forStatement_181
              have q_1373 := hI1348.r 6 rfl
              refine WP.bind (cs_X1_addPair hfu (84 : Int32) (F1348 6) F1362 G1362 hI1362) ?_
              rintro r1374 F1374 G1374 ⟨hI1374, hB1374, hT1374, hO1374, hK1374, hp1374⟩
              dsimp only
              have q_1375 := i_rng (F1374 11)
              have e_1376 : (F1374 11).toInt = (F1362 11).toInt := congrArg Int32.toInt hK1374
              have q_1377 := hI1374.r 10 rfl
              have e_1378 : (F1374 10).toInt = (F1362 10).toInt := hO1374
              unfold cb_X4_forStatement_192
              refine WP.bind (cs_X2_closesWith hfu (20 : Int32) F1374 G1374 hI1374 (show 0 ≤ (F1374 10).toInt by omega) (show (20 : Int32).toInt ≠ -2 by omega)) ?_
              rintro r1379 F1379 G1379 ⟨hI1379, hB1379, hT1379, hS1379, hp1379⟩
              dsimp only
              have q_1380 := i_rng (F1379 11)
              have e_1381 : (F1374 11).toInt = -2 → (F1379 11).toInt = -2 := hS1379
              have q_1382 := hI1379.r 10 rfl
              have e_1383 : (F1379 10).toInt = (F1374 10).toInt - 1 := hp1379
              unfold cb_X4_forStatement_201
              have q_1384 := i_rng r1362
              have q_1385 := hI1379.r 6 rfl
              refine WP.bind (cs_X1_aim hfu r1362 (F1379 6) F1379 G1379 hI1379) ?_
              rintro r1386 F1386 G1386 ⟨hI1386, hB1386, hT1386, hO1386, hK1386, hp1386⟩
              dsimp only
              have q_1387 := i_rng (F1386 11)
              have e_1388 : (F1386 11).toInt = (F1379 11).toInt := congrArg Int32.toInt hK1386
              have q_1389 := hI1386.r 10 rfl
              have e_1390 : (F1386 10).toInt = (F1379 10).toInt := hO1386
              unfold cb_X4_forStatement_217
              refine WP.bind (ih.2.2.2.2.2.1 F1386 G1386 hI1386 (show 0 ≤ (F1386 10).toInt by omega) (by omega)) ?_
              rintro r1391 F1391 G1391 ⟨hI1391, hB1391, hT1391, hS1391, hp1391⟩
              dsimp only
              have q_1392 := i_rng (F1391 11)
              have e_1393 : (F1386 11).toInt = -2 → (F1391 11).toInt = -2 := hS1391
              have q_1394 := hI1391.r 10 rfl
              have e_1395 : (F1391 10).toInt = (F1386 10).toInt ∨ ((F1391 10).toInt = (F1386 10).toInt - 1 ∧ (F1391 11).toInt = -2 ∧ (F1386 11).toInt ≠ -2) := hp1391
              unfold cb_X4_forStatement_221
              have q_1396 := hI1362.r 6 rfl
              refine WP.bind (cs_X1_addPair hfu (84 : Int32) (F1362 6) F1391 G1391 hI1391) ?_
              rintro r1397 F1397 G1397 ⟨hI1397, hB1397, hT1397, hO1397, hK1397, hp1397⟩
              dsimp only
              have q_1398 := i_rng (F1397 11)
              have e_1399 : (F1397 11).toInt = (F1391 11).toInt := congrArg Int32.toInt hK1397
              have q_1400 := hI1397.r 10 rfl
              have e_1401 : (F1397 10).toInt = (F1391 10).toInt := hO1397
              unfold cb_X4_forStatement_232
              have q_1402 := i_rng (F1397 31)
              refine WP.bind (cs_X1_aim hfu (F1397 31) (F1362 6) F1397 G1397 hI1397) ?_
              rintro r1403 F1403 G1403 ⟨hI1403, hB1403, hT1403, hO1403, hK1403, hp1403⟩
              dsimp only
              have q_1404 := i_rng (F1403 11)
              have e_1405 : (F1403 11).toInt = (F1397 11).toInt := congrArg Int32.toInt hK1403
              have q_1406 := hI1403.r 10 rfl
              have e_1407 : (F1403 10).toInt = (F1397 10).toInt := hO1403
              unfold cb_X4_forStatement_245
              have q_1408 := hI1403.r 6 rfl
              refine WP.bind (cs_X1_aim hfu (-1 : Int32) (F1403 6) F1403 G1403 hI1403) ?_
              rintro r1409 F1409 G1409 ⟨hI1409, hB1409, hT1409, hO1409, hK1409, hp1409⟩
              dsimp only
              have q_1410 := i_rng (F1409 11)
              have e_1411 : (F1409 11).toInt = (F1403 11).toInt := congrArg Int32.toInt hK1409
              have q_1412 := hI1409.r 10 rfl
              have e_1413 : (F1409 10).toInt = (F1403 10).toInt := hO1409
              unfold cb_X4_forStatement_261
              have q_1414 := i_rng (F1409 30)
              have q_1415 := hI1409.r 6 rfl
              refine WP.bind (cs_X1_aim hfu (F1409 30) (F1409 6) F1409 G1409 hI1409) ?_
              rintro r1416 F1416 G1416 ⟨hI1416, hB1416, hT1416, hO1416, hK1416, hp1416⟩
              dsimp only
              have q_1417 := i_rng (F1416 11)
              have e_1418 : (F1416 11).toInt = (F1409 11).toInt := congrArg Int32.toInt hK1416
              have q_1419 := hI1416.r 10 rfl
              have e_1420 : (F1416 10).toInt = (F1409 10).toInt := hO1416
              unfold cb_X4_forStatement_279
              refine WP.bind (cs_X5_leave hfu F1416 G1416 hI1416) ?_
              rintro r1421 F1421 G1421 ⟨hI1421, hB1421, hT1421, hO1421, hK1421, hp1421⟩
              dsimp only
              have q_1422 := i_rng (F1421 11)
              have e_1423 : (F1421 11).toInt = (F1416 11).toInt := congrArg Int32.toInt hK1421
              have q_1424 := hI1421.r 10 rfl
              have e_1425 : (F1421 10).toInt = (F1416 10).toInt := hO1421
              unfold cb_X4_forStatement_286
              have q_1426 := i_rng (F2 30)
              have j_1427 : CI (fup F1421 30 (F2 30)) G1421 := CI.fr rfl hI1421
              unfold cb_X4_forStatement_291
              have q_1428 := i_rng (F2 31)
              have j_1429 : CI (fup (fup F1421 30 (F2 30)) 31 (F2 31)) G1421 := CI.fr rfl j_1427
              unfold cb_X4_forStatement_296
              refine WP.bind (cs_X2_closes hfu (fup (fup F1421 30 (F2 30)) 31 (F2 31)) G1421 j_1429 (show 0 ≤ (F1421 10).toInt by omega)) ?_
              rintro r1430 F1430 G1430 ⟨hI1430, hB1430, hT1430, hK1430, hp1430⟩
              dsimp only
              have q_1431 := i_rng (F1430 11)
              have e_1432 : (F1430 11).toInt = (F1421 11).toInt := congrArg Int32.toInt hK1430
              have q_1433 := hI1430.r 10 rfl
              have e_1434 : (F1430 10).toInt = (F1421 10).toInt - 1 := hp1430
              unfold cb_X4_forStatement_303
              refine WP.ret ?_
              exact ⟨hI1430, (KB.tr (KB.f (by decide) (KB.f (by decide) (KB.tr (KB.tr (KB.tr (KB.tr (KB.tr (KB.tr (KB.tr (KB.tr (KB.tr (KB.tr (KB.tr (KB.tr (KB.tr (KB.tr (KB.tr (KB.rf : KB F G F G) hB2) hB16) hB22) hB1348) hB1355) hB1362) hB1374) hB1379) hB1386) hB1391) hB1397) hB1403) hB1409) hB1416) hB1421))) hB1430), (KT.tr (KT.f (by decide) (KT.f (by decide) (KT.tr (KT.tr (KT.tr (KT.tr (KT.tr (KT.tr (KT.tr (KT.tr (KT.tr (KT.tr (KT.tr (KT.tr (KT.tr (KT.tr (KT.tr (rfl : KT F F) hT2) hT16) hT22) hT1348) hT1355) hT1362) hT1374) hT1379) hT1386) hT1391) hT1397) hT1403) hT1409) hT1416) hT1421))) hT1430), (show (F 11).toInt = -2 → (F1430 11).toInt = -2 by omega), (show (F1430 10).toInt = (F 10).toInt ∨ ((F1430 10).toInt = (F 10).toInt - 1 ∧ (F1430 11).toInt = -2 ∧ (F 11).toInt ≠ -2) by omega)⟩
            · skip
              have l_1435 : (20 : Int32).toInt = 20 := rfl
              have e_1436 := mt i_eq.mpr (show ¬ ((F1362 11) = (20 : Int32)) from c_1370)
              unfold cb_X4_forStatement_177
              refine WP.bind (cs_X4_simple hfu F1362 G1362 hI1362) ?_
              rintro r1437 F1437 G1437 ⟨hI1437, hB1437, hT1437, hO1437, hS1437, hp1437⟩
              dsimp only
              have q_1438 := i_rng (F1437 11)
              have e_1439 : (F1362 11).toInt = -2 → (F1437 11).toInt = -2 := hS1437
              have q_1440 := hI1437.r 10 rfl
              have e_1441 : (F1437 10).toInt = (F1362 10).toInt := hO1437
              unfold cb_X4_forStatement_181
              have q_1442 := hI1348.r 6 rfl
              refine WP.bind (cs_X1_addPair hfu (84 : Int32) (F1348 6) F1437 G1437 hI1437) ?_
              rintro r1443 F1443 G1443 ⟨hI1443, hB1443, hT1443, hO1443, hK1443, hp1443⟩
              dsimp only
              have q_1444 := i_rng (F1443 11)
              have e_1445 : (F1443 11).toInt = (F1437 11).toInt := congrArg Int32.toInt hK1443
              have q_1446 := hI1443.r 10 rfl
              have e_1447 : (F1443 10).toInt = (F1437 10).toInt := hO1443
              unfold cb_X4_forStatement_192
              refine WP.bind (cs_X2_closesWith hfu (20 : Int32) F1443 G1443 hI1443 (show 0 ≤ (F1443 10).toInt by omega) (show (20 : Int32).toInt ≠ -2 by omega)) ?_
              rintro r1448 F1448 G1448 ⟨hI1448, hB1448, hT1448, hS1448, hp1448⟩
              dsimp only
              have q_1449 := i_rng (F1448 11)
              have e_1450 : (F1443 11).toInt = -2 → (F1448 11).toInt = -2 := hS1448
              have q_1451 := hI1448.r 10 rfl
              have e_1452 : (F1448 10).toInt = (F1443 10).toInt - 1 := hp1448
              unfold cb_X4_forStatement_201
              have q_1453 := i_rng r1362
              have q_1454 := hI1448.r 6 rfl
              refine WP.bind (cs_X1_aim hfu r1362 (F1448 6) F1448 G1448 hI1448) ?_
              rintro r1455 F1455 G1455 ⟨hI1455, hB1455, hT1455, hO1455, hK1455, hp1455⟩
              dsimp only
              have q_1456 := i_rng (F1455 11)
              have e_1457 : (F1455 11).toInt = (F1448 11).toInt := congrArg Int32.toInt hK1455
              have q_1458 := hI1455.r 10 rfl
              have e_1459 : (F1455 10).toInt = (F1448 10).toInt := hO1455
              unfold cb_X4_forStatement_217
              refine WP.bind (ih.2.2.2.2.2.1 F1455 G1455 hI1455 (show 0 ≤ (F1455 10).toInt by omega) (by omega)) ?_
              rintro r1460 F1460 G1460 ⟨hI1460, hB1460, hT1460, hS1460, hp1460⟩
              dsimp only
              have q_1461 := i_rng (F1460 11)
              have e_1462 : (F1455 11).toInt = -2 → (F1460 11).toInt = -2 := hS1460
              have q_1463 := hI1460.r 10 rfl
              have e_1464 : (F1460 10).toInt = (F1455 10).toInt ∨ ((F1460 10).toInt = (F1455 10).toInt - 1 ∧ (F1460 11).toInt = -2 ∧ (F1455 11).toInt ≠ -2) := hp1460
              unfold cb_X4_forStatement_221
              have q_1465 := hI1362.r 6 rfl
              refine WP.bind (cs_X1_addPair hfu (84 : Int32) (F1362 6) F1460 G1460 hI1460) ?_
              rintro r1466 F1466 G1466 ⟨hI1466, hB1466, hT1466, hO1466, hK1466, hp1466⟩
              dsimp only
              have q_1467 := i_rng (F1466 11)
              have e_1468 : (F1466 11).toInt = (F1460 11).toInt := congrArg Int32.toInt hK1466
              have q_1469 := hI1466.r 10 rfl
              have e_1470 : (F1466 10).toInt = (F1460 10).toInt := hO1466
              unfold cb_X4_forStatement_232
              have q_1471 := i_rng (F1466 31)
              refine WP.bind (cs_X1_aim hfu (F1466 31) (F1362 6) F1466 G1466 hI1466) ?_
              rintro r1472 F1472 G1472 ⟨hI1472, hB1472, hT1472, hO1472, hK1472, hp1472⟩
              dsimp only
              have q_1473 := i_rng (F1472 11)
              have e_1474 : (F1472 11).toInt = (F1466 11).toInt := congrArg Int32.toInt hK1472
              have q_1475 := hI1472.r 10 rfl
              have e_1476 : (F1472 10).toInt = (F1466 10).toInt := hO1472
              unfold cb_X4_forStatement_245
              have q_1477 := hI1472.r 6 rfl
              refine WP.bind (cs_X1_aim hfu (-1 : Int32) (F1472 6) F1472 G1472 hI1472) ?_
              rintro r1478 F1478 G1478 ⟨hI1478, hB1478, hT1478, hO1478, hK1478, hp1478⟩
              dsimp only
              have q_1479 := i_rng (F1478 11)
              have e_1480 : (F1478 11).toInt = (F1472 11).toInt := congrArg Int32.toInt hK1478
              have q_1481 := hI1478.r 10 rfl
              have e_1482 : (F1478 10).toInt = (F1472 10).toInt := hO1478
              unfold cb_X4_forStatement_261
              have q_1483 := i_rng (F1478 30)
              have q_1484 := hI1478.r 6 rfl
              refine WP.bind (cs_X1_aim hfu (F1478 30) (F1478 6) F1478 G1478 hI1478) ?_
              rintro r1485 F1485 G1485 ⟨hI1485, hB1485, hT1485, hO1485, hK1485, hp1485⟩
              dsimp only
              have q_1486 := i_rng (F1485 11)
              have e_1487 : (F1485 11).toInt = (F1478 11).toInt := congrArg Int32.toInt hK1485
              have q_1488 := hI1485.r 10 rfl
              have e_1489 : (F1485 10).toInt = (F1478 10).toInt := hO1485
              unfold cb_X4_forStatement_279
              refine WP.bind (cs_X5_leave hfu F1485 G1485 hI1485) ?_
              rintro r1490 F1490 G1490 ⟨hI1490, hB1490, hT1490, hO1490, hK1490, hp1490⟩
              dsimp only
              have q_1491 := i_rng (F1490 11)
              have e_1492 : (F1490 11).toInt = (F1485 11).toInt := congrArg Int32.toInt hK1490
              have q_1493 := hI1490.r 10 rfl
              have e_1494 : (F1490 10).toInt = (F1485 10).toInt := hO1490
              unfold cb_X4_forStatement_286
              have q_1495 := i_rng (F2 30)
              have j_1496 : CI (fup F1490 30 (F2 30)) G1490 := CI.fr rfl hI1490
              unfold cb_X4_forStatement_291
              have q_1497 := i_rng (F2 31)
              have j_1498 : CI (fup (fup F1490 30 (F2 30)) 31 (F2 31)) G1490 := CI.fr rfl j_1496
              unfold cb_X4_forStatement_296
              refine WP.bind (cs_X2_closes hfu (fup (fup F1490 30 (F2 30)) 31 (F2 31)) G1490 j_1498 (show 0 ≤ (F1490 10).toInt by omega)) ?_
              rintro r1499 F1499 G1499 ⟨hI1499, hB1499, hT1499, hK1499, hp1499⟩
              dsimp only
              have q_1500 := i_rng (F1499 11)
              have e_1501 : (F1499 11).toInt = (F1490 11).toInt := congrArg Int32.toInt hK1499
              have q_1502 := hI1499.r 10 rfl
              have e_1503 : (F1499 10).toInt = (F1490 10).toInt - 1 := hp1499
              unfold cb_X4_forStatement_303
              refine WP.ret ?_
              exact ⟨hI1499, (KB.tr (KB.f (by decide) (KB.f (by decide) (KB.tr (KB.tr (KB.tr (KB.tr (KB.tr (KB.tr (KB.tr (KB.tr (KB.tr (KB.tr (KB.tr (KB.tr (KB.tr (KB.tr (KB.tr (KB.tr (KB.rf : KB F G F G) hB2) hB16) hB22) hB1348) hB1355) hB1362) hB1437) hB1443) hB1448) hB1455) hB1460) hB1466) hB1472) hB1478) hB1485) hB1490))) hB1499), (KT.tr (KT.f (by decide) (KT.f (by decide) (KT.tr (KT.tr (KT.tr (KT.tr (KT.tr (KT.tr (KT.tr (KT.tr (KT.tr (KT.tr (KT.tr (KT.tr (KT.tr (KT.tr (KT.tr (KT.tr (rfl : KT F F) hT2) hT16) hT22) hT1348) hT1355) hT1362) hT1437) hT1443) hT1448) hT1455) hT1460) hT1466) hT1472) hT1478) hT1485) hT1490))) hT1499), (show (F 11).toInt = -2 → (F1499 11).toInt = -2 by omega), (show (F1499 10).toInt = (F 10).toInt ∨ ((F1499 10).toInt = (F 10).toInt - 1 ∧ (F1499 11).toInt = -2 ∧ (F 11).toInt ≠ -2) by omega)⟩
          · skip
            have e_1504 := mt i_eq.mpr (show ¬ ((F1348 11) = (26 : Int32)) from c_1353)
            unfold cb_X4_forStatement_116
            refine WP.bind (cs_X3_expression hfu F1348 G1348 hI1348) ?_
            rintro r1505 F1505 G1505 ⟨hI1505, hB1505, hT1505, hO1505, hS1505, hp1505⟩
            dsimp only
            have q_1506 := i_rng (F1505 11)
            have e_1507 : (F1348 11).toInt = -2 → (F1505 11).toInt = -2 := hS1505
            have q_1508 := hI1505.r 10 rfl
            have e_1509 : (F1505 10).toInt = (F1348 10).toInt := hO1505
            unfold cb_X4_forStatement_123
            have l_1510 : (86 : Int32).toInt = 86 := rfl
            have l_1511 : (-1 : Int32).toInt = -1 := rfl
            refine WP.bind (cs_X1_addJump hfu (86 : Int32) (-1 : Int32) F1505 G1505 hI1505) ?_
            rintro r1512 F1512 G1512 ⟨hI1512, hB1512, hT1512, hO1512, hK1512, hp1512⟩
            dsimp only
            have q_1513 := i_rng (F1512 11)
            have e_1514 : (F1512 11).toInt = (F1505 11).toInt := congrArg Int32.toInt hK1512
            have q_1515 := hI1512.r 10 rfl
            have e_1516 : (F1512 10).toInt = (F1505 10).toInt := hO1512
            have q_1517 := hI1505.r 21 rfl
            have q_1518 := hI1512.r 21 rfl
            have e_1519 : (F1512 21).toInt = (F1505 21).toInt := congrArg Int32.toInt hp1512
            unfold cb_X4_forStatement_133
            unfold cb_X4_forStatement_135
            refine WP.bind (cs_X2_expect hfu (26 : Int32) F1512 G1512 hI1512 (show (26 : Int32).toInt ≠ -2 by omega)) ?_
            rintro r1520 F1520 G1520 ⟨hI1520, hB1520, hT1520, hO1520, hS1520, hp1520⟩
            dsimp only
            have q_1521 := i_rng (F1520 11)
            have e_1522 : (F1512 11).toInt = -2 → (F1520 11).toInt = -2 := hS1520
            have q_1523 := hI1520.r 10 rfl
            have e_1524 : (F1520 10).toInt = (F1512 10).toInt := hO1520
            unfold cb_X4_forStatement_144
            have l_1525 : (84 : Int32).toInt = 84 := rfl
            refine WP.bind (cs_X1_addJump hfu (84 : Int32) (-1 : Int32) F1520 G1520 hI1520) ?_
            rintro r1526 F1526 G1526 ⟨hI1526, hB1526, hT1526, hO1526, hK1526, hp1526⟩
            dsimp only
            have q_1527 := i_rng (F1526 11)
            have e_1528 : (F1526 11).toInt = (F1520 11).toInt := congrArg Int32.toInt hK1526
            have q_1529 := hI1526.r 10 rfl
            have e_1530 : (F1526 10).toInt = (F1520 10).toInt := hO1526
            have q_1531 := hI1520.r 21 rfl
            have q_1532 := hI1526.r 21 rfl
            have e_1533 : (F1526 21).toInt = (F1520 21).toInt := congrArg Int32.toInt hp1526
            unfold cb_X4_forStatement_154
            refine WP.ite (fun c_1534 => ?_) (fun c_1534 => ?_)
            · skip
              have l_1535 : (20 : Int32).toInt = 20 := rfl
              have e_1536 := i_eq.mp (show (F1526 11) = (20 : Int32) from c_1534)
              unfold cb_X4_forStatement_181
              have q_1537 := hI1348.r 6 rfl
              refine WP.bind (cs_X1_addPair hfu (84 : Int32) (F1348 6) F1526 G1526 hI1526) ?_
              rintro r1538 F1538 G1538 ⟨hI1538, hB1538, hT1538, hO1538, hK1538, hp1538⟩
              dsimp only
              have q_1539 := i_rng (F1538 11)
              have e_1540 : (F1538 11).toInt = (F1526 11).toInt := congrArg Int32.toInt hK1538
              have q_1541 := hI1538.r 10 rfl
              have e_1542 : (F1538 10).toInt = (F1526 10).toInt := hO1538
              unfold cb_X4_forStatement_192
              refine WP.bind (cs_X2_closesWith hfu (20 : Int32) F1538 G1538 hI1538 (show 0 ≤ (F1538 10).toInt by omega) (show (20 : Int32).toInt ≠ -2 by omega)) ?_
              rintro r1543 F1543 G1543 ⟨hI1543, hB1543, hT1543, hS1543, hp1543⟩
              dsimp only
              have q_1544 := i_rng (F1543 11)
              have e_1545 : (F1538 11).toInt = -2 → (F1543 11).toInt = -2 := hS1543
              have q_1546 := hI1543.r 10 rfl
              have e_1547 : (F1543 10).toInt = (F1538 10).toInt - 1 := hp1543
              unfold cb_X4_forStatement_201
              have q_1548 := i_rng r1526
              have q_1549 := hI1543.r 6 rfl
              refine WP.bind (cs_X1_aim hfu r1526 (F1543 6) F1543 G1543 hI1543) ?_
              rintro r1550 F1550 G1550 ⟨hI1550, hB1550, hT1550, hO1550, hK1550, hp1550⟩
              dsimp only
              have q_1551 := i_rng (F1550 11)
              have e_1552 : (F1550 11).toInt = (F1543 11).toInt := congrArg Int32.toInt hK1550
              have q_1553 := hI1550.r 10 rfl
              have e_1554 : (F1550 10).toInt = (F1543 10).toInt := hO1550
              unfold cb_X4_forStatement_217
              refine WP.bind (ih.2.2.2.2.2.1 F1550 G1550 hI1550 (show 0 ≤ (F1550 10).toInt by omega) (by omega)) ?_
              rintro r1555 F1555 G1555 ⟨hI1555, hB1555, hT1555, hS1555, hp1555⟩
              dsimp only
              have q_1556 := i_rng (F1555 11)
              have e_1557 : (F1550 11).toInt = -2 → (F1555 11).toInt = -2 := hS1555
              have q_1558 := hI1555.r 10 rfl
              have e_1559 : (F1555 10).toInt = (F1550 10).toInt ∨ ((F1555 10).toInt = (F1550 10).toInt - 1 ∧ (F1555 11).toInt = -2 ∧ (F1550 11).toInt ≠ -2) := hp1555
              unfold cb_X4_forStatement_221
              have q_1560 := hI1526.r 6 rfl
              refine WP.bind (cs_X1_addPair hfu (84 : Int32) (F1526 6) F1555 G1555 hI1555) ?_
              rintro r1561 F1561 G1561 ⟨hI1561, hB1561, hT1561, hO1561, hK1561, hp1561⟩
              dsimp only
              have q_1562 := i_rng (F1561 11)
              have e_1563 : (F1561 11).toInt = (F1555 11).toInt := congrArg Int32.toInt hK1561
              have q_1564 := hI1561.r 10 rfl
              have e_1565 : (F1561 10).toInt = (F1555 10).toInt := hO1561
              unfold cb_X4_forStatement_232
              have q_1566 := i_rng (F1561 31)
              refine WP.bind (cs_X1_aim hfu (F1561 31) (F1526 6) F1561 G1561 hI1561) ?_
              rintro r1567 F1567 G1567 ⟨hI1567, hB1567, hT1567, hO1567, hK1567, hp1567⟩
              dsimp only
              have q_1568 := i_rng (F1567 11)
              have e_1569 : (F1567 11).toInt = (F1561 11).toInt := congrArg Int32.toInt hK1567
              have q_1570 := hI1567.r 10 rfl
              have e_1571 : (F1567 10).toInt = (F1561 10).toInt := hO1567
              unfold cb_X4_forStatement_245
              have q_1572 := i_rng r1512
              have q_1573 := hI1567.r 6 rfl
              refine WP.bind (cs_X1_aim hfu r1512 (F1567 6) F1567 G1567 hI1567) ?_
              rintro r1574 F1574 G1574 ⟨hI1574, hB1574, hT1574, hO1574, hK1574, hp1574⟩
              dsimp only
              have q_1575 := i_rng (F1574 11)
              have e_1576 : (F1574 11).toInt = (F1567 11).toInt := congrArg Int32.toInt hK1574
              have q_1577 := hI1574.r 10 rfl
              have e_1578 : (F1574 10).toInt = (F1567 10).toInt := hO1574
              unfold cb_X4_forStatement_261
              have q_1579 := i_rng (F1574 30)
              have q_1580 := hI1574.r 6 rfl
              refine WP.bind (cs_X1_aim hfu (F1574 30) (F1574 6) F1574 G1574 hI1574) ?_
              rintro r1581 F1581 G1581 ⟨hI1581, hB1581, hT1581, hO1581, hK1581, hp1581⟩
              dsimp only
              have q_1582 := i_rng (F1581 11)
              have e_1583 : (F1581 11).toInt = (F1574 11).toInt := congrArg Int32.toInt hK1581
              have q_1584 := hI1581.r 10 rfl
              have e_1585 : (F1581 10).toInt = (F1574 10).toInt := hO1581
              unfold cb_X4_forStatement_279
              refine WP.bind (cs_X5_leave hfu F1581 G1581 hI1581) ?_
              rintro r1586 F1586 G1586 ⟨hI1586, hB1586, hT1586, hO1586, hK1586, hp1586⟩
              dsimp only
              have q_1587 := i_rng (F1586 11)
              have e_1588 : (F1586 11).toInt = (F1581 11).toInt := congrArg Int32.toInt hK1586
              have q_1589 := hI1586.r 10 rfl
              have e_1590 : (F1586 10).toInt = (F1581 10).toInt := hO1586
              unfold cb_X4_forStatement_286
              have q_1591 := i_rng (F2 30)
              have j_1592 : CI (fup F1586 30 (F2 30)) G1586 := CI.fr rfl hI1586
              unfold cb_X4_forStatement_291
              have q_1593 := i_rng (F2 31)
              have j_1594 : CI (fup (fup F1586 30 (F2 30)) 31 (F2 31)) G1586 := CI.fr rfl j_1592
              unfold cb_X4_forStatement_296
              refine WP.bind (cs_X2_closes hfu (fup (fup F1586 30 (F2 30)) 31 (F2 31)) G1586 j_1594 (show 0 ≤ (F1586 10).toInt by omega)) ?_
              rintro r1595 F1595 G1595 ⟨hI1595, hB1595, hT1595, hK1595, hp1595⟩
              dsimp only
              have q_1596 := i_rng (F1595 11)
              have e_1597 : (F1595 11).toInt = (F1586 11).toInt := congrArg Int32.toInt hK1595
              have q_1598 := hI1595.r 10 rfl
              have e_1599 : (F1595 10).toInt = (F1586 10).toInt - 1 := hp1595
              unfold cb_X4_forStatement_303
              refine WP.ret ?_
              exact ⟨hI1595, (KB.tr (KB.f (by decide) (KB.f (by decide) (KB.tr (KB.tr (KB.tr (KB.tr (KB.tr (KB.tr (KB.tr (KB.tr (KB.tr (KB.tr (KB.tr (KB.tr (KB.tr (KB.tr (KB.tr (KB.tr (KB.tr (KB.rf : KB F G F G) hB2) hB16) hB22) hB1348) hB1505) hB1512) hB1520) hB1526) hB1538) hB1543) hB1550) hB1555) hB1561) hB1567) hB1574) hB1581) hB1586))) hB1595), (KT.tr (KT.f (by decide) (KT.f (by decide) (KT.tr (KT.tr (KT.tr (KT.tr (KT.tr (KT.tr (KT.tr (KT.tr (KT.tr (KT.tr (KT.tr (KT.tr (KT.tr (KT.tr (KT.tr (KT.tr (KT.tr (rfl : KT F F) hT2) hT16) hT22) hT1348) hT1505) hT1512) hT1520) hT1526) hT1538) hT1543) hT1550) hT1555) hT1561) hT1567) hT1574) hT1581) hT1586))) hT1595), (show (F 11).toInt = -2 → (F1595 11).toInt = -2 by omega), (show (F1595 10).toInt = (F 10).toInt ∨ ((F1595 10).toInt = (F 10).toInt - 1 ∧ (F1595 11).toInt = -2 ∧ (F 11).toInt ≠ -2) by omega)⟩
            · skip
              have l_1600 : (20 : Int32).toInt = 20 := rfl
              have e_1601 := mt i_eq.mpr (show ¬ ((F1526 11) = (20 : Int32)) from c_1534)
              unfold cb_X4_forStatement_177
              refine WP.bind (cs_X4_simple hfu F1526 G1526 hI1526) ?_
              rintro r1602 F1602 G1602 ⟨hI1602, hB1602, hT1602, hO1602, hS1602, hp1602⟩
              dsimp only
              have q_1603 := i_rng (F1602 11)
              have e_1604 : (F1526 11).toInt = -2 → (F1602 11).toInt = -2 := hS1602
              have q_1605 := hI1602.r 10 rfl
              have e_1606 : (F1602 10).toInt = (F1526 10).toInt := hO1602
              unfold cb_X4_forStatement_181
              have q_1607 := hI1348.r 6 rfl
              refine WP.bind (cs_X1_addPair hfu (84 : Int32) (F1348 6) F1602 G1602 hI1602) ?_
              rintro r1608 F1608 G1608 ⟨hI1608, hB1608, hT1608, hO1608, hK1608, hp1608⟩
              dsimp only
              have q_1609 := i_rng (F1608 11)
              have e_1610 : (F1608 11).toInt = (F1602 11).toInt := congrArg Int32.toInt hK1608
              have q_1611 := hI1608.r 10 rfl
              have e_1612 : (F1608 10).toInt = (F1602 10).toInt := hO1608
              unfold cb_X4_forStatement_192
              refine WP.bind (cs_X2_closesWith hfu (20 : Int32) F1608 G1608 hI1608 (show 0 ≤ (F1608 10).toInt by omega) (show (20 : Int32).toInt ≠ -2 by omega)) ?_
              rintro r1613 F1613 G1613 ⟨hI1613, hB1613, hT1613, hS1613, hp1613⟩
              dsimp only
              have q_1614 := i_rng (F1613 11)
              have e_1615 : (F1608 11).toInt = -2 → (F1613 11).toInt = -2 := hS1613
              have q_1616 := hI1613.r 10 rfl
              have e_1617 : (F1613 10).toInt = (F1608 10).toInt - 1 := hp1613
              unfold cb_X4_forStatement_201
              have q_1618 := i_rng r1526
              have q_1619 := hI1613.r 6 rfl
              refine WP.bind (cs_X1_aim hfu r1526 (F1613 6) F1613 G1613 hI1613) ?_
              rintro r1620 F1620 G1620 ⟨hI1620, hB1620, hT1620, hO1620, hK1620, hp1620⟩
              dsimp only
              have q_1621 := i_rng (F1620 11)
              have e_1622 : (F1620 11).toInt = (F1613 11).toInt := congrArg Int32.toInt hK1620
              have q_1623 := hI1620.r 10 rfl
              have e_1624 : (F1620 10).toInt = (F1613 10).toInt := hO1620
              unfold cb_X4_forStatement_217
              refine WP.bind (ih.2.2.2.2.2.1 F1620 G1620 hI1620 (show 0 ≤ (F1620 10).toInt by omega) (by omega)) ?_
              rintro r1625 F1625 G1625 ⟨hI1625, hB1625, hT1625, hS1625, hp1625⟩
              dsimp only
              have q_1626 := i_rng (F1625 11)
              have e_1627 : (F1620 11).toInt = -2 → (F1625 11).toInt = -2 := hS1625
              have q_1628 := hI1625.r 10 rfl
              have e_1629 : (F1625 10).toInt = (F1620 10).toInt ∨ ((F1625 10).toInt = (F1620 10).toInt - 1 ∧ (F1625 11).toInt = -2 ∧ (F1620 11).toInt ≠ -2) := hp1625
              unfold cb_X4_forStatement_221
              have q_1630 := hI1526.r 6 rfl
              refine WP.bind (cs_X1_addPair hfu (84 : Int32) (F1526 6) F1625 G1625 hI1625) ?_
              rintro r1631 F1631 G1631 ⟨hI1631, hB1631, hT1631, hO1631, hK1631, hp1631⟩
              dsimp only
              have q_1632 := i_rng (F1631 11)
              have e_1633 : (F1631 11).toInt = (F1625 11).toInt := congrArg Int32.toInt hK1631
              have q_1634 := hI1631.r 10 rfl
              have e_1635 : (F1631 10).toInt = (F1625 10).toInt := hO1631
              unfold cb_X4_forStatement_232
              have q_1636 := i_rng (F1631 31)
              refine WP.bind (cs_X1_aim hfu (F1631 31) (F1526 6) F1631 G1631 hI1631) ?_
              rintro r1637 F1637 G1637 ⟨hI1637, hB1637, hT1637, hO1637, hK1637, hp1637⟩
              dsimp only
              have q_1638 := i_rng (F1637 11)
              have e_1639 : (F1637 11).toInt = (F1631 11).toInt := congrArg Int32.toInt hK1637
              have q_1640 := hI1637.r 10 rfl
              have e_1641 : (F1637 10).toInt = (F1631 10).toInt := hO1637
              unfold cb_X4_forStatement_245
              have q_1642 := i_rng r1512
              have q_1643 := hI1637.r 6 rfl
              refine WP.bind (cs_X1_aim hfu r1512 (F1637 6) F1637 G1637 hI1637) ?_
              rintro r1644 F1644 G1644 ⟨hI1644, hB1644, hT1644, hO1644, hK1644, hp1644⟩
              dsimp only
              have q_1645 := i_rng (F1644 11)
              have e_1646 : (F1644 11).toInt = (F1637 11).toInt := congrArg Int32.toInt hK1644
              have q_1647 := hI1644.r 10 rfl
              have e_1648 : (F1644 10).toInt = (F1637 10).toInt := hO1644
              unfold cb_X4_forStatement_261
              have q_1649 := i_rng (F1644 30)
              have q_1650 := hI1644.r 6 rfl
              refine WP.bind (cs_X1_aim hfu (F1644 30) (F1644 6) F1644 G1644 hI1644) ?_
              rintro r1651 F1651 G1651 ⟨hI1651, hB1651, hT1651, hO1651, hK1651, hp1651⟩
              dsimp only
              have q_1652 := i_rng (F1651 11)
              have e_1653 : (F1651 11).toInt = (F1644 11).toInt := congrArg Int32.toInt hK1651
              have q_1654 := hI1651.r 10 rfl
              have e_1655 : (F1651 10).toInt = (F1644 10).toInt := hO1651
              unfold cb_X4_forStatement_279
              refine WP.bind (cs_X5_leave hfu F1651 G1651 hI1651) ?_
              rintro r1656 F1656 G1656 ⟨hI1656, hB1656, hT1656, hO1656, hK1656, hp1656⟩
              dsimp only
              have q_1657 := i_rng (F1656 11)
              have e_1658 : (F1656 11).toInt = (F1651 11).toInt := congrArg Int32.toInt hK1656
              have q_1659 := hI1656.r 10 rfl
              have e_1660 : (F1656 10).toInt = (F1651 10).toInt := hO1656
              unfold cb_X4_forStatement_286
              have q_1661 := i_rng (F2 30)
              have j_1662 : CI (fup F1656 30 (F2 30)) G1656 := CI.fr rfl hI1656
              unfold cb_X4_forStatement_291
              have q_1663 := i_rng (F2 31)
              have j_1664 : CI (fup (fup F1656 30 (F2 30)) 31 (F2 31)) G1656 := CI.fr rfl j_1662
              unfold cb_X4_forStatement_296
              refine WP.bind (cs_X2_closes hfu (fup (fup F1656 30 (F2 30)) 31 (F2 31)) G1656 j_1664 (show 0 ≤ (F1656 10).toInt by omega)) ?_
              rintro r1665 F1665 G1665 ⟨hI1665, hB1665, hT1665, hK1665, hp1665⟩
              dsimp only
              have q_1666 := i_rng (F1665 11)
              have e_1667 : (F1665 11).toInt = (F1656 11).toInt := congrArg Int32.toInt hK1665
              have q_1668 := hI1665.r 10 rfl
              have e_1669 : (F1665 10).toInt = (F1656 10).toInt - 1 := hp1665
              unfold cb_X4_forStatement_303
              refine WP.ret ?_
              exact ⟨hI1665, (KB.tr (KB.f (by decide) (KB.f (by decide) (KB.tr (KB.tr (KB.tr (KB.tr (KB.tr (KB.tr (KB.tr (KB.tr (KB.tr (KB.tr (KB.tr (KB.tr (KB.tr (KB.tr (KB.tr (KB.tr (KB.tr (KB.tr (KB.rf : KB F G F G) hB2) hB16) hB22) hB1348) hB1505) hB1512) hB1520) hB1526) hB1602) hB1608) hB1613) hB1620) hB1625) hB1631) hB1637) hB1644) hB1651) hB1656))) hB1665), (KT.tr (KT.f (by decide) (KT.f (by decide) (KT.tr (KT.tr (KT.tr (KT.tr (KT.tr (KT.tr (KT.tr (KT.tr (KT.tr (KT.tr (KT.tr (KT.tr (KT.tr (KT.tr (KT.tr (KT.tr (KT.tr (KT.tr (rfl : KT F F) hT2) hT16) hT22) hT1348) hT1505) hT1512) hT1520) hT1526) hT1602) hT1608) hT1613) hT1620) hT1625) hT1631) hT1637) hT1644) hT1651) hT1656))) hT1665), (show (F 11).toInt = -2 → (F1665 11).toInt = -2 by omega), (show (F1665 10).toInt = (F 10).toInt ∨ ((F1665 10).toInt = (F 10).toInt - 1 ∧ (F1665 11).toInt = -2 ∧ (F 11).toInt ≠ -2) by omega)⟩
        · skip
          have e_1670 := mt i_eq.mpr (show ¬ (r22 = (0 : Int32)) from c_1345)
          unfold cb_X4_forStatement_67
          refine WP.ite (fun c_1671 => ?_) (fun c_1671 => ?_)
          · skip
            have l_1672 : (26 : Int32).toInt = 26 := rfl
            have e_1673 := i_eq.mp (show (F22 11) = (26 : Int32) from c_1671)
            unfold cb_X4_forStatement_83
            refine WP.bind (cs_X2_expect hfu (26 : Int32) F22 G22 hI22 (show (26 : Int32).toInt ≠ -2 by omega)) ?_
            rintro r1674 F1674 G1674 ⟨hI1674, hB1674, hT1674, hO1674, hS1674, hp1674⟩
            dsimp only
            have q_1675 := i_rng (F1674 11)
            have e_1676 : (F22 11).toInt = -2 → (F1674 11).toInt = -2 := hS1674
            have q_1677 := hI1674.r 10 rfl
            have e_1678 : (F1674 10).toInt = (F22 10).toInt := hO1674
            unfold cb_X4_forStatement_92
            refine WP.ite (fun c_1679 => ?_) (fun c_1679 => ?_)
            · skip
              have e_1680 := i_eq.mp (show (F1674 11) = (26 : Int32) from c_1679)
              unfold cb_X4_forStatement_135
              refine WP.bind (cs_X2_expect hfu (26 : Int32) F1674 G1674 hI1674 (show (26 : Int32).toInt ≠ -2 by omega)) ?_
              rintro r1681 F1681 G1681 ⟨hI1681, hB1681, hT1681, hO1681, hS1681, hp1681⟩
              dsimp only
              have q_1682 := i_rng (F1681 11)
              have e_1683 : (F1674 11).toInt = -2 → (F1681 11).toInt = -2 := hS1681
              have q_1684 := hI1681.r 10 rfl
              have e_1685 : (F1681 10).toInt = (F1674 10).toInt := hO1681
              unfold cb_X4_forStatement_144
              have l_1686 : (84 : Int32).toInt = 84 := rfl
              have l_1687 : (-1 : Int32).toInt = -1 := rfl
              refine WP.bind (cs_X1_addJump hfu (84 : Int32) (-1 : Int32) F1681 G1681 hI1681) ?_
              rintro r1688 F1688 G1688 ⟨hI1688, hB1688, hT1688, hO1688, hK1688, hp1688⟩
              dsimp only
              have q_1689 := i_rng (F1688 11)
              have e_1690 : (F1688 11).toInt = (F1681 11).toInt := congrArg Int32.toInt hK1688
              have q_1691 := hI1688.r 10 rfl
              have e_1692 : (F1688 10).toInt = (F1681 10).toInt := hO1688
              have q_1693 := hI1681.r 21 rfl
              have q_1694 := hI1688.r 21 rfl
              have e_1695 : (F1688 21).toInt = (F1681 21).toInt := congrArg Int32.toInt hp1688
              unfold cb_X4_forStatement_154
              refine WP.ite (fun c_1696 => ?_) (fun c_1696 => ?_)
              · skip
                have l_1697 : (20 : Int32).toInt = 20 := rfl
                have e_1698 := i_eq.mp (show (F1688 11) = (20 : Int32) from c_1696)
                unfold cb_X4_forStatement_181
                have q_1699 := hI1674.r 6 rfl
                refine WP.bind (cs_X1_addPair hfu (84 : Int32) (F1674 6) F1688 G1688 hI1688) ?_
                rintro r1700 F1700 G1700 ⟨hI1700, hB1700, hT1700, hO1700, hK1700, hp1700⟩
                dsimp only
                have q_1701 := i_rng (F1700 11)
                have e_1702 : (F1700 11).toInt = (F1688 11).toInt := congrArg Int32.toInt hK1700
                have q_1703 := hI1700.r 10 rfl
                have e_1704 : (F1700 10).toInt = (F1688 10).toInt := hO1700
                unfold cb_X4_forStatement_192
                refine WP.bind (cs_X2_closesWith hfu (20 : Int32) F1700 G1700 hI1700 (show 0 ≤ (F1700 10).toInt by omega) (show (20 : Int32).toInt ≠ -2 by omega)) ?_
                rintro r1705 F1705 G1705 ⟨hI1705, hB1705, hT1705, hS1705, hp1705⟩
                dsimp only
                have q_1706 := i_rng (F1705 11)
                have e_1707 : (F1700 11).toInt = -2 → (F1705 11).toInt = -2 := hS1705
                have q_1708 := hI1705.r 10 rfl
                have e_1709 : (F1705 10).toInt = (F1700 10).toInt - 1 := hp1705
                unfold cb_X4_forStatement_201
                have q_1710 := i_rng r1688
                have q_1711 := hI1705.r 6 rfl
                refine WP.bind (cs_X1_aim hfu r1688 (F1705 6) F1705 G1705 hI1705) ?_
                rintro r1712 F1712 G1712 ⟨hI1712, hB1712, hT1712, hO1712, hK1712, hp1712⟩
                dsimp only
                have q_1713 := i_rng (F1712 11)
                have e_1714 : (F1712 11).toInt = (F1705 11).toInt := congrArg Int32.toInt hK1712
                have q_1715 := hI1712.r 10 rfl
                have e_1716 : (F1712 10).toInt = (F1705 10).toInt := hO1712
                unfold cb_X4_forStatement_217
                refine WP.bind (ih.2.2.2.2.2.1 F1712 G1712 hI1712 (show 0 ≤ (F1712 10).toInt by omega) (by omega)) ?_
                rintro r1717 F1717 G1717 ⟨hI1717, hB1717, hT1717, hS1717, hp1717⟩
                dsimp only
                have q_1718 := i_rng (F1717 11)
                have e_1719 : (F1712 11).toInt = -2 → (F1717 11).toInt = -2 := hS1717
                have q_1720 := hI1717.r 10 rfl
                have e_1721 : (F1717 10).toInt = (F1712 10).toInt ∨ ((F1717 10).toInt = (F1712 10).toInt - 1 ∧ (F1717 11).toInt = -2 ∧ (F1712 11).toInt ≠ -2) := hp1717
                unfold cb_X4_forStatement_221
                have q_1722 := hI1688.r 6 rfl
                refine WP.bind (cs_X1_addPair hfu (84 : Int32) (F1688 6) F1717 G1717 hI1717) ?_
                rintro r1723 F1723 G1723 ⟨hI1723, hB1723, hT1723, hO1723, hK1723, hp1723⟩
                dsimp only
                have q_1724 := i_rng (F1723 11)
                have e_1725 : (F1723 11).toInt = (F1717 11).toInt := congrArg Int32.toInt hK1723
                have q_1726 := hI1723.r 10 rfl
                have e_1727 : (F1723 10).toInt = (F1717 10).toInt := hO1723
                unfold cb_X4_forStatement_232
                have q_1728 := i_rng (F1723 31)
                refine WP.bind (cs_X1_aim hfu (F1723 31) (F1688 6) F1723 G1723 hI1723) ?_
                rintro r1729 F1729 G1729 ⟨hI1729, hB1729, hT1729, hO1729, hK1729, hp1729⟩
                dsimp only
                have q_1730 := i_rng (F1729 11)
                have e_1731 : (F1729 11).toInt = (F1723 11).toInt := congrArg Int32.toInt hK1729
                have q_1732 := hI1729.r 10 rfl
                have e_1733 : (F1729 10).toInt = (F1723 10).toInt := hO1729
                unfold cb_X4_forStatement_245
                have q_1734 := hI1729.r 6 rfl
                refine WP.bind (cs_X1_aim hfu (-1 : Int32) (F1729 6) F1729 G1729 hI1729) ?_
                rintro r1735 F1735 G1735 ⟨hI1735, hB1735, hT1735, hO1735, hK1735, hp1735⟩
                dsimp only
                have q_1736 := i_rng (F1735 11)
                have e_1737 : (F1735 11).toInt = (F1729 11).toInt := congrArg Int32.toInt hK1735
                have q_1738 := hI1735.r 10 rfl
                have e_1739 : (F1735 10).toInt = (F1729 10).toInt := hO1735
                unfold cb_X4_forStatement_261
                have q_1740 := i_rng (F1735 30)
                have q_1741 := hI1735.r 6 rfl
                refine WP.bind (cs_X1_aim hfu (F1735 30) (F1735 6) F1735 G1735 hI1735) ?_
                rintro r1742 F1742 G1742 ⟨hI1742, hB1742, hT1742, hO1742, hK1742, hp1742⟩
                dsimp only
                have q_1743 := i_rng (F1742 11)
                have e_1744 : (F1742 11).toInt = (F1735 11).toInt := congrArg Int32.toInt hK1742
                have q_1745 := hI1742.r 10 rfl
                have e_1746 : (F1742 10).toInt = (F1735 10).toInt := hO1742
                unfold cb_X4_forStatement_279
                refine WP.bind (cs_X5_leave hfu F1742 G1742 hI1742) ?_
                rintro r1747 F1747 G1747 ⟨hI1747, hB1747, hT1747, hO1747, hK1747, hp1747⟩
                dsimp only
                have q_1748 := i_rng (F1747 11)
                have e_1749 : (F1747 11).toInt = (F1742 11).toInt := congrArg Int32.toInt hK1747
                have q_1750 := hI1747.r 10 rfl
                have e_1751 : (F1747 10).toInt = (F1742 10).toInt := hO1747
                unfold cb_X4_forStatement_286
                have q_1752 := i_rng (F2 30)
                have j_1753 : CI (fup F1747 30 (F2 30)) G1747 := CI.fr rfl hI1747
                unfold cb_X4_forStatement_291
                have q_1754 := i_rng (F2 31)
                have j_1755 : CI (fup (fup F1747 30 (F2 30)) 31 (F2 31)) G1747 := CI.fr rfl j_1753
                unfold cb_X4_forStatement_296
                refine WP.bind (cs_X2_closes hfu (fup (fup F1747 30 (F2 30)) 31 (F2 31)) G1747 j_1755 (show 0 ≤ (F1747 10).toInt by omega)) ?_
                rintro r1756 F1756 G1756 ⟨hI1756, hB1756, hT1756, hK1756, hp1756⟩
                dsimp only
                have q_1757 := i_rng (F1756 11)
                have e_1758 : (F1756 11).toInt = (F1747 11).toInt := congrArg Int32.toInt hK1756
                have q_1759 := hI1756.r 10 rfl
                have e_1760 : (F1756 10).toInt = (F1747 10).toInt - 1 := hp1756
                unfold cb_X4_forStatement_303
                refine WP.ret ?_
                exact ⟨hI1756, (KB.tr (KB.f (by decide) (KB.f (by decide) (KB.tr (KB.tr (KB.tr (KB.tr (KB.tr (KB.tr (KB.tr (KB.tr (KB.tr (KB.tr (KB.tr (KB.tr (KB.tr (KB.tr (KB.tr (KB.rf : KB F G F G) hB2) hB16) hB22) hB1674) hB1681) hB1688) hB1700) hB1705) hB1712) hB1717) hB1723) hB1729) hB1735) hB1742) hB1747))) hB1756), (KT.tr (KT.f (by decide) (KT.f (by decide) (KT.tr (KT.tr (KT.tr (KT.tr (KT.tr (KT.tr (KT.tr (KT.tr (KT.tr (KT.tr (KT.tr (KT.tr (KT.tr (KT.tr (KT.tr (rfl : KT F F) hT2) hT16) hT22) hT1674) hT1681) hT1688) hT1700) hT1705) hT1712) hT1717) hT1723) hT1729) hT1735) hT1742) hT1747))) hT1756), (show (F 11).toInt = -2 → (F1756 11).toInt = -2 by omega), (show (F1756 10).toInt = (F 10).toInt ∨ ((F1756 10).toInt = (F 10).toInt - 1 ∧ (F1756 11).toInt = -2 ∧ (F 11).toInt ≠ -2) by omega)⟩
              · skip
                have l_1761 : (20 : Int32).toInt = 20 := rfl
                have e_1762 := mt i_eq.mpr (show ¬ ((F1688 11) = (20 : Int32)) from c_1696)
                unfold cb_X4_forStatement_177
                refine WP.bind (cs_X4_simple hfu F1688 G1688 hI1688) ?_
                rintro r1763 F1763 G1763 ⟨hI1763, hB1763, hT1763, hO1763, hS1763, hp1763⟩
                dsimp only
                have q_1764 := i_rng (F1763 11)
                have e_1765 : (F1688 11).toInt = -2 → (F1763 11).toInt = -2 := hS1763
                have q_1766 := hI1763.r 10 rfl
                have e_1767 : (F1763 10).toInt = (F1688 10).toInt := hO1763
                unfold cb_X4_forStatement_181
                have q_1768 := hI1674.r 6 rfl
                refine WP.bind (cs_X1_addPair hfu (84 : Int32) (F1674 6) F1763 G1763 hI1763) ?_
                rintro r1769 F1769 G1769 ⟨hI1769, hB1769, hT1769, hO1769, hK1769, hp1769⟩
                dsimp only
                have q_1770 := i_rng (F1769 11)
                have e_1771 : (F1769 11).toInt = (F1763 11).toInt := congrArg Int32.toInt hK1769
                have q_1772 := hI1769.r 10 rfl
                have e_1773 : (F1769 10).toInt = (F1763 10).toInt := hO1769
                unfold cb_X4_forStatement_192
                refine WP.bind (cs_X2_closesWith hfu (20 : Int32) F1769 G1769 hI1769 (show 0 ≤ (F1769 10).toInt by omega) (show (20 : Int32).toInt ≠ -2 by omega)) ?_
                rintro r1774 F1774 G1774 ⟨hI1774, hB1774, hT1774, hS1774, hp1774⟩
                dsimp only
                have q_1775 := i_rng (F1774 11)
                have e_1776 : (F1769 11).toInt = -2 → (F1774 11).toInt = -2 := hS1774
                have q_1777 := hI1774.r 10 rfl
                have e_1778 : (F1774 10).toInt = (F1769 10).toInt - 1 := hp1774
                unfold cb_X4_forStatement_201
                have q_1779 := i_rng r1688
                have q_1780 := hI1774.r 6 rfl
                refine WP.bind (cs_X1_aim hfu r1688 (F1774 6) F1774 G1774 hI1774) ?_
                rintro r1781 F1781 G1781 ⟨hI1781, hB1781, hT1781, hO1781, hK1781, hp1781⟩
                dsimp only
                have q_1782 := i_rng (F1781 11)
                have e_1783 : (F1781 11).toInt = (F1774 11).toInt := congrArg Int32.toInt hK1781
                have q_1784 := hI1781.r 10 rfl
                have e_1785 : (F1781 10).toInt = (F1774 10).toInt := hO1781
                unfold cb_X4_forStatement_217
                refine WP.bind (ih.2.2.2.2.2.1 F1781 G1781 hI1781 (show 0 ≤ (F1781 10).toInt by omega) (by omega)) ?_
                rintro r1786 F1786 G1786 ⟨hI1786, hB1786, hT1786, hS1786, hp1786⟩
                dsimp only
                have q_1787 := i_rng (F1786 11)
                have e_1788 : (F1781 11).toInt = -2 → (F1786 11).toInt = -2 := hS1786
                have q_1789 := hI1786.r 10 rfl
                have e_1790 : (F1786 10).toInt = (F1781 10).toInt ∨ ((F1786 10).toInt = (F1781 10).toInt - 1 ∧ (F1786 11).toInt = -2 ∧ (F1781 11).toInt ≠ -2) := hp1786
                unfold cb_X4_forStatement_221
                have q_1791 := hI1688.r 6 rfl
                refine WP.bind (cs_X1_addPair hfu (84 : Int32) (F1688 6) F1786 G1786 hI1786) ?_
                rintro r1792 F1792 G1792 ⟨hI1792, hB1792, hT1792, hO1792, hK1792, hp1792⟩
                dsimp only
                have q_1793 := i_rng (F1792 11)
                have e_1794 : (F1792 11).toInt = (F1786 11).toInt := congrArg Int32.toInt hK1792
                have q_1795 := hI1792.r 10 rfl
                have e_1796 : (F1792 10).toInt = (F1786 10).toInt := hO1792
                unfold cb_X4_forStatement_232
                have q_1797 := i_rng (F1792 31)
                refine WP.bind (cs_X1_aim hfu (F1792 31) (F1688 6) F1792 G1792 hI1792) ?_
                rintro r1798 F1798 G1798 ⟨hI1798, hB1798, hT1798, hO1798, hK1798, hp1798⟩
                dsimp only
                have q_1799 := i_rng (F1798 11)
                have e_1800 : (F1798 11).toInt = (F1792 11).toInt := congrArg Int32.toInt hK1798
                have q_1801 := hI1798.r 10 rfl
                have e_1802 : (F1798 10).toInt = (F1792 10).toInt := hO1798
                unfold cb_X4_forStatement_245
                have q_1803 := hI1798.r 6 rfl
                refine WP.bind (cs_X1_aim hfu (-1 : Int32) (F1798 6) F1798 G1798 hI1798) ?_
                rintro r1804 F1804 G1804 ⟨hI1804, hB1804, hT1804, hO1804, hK1804, hp1804⟩
                dsimp only
                have q_1805 := i_rng (F1804 11)
                have e_1806 : (F1804 11).toInt = (F1798 11).toInt := congrArg Int32.toInt hK1804
                have q_1807 := hI1804.r 10 rfl
                have e_1808 : (F1804 10).toInt = (F1798 10).toInt := hO1804
                unfold cb_X4_forStatement_261
                have q_1809 := i_rng (F1804 30)
                have q_1810 := hI1804.r 6 rfl
                refine WP.bind (cs_X1_aim hfu (F1804 30) (F1804 6) F1804 G1804 hI1804) ?_
                rintro r1811 F1811 G1811 ⟨hI1811, hB1811, hT1811, hO1811, hK1811, hp1811⟩
                dsimp only
                have q_1812 := i_rng (F1811 11)
                have e_1813 : (F1811 11).toInt = (F1804 11).toInt := congrArg Int32.toInt hK1811
                have q_1814 := hI1811.r 10 rfl
                have e_1815 : (F1811 10).toInt = (F1804 10).toInt := hO1811
                unfold cb_X4_forStatement_279
                refine WP.bind (cs_X5_leave hfu F1811 G1811 hI1811) ?_
                rintro r1816 F1816 G1816 ⟨hI1816, hB1816, hT1816, hO1816, hK1816, hp1816⟩
                dsimp only
                have q_1817 := i_rng (F1816 11)
                have e_1818 : (F1816 11).toInt = (F1811 11).toInt := congrArg Int32.toInt hK1816
                have q_1819 := hI1816.r 10 rfl
                have e_1820 : (F1816 10).toInt = (F1811 10).toInt := hO1816
                unfold cb_X4_forStatement_286
                have q_1821 := i_rng (F2 30)
                have j_1822 : CI (fup F1816 30 (F2 30)) G1816 := CI.fr rfl hI1816
                unfold cb_X4_forStatement_291
                have q_1823 := i_rng (F2 31)
                have j_1824 : CI (fup (fup F1816 30 (F2 30)) 31 (F2 31)) G1816 := CI.fr rfl j_1822
                unfold cb_X4_forStatement_296
                refine WP.bind (cs_X2_closes hfu (fup (fup F1816 30 (F2 30)) 31 (F2 31)) G1816 j_1824 (show 0 ≤ (F1816 10).toInt by omega)) ?_
                rintro r1825 F1825 G1825 ⟨hI1825, hB1825, hT1825, hK1825, hp1825⟩
                dsimp only
                have q_1826 := i_rng (F1825 11)
                have e_1827 : (F1825 11).toInt = (F1816 11).toInt := congrArg Int32.toInt hK1825
                have q_1828 := hI1825.r 10 rfl
                have e_1829 : (F1825 10).toInt = (F1816 10).toInt - 1 := hp1825
                unfold cb_X4_forStatement_303
                refine WP.ret ?_
                exact ⟨hI1825, (KB.tr (KB.f (by decide) (KB.f (by decide) (KB.tr (KB.tr (KB.tr (KB.tr (KB.tr (KB.tr (KB.tr (KB.tr (KB.tr (KB.tr (KB.tr (KB.tr (KB.tr (KB.tr (KB.tr (KB.tr (KB.rf : KB F G F G) hB2) hB16) hB22) hB1674) hB1681) hB1688) hB1763) hB1769) hB1774) hB1781) hB1786) hB1792) hB1798) hB1804) hB1811) hB1816))) hB1825), (KT.tr (KT.f (by decide) (KT.f (by decide) (KT.tr (KT.tr (KT.tr (KT.tr (KT.tr (KT.tr (KT.tr (KT.tr (KT.tr (KT.tr (KT.tr (KT.tr (KT.tr (KT.tr (KT.tr (KT.tr (rfl : KT F F) hT2) hT16) hT22) hT1674) hT1681) hT1688) hT1763) hT1769) hT1774) hT1781) hT1786) hT1792) hT1798) hT1804) hT1811) hT1816))) hT1825), (show (F 11).toInt = -2 → (F1825 11).toInt = -2 by omega), (show (F1825 10).toInt = (F 10).toInt ∨ ((F1825 10).toInt = (F 10).toInt - 1 ∧ (F1825 11).toInt = -2 ∧ (F 11).toInt ≠ -2) by omega)⟩
            · skip
              have e_1830 := mt i_eq.mpr (show ¬ ((F1674 11) = (26 : Int32)) from c_1679)
              unfold cb_X4_forStatement_116
              refine WP.bind (cs_X3_expression hfu F1674 G1674 hI1674) ?_
              rintro r1831 F1831 G1831 ⟨hI1831, hB1831, hT1831, hO1831, hS1831, hp1831⟩
              dsimp only
              have q_1832 := i_rng (F1831 11)
              have e_1833 : (F1674 11).toInt = -2 → (F1831 11).toInt = -2 := hS1831
              have q_1834 := hI1831.r 10 rfl
              have e_1835 : (F1831 10).toInt = (F1674 10).toInt := hO1831
              unfold cb_X4_forStatement_123
              have l_1836 : (86 : Int32).toInt = 86 := rfl
              have l_1837 : (-1 : Int32).toInt = -1 := rfl
              refine WP.bind (cs_X1_addJump hfu (86 : Int32) (-1 : Int32) F1831 G1831 hI1831) ?_
              rintro r1838 F1838 G1838 ⟨hI1838, hB1838, hT1838, hO1838, hK1838, hp1838⟩
              dsimp only
              have q_1839 := i_rng (F1838 11)
              have e_1840 : (F1838 11).toInt = (F1831 11).toInt := congrArg Int32.toInt hK1838
              have q_1841 := hI1838.r 10 rfl
              have e_1842 : (F1838 10).toInt = (F1831 10).toInt := hO1838
              have q_1843 := hI1831.r 21 rfl
              have q_1844 := hI1838.r 21 rfl
              have e_1845 : (F1838 21).toInt = (F1831 21).toInt := congrArg Int32.toInt hp1838
              unfold cb_X4_forStatement_133
              unfold cb_X4_forStatement_135
              refine WP.bind (cs_X2_expect hfu (26 : Int32) F1838 G1838 hI1838 (show (26 : Int32).toInt ≠ -2 by omega)) ?_
              rintro r1846 F1846 G1846 ⟨hI1846, hB1846, hT1846, hO1846, hS1846, hp1846⟩
              dsimp only
              have q_1847 := i_rng (F1846 11)
              have e_1848 : (F1838 11).toInt = -2 → (F1846 11).toInt = -2 := hS1846
              have q_1849 := hI1846.r 10 rfl
              have e_1850 : (F1846 10).toInt = (F1838 10).toInt := hO1846
              unfold cb_X4_forStatement_144
              have l_1851 : (84 : Int32).toInt = 84 := rfl
              refine WP.bind (cs_X1_addJump hfu (84 : Int32) (-1 : Int32) F1846 G1846 hI1846) ?_
              rintro r1852 F1852 G1852 ⟨hI1852, hB1852, hT1852, hO1852, hK1852, hp1852⟩
              dsimp only
              have q_1853 := i_rng (F1852 11)
              have e_1854 : (F1852 11).toInt = (F1846 11).toInt := congrArg Int32.toInt hK1852
              have q_1855 := hI1852.r 10 rfl
              have e_1856 : (F1852 10).toInt = (F1846 10).toInt := hO1852
              have q_1857 := hI1846.r 21 rfl
              have q_1858 := hI1852.r 21 rfl
              have e_1859 : (F1852 21).toInt = (F1846 21).toInt := congrArg Int32.toInt hp1852
              unfold cb_X4_forStatement_154
              refine WP.ite (fun c_1860 => ?_) (fun c_1860 => ?_)
              · skip
                have l_1861 : (20 : Int32).toInt = 20 := rfl
                have e_1862 := i_eq.mp (show (F1852 11) = (20 : Int32) from c_1860)
                unfold cb_X4_forStatement_181
                have q_1863 := hI1674.r 6 rfl
                refine WP.bind (cs_X1_addPair hfu (84 : Int32) (F1674 6) F1852 G1852 hI1852) ?_
                rintro r1864 F1864 G1864 ⟨hI1864, hB1864, hT1864, hO1864, hK1864, hp1864⟩
                dsimp only
                have q_1865 := i_rng (F1864 11)
                have e_1866 : (F1864 11).toInt = (F1852 11).toInt := congrArg Int32.toInt hK1864
                have q_1867 := hI1864.r 10 rfl
                have e_1868 : (F1864 10).toInt = (F1852 10).toInt := hO1864
                unfold cb_X4_forStatement_192
                refine WP.bind (cs_X2_closesWith hfu (20 : Int32) F1864 G1864 hI1864 (show 0 ≤ (F1864 10).toInt by omega) (show (20 : Int32).toInt ≠ -2 by omega)) ?_
                rintro r1869 F1869 G1869 ⟨hI1869, hB1869, hT1869, hS1869, hp1869⟩
                dsimp only
                have q_1870 := i_rng (F1869 11)
                have e_1871 : (F1864 11).toInt = -2 → (F1869 11).toInt = -2 := hS1869
                have q_1872 := hI1869.r 10 rfl
                have e_1873 : (F1869 10).toInt = (F1864 10).toInt - 1 := hp1869
                unfold cb_X4_forStatement_201
                have q_1874 := i_rng r1852
                have q_1875 := hI1869.r 6 rfl
                refine WP.bind (cs_X1_aim hfu r1852 (F1869 6) F1869 G1869 hI1869) ?_
                rintro r1876 F1876 G1876 ⟨hI1876, hB1876, hT1876, hO1876, hK1876, hp1876⟩
                dsimp only
                have q_1877 := i_rng (F1876 11)
                have e_1878 : (F1876 11).toInt = (F1869 11).toInt := congrArg Int32.toInt hK1876
                have q_1879 := hI1876.r 10 rfl
                have e_1880 : (F1876 10).toInt = (F1869 10).toInt := hO1876
                unfold cb_X4_forStatement_217
                refine WP.bind (ih.2.2.2.2.2.1 F1876 G1876 hI1876 (show 0 ≤ (F1876 10).toInt by omega) (by omega)) ?_
                rintro r1881 F1881 G1881 ⟨hI1881, hB1881, hT1881, hS1881, hp1881⟩
                dsimp only
                have q_1882 := i_rng (F1881 11)
                have e_1883 : (F1876 11).toInt = -2 → (F1881 11).toInt = -2 := hS1881
                have q_1884 := hI1881.r 10 rfl
                have e_1885 : (F1881 10).toInt = (F1876 10).toInt ∨ ((F1881 10).toInt = (F1876 10).toInt - 1 ∧ (F1881 11).toInt = -2 ∧ (F1876 11).toInt ≠ -2) := hp1881
                unfold cb_X4_forStatement_221
                have q_1886 := hI1852.r 6 rfl
                refine WP.bind (cs_X1_addPair hfu (84 : Int32) (F1852 6) F1881 G1881 hI1881) ?_
                rintro r1887 F1887 G1887 ⟨hI1887, hB1887, hT1887, hO1887, hK1887, hp1887⟩
                dsimp only
                have q_1888 := i_rng (F1887 11)
                have e_1889 : (F1887 11).toInt = (F1881 11).toInt := congrArg Int32.toInt hK1887
                have q_1890 := hI1887.r 10 rfl
                have e_1891 : (F1887 10).toInt = (F1881 10).toInt := hO1887
                unfold cb_X4_forStatement_232
                have q_1892 := i_rng (F1887 31)
                refine WP.bind (cs_X1_aim hfu (F1887 31) (F1852 6) F1887 G1887 hI1887) ?_
                rintro r1893 F1893 G1893 ⟨hI1893, hB1893, hT1893, hO1893, hK1893, hp1893⟩
                dsimp only
                have q_1894 := i_rng (F1893 11)
                have e_1895 : (F1893 11).toInt = (F1887 11).toInt := congrArg Int32.toInt hK1893
                have q_1896 := hI1893.r 10 rfl
                have e_1897 : (F1893 10).toInt = (F1887 10).toInt := hO1893
                unfold cb_X4_forStatement_245
                have q_1898 := i_rng r1838
                have q_1899 := hI1893.r 6 rfl
                refine WP.bind (cs_X1_aim hfu r1838 (F1893 6) F1893 G1893 hI1893) ?_
                rintro r1900 F1900 G1900 ⟨hI1900, hB1900, hT1900, hO1900, hK1900, hp1900⟩
                dsimp only
                have q_1901 := i_rng (F1900 11)
                have e_1902 : (F1900 11).toInt = (F1893 11).toInt := congrArg Int32.toInt hK1900
                have q_1903 := hI1900.r 10 rfl
                have e_1904 : (F1900 10).toInt = (F1893 10).toInt := hO1900
                unfold cb_X4_forStatement_261
                have q_1905 := i_rng (F1900 30)
                have q_1906 := hI1900.r 6 rfl
                refine WP.bind (cs_X1_aim hfu (F1900 30) (F1900 6) F1900 G1900 hI1900) ?_
                rintro r1907 F1907 G1907 ⟨hI1907, hB1907, hT1907, hO1907, hK1907, hp1907⟩
                dsimp only
                have q_1908 := i_rng (F1907 11)
                have e_1909 : (F1907 11).toInt = (F1900 11).toInt := congrArg Int32.toInt hK1907
                have q_1910 := hI1907.r 10 rfl
                have e_1911 : (F1907 10).toInt = (F1900 10).toInt := hO1907
                unfold cb_X4_forStatement_279
                refine WP.bind (cs_X5_leave hfu F1907 G1907 hI1907) ?_
                rintro r1912 F1912 G1912 ⟨hI1912, hB1912, hT1912, hO1912, hK1912, hp1912⟩
                dsimp only
                have q_1913 := i_rng (F1912 11)
                have e_1914 : (F1912 11).toInt = (F1907 11).toInt := congrArg Int32.toInt hK1912
                have q_1915 := hI1912.r 10 rfl
                have e_1916 : (F1912 10).toInt = (F1907 10).toInt := hO1912
                unfold cb_X4_forStatement_286
                have q_1917 := i_rng (F2 30)
                have j_1918 : CI (fup F1912 30 (F2 30)) G1912 := CI.fr rfl hI1912
                unfold cb_X4_forStatement_291
                have q_1919 := i_rng (F2 31)
                have j_1920 : CI (fup (fup F1912 30 (F2 30)) 31 (F2 31)) G1912 := CI.fr rfl j_1918
                unfold cb_X4_forStatement_296
                refine WP.bind (cs_X2_closes hfu (fup (fup F1912 30 (F2 30)) 31 (F2 31)) G1912 j_1920 (show 0 ≤ (F1912 10).toInt by omega)) ?_
                rintro r1921 F1921 G1921 ⟨hI1921, hB1921, hT1921, hK1921, hp1921⟩
                dsimp only
                have q_1922 := i_rng (F1921 11)
                have e_1923 : (F1921 11).toInt = (F1912 11).toInt := congrArg Int32.toInt hK1921
                have q_1924 := hI1921.r 10 rfl
                have e_1925 : (F1921 10).toInt = (F1912 10).toInt - 1 := hp1921
                unfold cb_X4_forStatement_303
                refine WP.ret ?_
                exact ⟨hI1921, (KB.tr (KB.f (by decide) (KB.f (by decide) (KB.tr (KB.tr (KB.tr (KB.tr (KB.tr (KB.tr (KB.tr (KB.tr (KB.tr (KB.tr (KB.tr (KB.tr (KB.tr (KB.tr (KB.tr (KB.tr (KB.tr (KB.rf : KB F G F G) hB2) hB16) hB22) hB1674) hB1831) hB1838) hB1846) hB1852) hB1864) hB1869) hB1876) hB1881) hB1887) hB1893) hB1900) hB1907) hB1912))) hB1921), (KT.tr (KT.f (by decide) (KT.f (by decide) (KT.tr (KT.tr (KT.tr (KT.tr (KT.tr (KT.tr (KT.tr (KT.tr (KT.tr (KT.tr (KT.tr (KT.tr (KT.tr (KT.tr (KT.tr (KT.tr (KT.tr (rfl : KT F F) hT2) hT16) hT22) hT1674) hT1831) hT1838) hT1846) hT1852) hT1864) hT1869) hT1876) hT1881) hT1887) hT1893) hT1900) hT1907) hT1912))) hT1921), (show (F 11).toInt = -2 → (F1921 11).toInt = -2 by omega), (show (F1921 10).toInt = (F 10).toInt ∨ ((F1921 10).toInt = (F 10).toInt - 1 ∧ (F1921 11).toInt = -2 ∧ (F 11).toInt ≠ -2) by omega)⟩
              · skip
                have l_1926 : (20 : Int32).toInt = 20 := rfl
                have e_1927 := mt i_eq.mpr (show ¬ ((F1852 11) = (20 : Int32)) from c_1860)
                unfold cb_X4_forStatement_177
                refine WP.bind (cs_X4_simple hfu F1852 G1852 hI1852) ?_
                rintro r1928 F1928 G1928 ⟨hI1928, hB1928, hT1928, hO1928, hS1928, hp1928⟩
                dsimp only
                have q_1929 := i_rng (F1928 11)
                have e_1930 : (F1852 11).toInt = -2 → (F1928 11).toInt = -2 := hS1928
                have q_1931 := hI1928.r 10 rfl
                have e_1932 : (F1928 10).toInt = (F1852 10).toInt := hO1928
                unfold cb_X4_forStatement_181
                have q_1933 := hI1674.r 6 rfl
                refine WP.bind (cs_X1_addPair hfu (84 : Int32) (F1674 6) F1928 G1928 hI1928) ?_
                rintro r1934 F1934 G1934 ⟨hI1934, hB1934, hT1934, hO1934, hK1934, hp1934⟩
                dsimp only
                have q_1935 := i_rng (F1934 11)
                have e_1936 : (F1934 11).toInt = (F1928 11).toInt := congrArg Int32.toInt hK1934
                have q_1937 := hI1934.r 10 rfl
                have e_1938 : (F1934 10).toInt = (F1928 10).toInt := hO1934
                unfold cb_X4_forStatement_192
                refine WP.bind (cs_X2_closesWith hfu (20 : Int32) F1934 G1934 hI1934 (show 0 ≤ (F1934 10).toInt by omega) (show (20 : Int32).toInt ≠ -2 by omega)) ?_
                rintro r1939 F1939 G1939 ⟨hI1939, hB1939, hT1939, hS1939, hp1939⟩
                dsimp only
                have q_1940 := i_rng (F1939 11)
                have e_1941 : (F1934 11).toInt = -2 → (F1939 11).toInt = -2 := hS1939
                have q_1942 := hI1939.r 10 rfl
                have e_1943 : (F1939 10).toInt = (F1934 10).toInt - 1 := hp1939
                unfold cb_X4_forStatement_201
                have q_1944 := i_rng r1852
                have q_1945 := hI1939.r 6 rfl
                refine WP.bind (cs_X1_aim hfu r1852 (F1939 6) F1939 G1939 hI1939) ?_
                rintro r1946 F1946 G1946 ⟨hI1946, hB1946, hT1946, hO1946, hK1946, hp1946⟩
                dsimp only
                have q_1947 := i_rng (F1946 11)
                have e_1948 : (F1946 11).toInt = (F1939 11).toInt := congrArg Int32.toInt hK1946
                have q_1949 := hI1946.r 10 rfl
                have e_1950 : (F1946 10).toInt = (F1939 10).toInt := hO1946
                unfold cb_X4_forStatement_217
                refine WP.bind (ih.2.2.2.2.2.1 F1946 G1946 hI1946 (show 0 ≤ (F1946 10).toInt by omega) (by omega)) ?_
                rintro r1951 F1951 G1951 ⟨hI1951, hB1951, hT1951, hS1951, hp1951⟩
                dsimp only
                have q_1952 := i_rng (F1951 11)
                have e_1953 : (F1946 11).toInt = -2 → (F1951 11).toInt = -2 := hS1951
                have q_1954 := hI1951.r 10 rfl
                have e_1955 : (F1951 10).toInt = (F1946 10).toInt ∨ ((F1951 10).toInt = (F1946 10).toInt - 1 ∧ (F1951 11).toInt = -2 ∧ (F1946 11).toInt ≠ -2) := hp1951
                unfold cb_X4_forStatement_221
                have q_1956 := hI1852.r 6 rfl
                refine WP.bind (cs_X1_addPair hfu (84 : Int32) (F1852 6) F1951 G1951 hI1951) ?_
                rintro r1957 F1957 G1957 ⟨hI1957, hB1957, hT1957, hO1957, hK1957, hp1957⟩
                dsimp only
                have q_1958 := i_rng (F1957 11)
                have e_1959 : (F1957 11).toInt = (F1951 11).toInt := congrArg Int32.toInt hK1957
                have q_1960 := hI1957.r 10 rfl
                have e_1961 : (F1957 10).toInt = (F1951 10).toInt := hO1957
                unfold cb_X4_forStatement_232
                have q_1962 := i_rng (F1957 31)
                refine WP.bind (cs_X1_aim hfu (F1957 31) (F1852 6) F1957 G1957 hI1957) ?_
                rintro r1963 F1963 G1963 ⟨hI1963, hB1963, hT1963, hO1963, hK1963, hp1963⟩
                dsimp only
                have q_1964 := i_rng (F1963 11)
                have e_1965 : (F1963 11).toInt = (F1957 11).toInt := congrArg Int32.toInt hK1963
                have q_1966 := hI1963.r 10 rfl
                have e_1967 : (F1963 10).toInt = (F1957 10).toInt := hO1963
                unfold cb_X4_forStatement_245
                have q_1968 := i_rng r1838
                have q_1969 := hI1963.r 6 rfl
                refine WP.bind (cs_X1_aim hfu r1838 (F1963 6) F1963 G1963 hI1963) ?_
                rintro r1970 F1970 G1970 ⟨hI1970, hB1970, hT1970, hO1970, hK1970, hp1970⟩
                dsimp only
                have q_1971 := i_rng (F1970 11)
                have e_1972 : (F1970 11).toInt = (F1963 11).toInt := congrArg Int32.toInt hK1970
                have q_1973 := hI1970.r 10 rfl
                have e_1974 : (F1970 10).toInt = (F1963 10).toInt := hO1970
                unfold cb_X4_forStatement_261
                have q_1975 := i_rng (F1970 30)
                have q_1976 := hI1970.r 6 rfl
                refine WP.bind (cs_X1_aim hfu (F1970 30) (F1970 6) F1970 G1970 hI1970) ?_
                rintro r1977 F1977 G1977 ⟨hI1977, hB1977, hT1977, hO1977, hK1977, hp1977⟩
                dsimp only
                have q_1978 := i_rng (F1977 11)
                have e_1979 : (F1977 11).toInt = (F1970 11).toInt := congrArg Int32.toInt hK1977
                have q_1980 := hI1977.r 10 rfl
                have e_1981 : (F1977 10).toInt = (F1970 10).toInt := hO1977
                unfold cb_X4_forStatement_279
                refine WP.bind (cs_X5_leave hfu F1977 G1977 hI1977) ?_
                rintro r1982 F1982 G1982 ⟨hI1982, hB1982, hT1982, hO1982, hK1982, hp1982⟩
                dsimp only
                have q_1983 := i_rng (F1982 11)
                have e_1984 : (F1982 11).toInt = (F1977 11).toInt := congrArg Int32.toInt hK1982
                have q_1985 := hI1982.r 10 rfl
                have e_1986 : (F1982 10).toInt = (F1977 10).toInt := hO1982
                unfold cb_X4_forStatement_286
                have q_1987 := i_rng (F2 30)
                have j_1988 : CI (fup F1982 30 (F2 30)) G1982 := CI.fr rfl hI1982
                unfold cb_X4_forStatement_291
                have q_1989 := i_rng (F2 31)
                have j_1990 : CI (fup (fup F1982 30 (F2 30)) 31 (F2 31)) G1982 := CI.fr rfl j_1988
                unfold cb_X4_forStatement_296
                refine WP.bind (cs_X2_closes hfu (fup (fup F1982 30 (F2 30)) 31 (F2 31)) G1982 j_1990 (show 0 ≤ (F1982 10).toInt by omega)) ?_
                rintro r1991 F1991 G1991 ⟨hI1991, hB1991, hT1991, hK1991, hp1991⟩
                dsimp only
                have q_1992 := i_rng (F1991 11)
                have e_1993 : (F1991 11).toInt = (F1982 11).toInt := congrArg Int32.toInt hK1991
                have q_1994 := hI1991.r 10 rfl
                have e_1995 : (F1991 10).toInt = (F1982 10).toInt - 1 := hp1991
                unfold cb_X4_forStatement_303
                refine WP.ret ?_
                exact ⟨hI1991, (KB.tr (KB.f (by decide) (KB.f (by decide) (KB.tr (KB.tr (KB.tr (KB.tr (KB.tr (KB.tr (KB.tr (KB.tr (KB.tr (KB.tr (KB.tr (KB.tr (KB.tr (KB.tr (KB.tr (KB.tr (KB.tr (KB.tr (KB.rf : KB F G F G) hB2) hB16) hB22) hB1674) hB1831) hB1838) hB1846) hB1852) hB1928) hB1934) hB1939) hB1946) hB1951) hB1957) hB1963) hB1970) hB1977) hB1982))) hB1991), (KT.tr (KT.f (by decide) (KT.f (by decide) (KT.tr (KT.tr (KT.tr (KT.tr (KT.tr (KT.tr (KT.tr (KT.tr (KT.tr (KT.tr (KT.tr (KT.tr (KT.tr (KT.tr (KT.tr (KT.tr (KT.tr (KT.tr (rfl : KT F F) hT2) hT16) hT22) hT1674) hT1831) hT1838) hT1846) hT1852) hT1928) hT1934) hT1939) hT1946) hT1951) hT1957) hT1963) hT1970) hT1977) hT1982))) hT1991), (show (F 11).toInt = -2 → (F1991 11).toInt = -2 by omega), (show (F1991 10).toInt = (F 10).toInt ∨ ((F1991 10).toInt = (F 10).toInt - 1 ∧ (F1991 11).toInt = -2 ∧ (F 11).toInt ≠ -2) by omega)⟩
          · skip
            have l_1996 : (26 : Int32).toInt = 26 := rfl
            have e_1997 := mt i_eq.mpr (show ¬ ((F22 11) = (26 : Int32)) from c_1671)
            unfold cb_X4_forStatement_79
            refine WP.bind (cs_X4_simple hfu F22 G22 hI22) ?_
            rintro r1998 F1998 G1998 ⟨hI1998, hB1998, hT1998, hO1998, hS1998, hp1998⟩
            dsimp only
            have q_1999 := i_rng (F1998 11)
            have e_2000 : (F22 11).toInt = -2 → (F1998 11).toInt = -2 := hS1998
            have q_2001 := hI1998.r 10 rfl
            have e_2002 : (F1998 10).toInt = (F22 10).toInt := hO1998
            unfold cb_X4_forStatement_83
            refine WP.bind (cs_X2_expect hfu (26 : Int32) F1998 G1998 hI1998 (show (26 : Int32).toInt ≠ -2 by omega)) ?_
            rintro r2003 F2003 G2003 ⟨hI2003, hB2003, hT2003, hO2003, hS2003, hp2003⟩
            dsimp only
            have q_2004 := i_rng (F2003 11)
            have e_2005 : (F1998 11).toInt = -2 → (F2003 11).toInt = -2 := hS2003
            have q_2006 := hI2003.r 10 rfl
            have e_2007 : (F2003 10).toInt = (F1998 10).toInt := hO2003
            unfold cb_X4_forStatement_92
            refine WP.ite (fun c_2008 => ?_) (fun c_2008 => ?_)
            · skip
              have e_2009 := i_eq.mp (show (F2003 11) = (26 : Int32) from c_2008)
              unfold cb_X4_forStatement_135
              refine WP.bind (cs_X2_expect hfu (26 : Int32) F2003 G2003 hI2003 (show (26 : Int32).toInt ≠ -2 by omega)) ?_
              rintro r2010 F2010 G2010 ⟨hI2010, hB2010, hT2010, hO2010, hS2010, hp2010⟩
              dsimp only
              have q_2011 := i_rng (F2010 11)
              have e_2012 : (F2003 11).toInt = -2 → (F2010 11).toInt = -2 := hS2010
              have q_2013 := hI2010.r 10 rfl
              have e_2014 : (F2010 10).toInt = (F2003 10).toInt := hO2010
              unfold cb_X4_forStatement_144
              have l_2015 : (84 : Int32).toInt = 84 := rfl
              have l_2016 : (-1 : Int32).toInt = -1 := rfl
              refine WP.bind (cs_X1_addJump hfu (84 : Int32) (-1 : Int32) F2010 G2010 hI2010) ?_
              rintro r2017 F2017 G2017 ⟨hI2017, hB2017, hT2017, hO2017, hK2017, hp2017⟩
              dsimp only
              have q_2018 := i_rng (F2017 11)
              have e_2019 : (F2017 11).toInt = (F2010 11).toInt := congrArg Int32.toInt hK2017
              have q_2020 := hI2017.r 10 rfl
              have e_2021 : (F2017 10).toInt = (F2010 10).toInt := hO2017
              have q_2022 := hI2010.r 21 rfl
              have q_2023 := hI2017.r 21 rfl
              have e_2024 : (F2017 21).toInt = (F2010 21).toInt := congrArg Int32.toInt hp2017
              unfold cb_X4_forStatement_154
              refine WP.ite (fun c_2025 => ?_) (fun c_2025 => ?_)
              · skip
                have l_2026 : (20 : Int32).toInt = 20 := rfl
                have e_2027 := i_eq.mp (show (F2017 11) = (20 : Int32) from c_2025)
                unfold cb_X4_forStatement_181
                have q_2028 := hI2003.r 6 rfl
                refine WP.bind (cs_X1_addPair hfu (84 : Int32) (F2003 6) F2017 G2017 hI2017) ?_
                rintro r2029 F2029 G2029 ⟨hI2029, hB2029, hT2029, hO2029, hK2029, hp2029⟩
                dsimp only
                have q_2030 := i_rng (F2029 11)
                have e_2031 : (F2029 11).toInt = (F2017 11).toInt := congrArg Int32.toInt hK2029
                have q_2032 := hI2029.r 10 rfl
                have e_2033 : (F2029 10).toInt = (F2017 10).toInt := hO2029
                unfold cb_X4_forStatement_192
                refine WP.bind (cs_X2_closesWith hfu (20 : Int32) F2029 G2029 hI2029 (show 0 ≤ (F2029 10).toInt by omega) (show (20 : Int32).toInt ≠ -2 by omega)) ?_
                rintro r2034 F2034 G2034 ⟨hI2034, hB2034, hT2034, hS2034, hp2034⟩
                dsimp only
                have q_2035 := i_rng (F2034 11)
                have e_2036 : (F2029 11).toInt = -2 → (F2034 11).toInt = -2 := hS2034
                have q_2037 := hI2034.r 10 rfl
                have e_2038 : (F2034 10).toInt = (F2029 10).toInt - 1 := hp2034
                unfold cb_X4_forStatement_201
                have q_2039 := i_rng r2017
                have q_2040 := hI2034.r 6 rfl
                refine WP.bind (cs_X1_aim hfu r2017 (F2034 6) F2034 G2034 hI2034) ?_
                rintro r2041 F2041 G2041 ⟨hI2041, hB2041, hT2041, hO2041, hK2041, hp2041⟩
                dsimp only
                have q_2042 := i_rng (F2041 11)
                have e_2043 : (F2041 11).toInt = (F2034 11).toInt := congrArg Int32.toInt hK2041
                have q_2044 := hI2041.r 10 rfl
                have e_2045 : (F2041 10).toInt = (F2034 10).toInt := hO2041
                unfold cb_X4_forStatement_217
                refine WP.bind (ih.2.2.2.2.2.1 F2041 G2041 hI2041 (show 0 ≤ (F2041 10).toInt by omega) (by omega)) ?_
                rintro r2046 F2046 G2046 ⟨hI2046, hB2046, hT2046, hS2046, hp2046⟩
                dsimp only
                have q_2047 := i_rng (F2046 11)
                have e_2048 : (F2041 11).toInt = -2 → (F2046 11).toInt = -2 := hS2046
                have q_2049 := hI2046.r 10 rfl
                have e_2050 : (F2046 10).toInt = (F2041 10).toInt ∨ ((F2046 10).toInt = (F2041 10).toInt - 1 ∧ (F2046 11).toInt = -2 ∧ (F2041 11).toInt ≠ -2) := hp2046
                unfold cb_X4_forStatement_221
                have q_2051 := hI2017.r 6 rfl
                refine WP.bind (cs_X1_addPair hfu (84 : Int32) (F2017 6) F2046 G2046 hI2046) ?_
                rintro r2052 F2052 G2052 ⟨hI2052, hB2052, hT2052, hO2052, hK2052, hp2052⟩
                dsimp only
                have q_2053 := i_rng (F2052 11)
                have e_2054 : (F2052 11).toInt = (F2046 11).toInt := congrArg Int32.toInt hK2052
                have q_2055 := hI2052.r 10 rfl
                have e_2056 : (F2052 10).toInt = (F2046 10).toInt := hO2052
                unfold cb_X4_forStatement_232
                have q_2057 := i_rng (F2052 31)
                refine WP.bind (cs_X1_aim hfu (F2052 31) (F2017 6) F2052 G2052 hI2052) ?_
                rintro r2058 F2058 G2058 ⟨hI2058, hB2058, hT2058, hO2058, hK2058, hp2058⟩
                dsimp only
                have q_2059 := i_rng (F2058 11)
                have e_2060 : (F2058 11).toInt = (F2052 11).toInt := congrArg Int32.toInt hK2058
                have q_2061 := hI2058.r 10 rfl
                have e_2062 : (F2058 10).toInt = (F2052 10).toInt := hO2058
                unfold cb_X4_forStatement_245
                have q_2063 := hI2058.r 6 rfl
                refine WP.bind (cs_X1_aim hfu (-1 : Int32) (F2058 6) F2058 G2058 hI2058) ?_
                rintro r2064 F2064 G2064 ⟨hI2064, hB2064, hT2064, hO2064, hK2064, hp2064⟩
                dsimp only
                have q_2065 := i_rng (F2064 11)
                have e_2066 : (F2064 11).toInt = (F2058 11).toInt := congrArg Int32.toInt hK2064
                have q_2067 := hI2064.r 10 rfl
                have e_2068 : (F2064 10).toInt = (F2058 10).toInt := hO2064
                unfold cb_X4_forStatement_261
                have q_2069 := i_rng (F2064 30)
                have q_2070 := hI2064.r 6 rfl
                refine WP.bind (cs_X1_aim hfu (F2064 30) (F2064 6) F2064 G2064 hI2064) ?_
                rintro r2071 F2071 G2071 ⟨hI2071, hB2071, hT2071, hO2071, hK2071, hp2071⟩
                dsimp only
                have q_2072 := i_rng (F2071 11)
                have e_2073 : (F2071 11).toInt = (F2064 11).toInt := congrArg Int32.toInt hK2071
                have q_2074 := hI2071.r 10 rfl
                have e_2075 : (F2071 10).toInt = (F2064 10).toInt := hO2071
                unfold cb_X4_forStatement_279
                refine WP.bind (cs_X5_leave hfu F2071 G2071 hI2071) ?_
                rintro r2076 F2076 G2076 ⟨hI2076, hB2076, hT2076, hO2076, hK2076, hp2076⟩
                dsimp only
                have q_2077 := i_rng (F2076 11)
                have e_2078 : (F2076 11).toInt = (F2071 11).toInt := congrArg Int32.toInt hK2076
                have q_2079 := hI2076.r 10 rfl
                have e_2080 : (F2076 10).toInt = (F2071 10).toInt := hO2076
                unfold cb_X4_forStatement_286
                have q_2081 := i_rng (F2 30)
                have j_2082 : CI (fup F2076 30 (F2 30)) G2076 := CI.fr rfl hI2076
                unfold cb_X4_forStatement_291
                have q_2083 := i_rng (F2 31)
                have j_2084 : CI (fup (fup F2076 30 (F2 30)) 31 (F2 31)) G2076 := CI.fr rfl j_2082
                unfold cb_X4_forStatement_296
                refine WP.bind (cs_X2_closes hfu (fup (fup F2076 30 (F2 30)) 31 (F2 31)) G2076 j_2084 (show 0 ≤ (F2076 10).toInt by omega)) ?_
                rintro r2085 F2085 G2085 ⟨hI2085, hB2085, hT2085, hK2085, hp2085⟩
                dsimp only
                have q_2086 := i_rng (F2085 11)
                have e_2087 : (F2085 11).toInt = (F2076 11).toInt := congrArg Int32.toInt hK2085
                have q_2088 := hI2085.r 10 rfl
                have e_2089 : (F2085 10).toInt = (F2076 10).toInt - 1 := hp2085
                unfold cb_X4_forStatement_303
                refine WP.ret ?_
                exact ⟨hI2085, (KB.tr (KB.f (by decide) (KB.f (by decide) (KB.tr (KB.tr (KB.tr (KB.tr (KB.tr (KB.tr (KB.tr (KB.tr (KB.tr (KB.tr (KB.tr (KB.tr (KB.tr (KB.tr (KB.tr (KB.tr (KB.rf : KB F G F G) hB2) hB16) hB22) hB1998) hB2003) hB2010) hB2017) hB2029) hB2034) hB2041) hB2046) hB2052) hB2058) hB2064) hB2071) hB2076))) hB2085), (KT.tr (KT.f (by decide) (KT.f (by decide) (KT.tr (KT.tr (KT.tr (KT.tr (KT.tr (KT.tr (KT.tr (KT.tr (KT.tr (KT.tr (KT.tr (KT.tr (KT.tr (KT.tr (KT.tr (KT.tr (rfl : KT F F) hT2) hT16) hT22) hT1998) hT2003) hT2010) hT2017) hT2029) hT2034) hT2041) hT2046) hT2052) hT2058) hT2064) hT2071) hT2076))) hT2085), (show (F 11).toInt = -2 → (F2085 11).toInt = -2 by omega), (show (F2085 10).toInt = (F 10).toInt ∨ ((F2085 10).toInt = (F 10).toInt - 1 ∧ (F2085 11).toInt = -2 ∧ (F 11).toInt ≠ -2) by omega)⟩
              · skip
                have l_2090 : (20 : Int32).toInt = 20 := rfl
                have e_2091 := mt i_eq.mpr (show ¬ ((F2017 11) = (20 : Int32)) from c_2025)
                unfold cb_X4_forStatement_177
                refine WP.bind (cs_X4_simple hfu F2017 G2017 hI2017) ?_
                rintro r2092 F2092 G2092 ⟨hI2092, hB2092, hT2092, hO2092, hS2092, hp2092⟩
                dsimp only
                have q_2093 := i_rng (F2092 11)
                have e_2094 : (F2017 11).toInt = -2 → (F2092 11).toInt = -2 := hS2092
                have q_2095 := hI2092.r 10 rfl
                have e_2096 : (F2092 10).toInt = (F2017 10).toInt := hO2092
                unfold cb_X4_forStatement_181
                have q_2097 := hI2003.r 6 rfl
                refine WP.bind (cs_X1_addPair hfu (84 : Int32) (F2003 6) F2092 G2092 hI2092) ?_
                rintro r2098 F2098 G2098 ⟨hI2098, hB2098, hT2098, hO2098, hK2098, hp2098⟩
                dsimp only
                have q_2099 := i_rng (F2098 11)
                have e_2100 : (F2098 11).toInt = (F2092 11).toInt := congrArg Int32.toInt hK2098
                have q_2101 := hI2098.r 10 rfl
                have e_2102 : (F2098 10).toInt = (F2092 10).toInt := hO2098
                unfold cb_X4_forStatement_192
                refine WP.bind (cs_X2_closesWith hfu (20 : Int32) F2098 G2098 hI2098 (show 0 ≤ (F2098 10).toInt by omega) (show (20 : Int32).toInt ≠ -2 by omega)) ?_
                rintro r2103 F2103 G2103 ⟨hI2103, hB2103, hT2103, hS2103, hp2103⟩
                dsimp only
                have q_2104 := i_rng (F2103 11)
                have e_2105 : (F2098 11).toInt = -2 → (F2103 11).toInt = -2 := hS2103
                have q_2106 := hI2103.r 10 rfl
                have e_2107 : (F2103 10).toInt = (F2098 10).toInt - 1 := hp2103
                unfold cb_X4_forStatement_201
                have q_2108 := i_rng r2017
                have q_2109 := hI2103.r 6 rfl
                refine WP.bind (cs_X1_aim hfu r2017 (F2103 6) F2103 G2103 hI2103) ?_
                rintro r2110 F2110 G2110 ⟨hI2110, hB2110, hT2110, hO2110, hK2110, hp2110⟩
                dsimp only
                have q_2111 := i_rng (F2110 11)
                have e_2112 : (F2110 11).toInt = (F2103 11).toInt := congrArg Int32.toInt hK2110
                have q_2113 := hI2110.r 10 rfl
                have e_2114 : (F2110 10).toInt = (F2103 10).toInt := hO2110
                unfold cb_X4_forStatement_217
                refine WP.bind (ih.2.2.2.2.2.1 F2110 G2110 hI2110 (show 0 ≤ (F2110 10).toInt by omega) (by omega)) ?_
                rintro r2115 F2115 G2115 ⟨hI2115, hB2115, hT2115, hS2115, hp2115⟩
                dsimp only
                have q_2116 := i_rng (F2115 11)
                have e_2117 : (F2110 11).toInt = -2 → (F2115 11).toInt = -2 := hS2115
                have q_2118 := hI2115.r 10 rfl
                have e_2119 : (F2115 10).toInt = (F2110 10).toInt ∨ ((F2115 10).toInt = (F2110 10).toInt - 1 ∧ (F2115 11).toInt = -2 ∧ (F2110 11).toInt ≠ -2) := hp2115
                unfold cb_X4_forStatement_221
                have q_2120 := hI2017.r 6 rfl
                refine WP.bind (cs_X1_addPair hfu (84 : Int32) (F2017 6) F2115 G2115 hI2115) ?_
                rintro r2121 F2121 G2121 ⟨hI2121, hB2121, hT2121, hO2121, hK2121, hp2121⟩
                dsimp only
                have q_2122 := i_rng (F2121 11)
                have e_2123 : (F2121 11).toInt = (F2115 11).toInt := congrArg Int32.toInt hK2121
                have q_2124 := hI2121.r 10 rfl
                have e_2125 : (F2121 10).toInt = (F2115 10).toInt := hO2121
                unfold cb_X4_forStatement_232
                have q_2126 := i_rng (F2121 31)
                refine WP.bind (cs_X1_aim hfu (F2121 31) (F2017 6) F2121 G2121 hI2121) ?_
                rintro r2127 F2127 G2127 ⟨hI2127, hB2127, hT2127, hO2127, hK2127, hp2127⟩
                dsimp only
                have q_2128 := i_rng (F2127 11)
                have e_2129 : (F2127 11).toInt = (F2121 11).toInt := congrArg Int32.toInt hK2127
                have q_2130 := hI2127.r 10 rfl
                have e_2131 : (F2127 10).toInt = (F2121 10).toInt := hO2127
                unfold cb_X4_forStatement_245
                have q_2132 := hI2127.r 6 rfl
                refine WP.bind (cs_X1_aim hfu (-1 : Int32) (F2127 6) F2127 G2127 hI2127) ?_
                rintro r2133 F2133 G2133 ⟨hI2133, hB2133, hT2133, hO2133, hK2133, hp2133⟩
                dsimp only
                have q_2134 := i_rng (F2133 11)
                have e_2135 : (F2133 11).toInt = (F2127 11).toInt := congrArg Int32.toInt hK2133
                have q_2136 := hI2133.r 10 rfl
                have e_2137 : (F2133 10).toInt = (F2127 10).toInt := hO2133
                unfold cb_X4_forStatement_261
                have q_2138 := i_rng (F2133 30)
                have q_2139 := hI2133.r 6 rfl
                refine WP.bind (cs_X1_aim hfu (F2133 30) (F2133 6) F2133 G2133 hI2133) ?_
                rintro r2140 F2140 G2140 ⟨hI2140, hB2140, hT2140, hO2140, hK2140, hp2140⟩
                dsimp only
                have q_2141 := i_rng (F2140 11)
                have e_2142 : (F2140 11).toInt = (F2133 11).toInt := congrArg Int32.toInt hK2140
                have q_2143 := hI2140.r 10 rfl
                have e_2144 : (F2140 10).toInt = (F2133 10).toInt := hO2140
                unfold cb_X4_forStatement_279
                refine WP.bind (cs_X5_leave hfu F2140 G2140 hI2140) ?_
                rintro r2145 F2145 G2145 ⟨hI2145, hB2145, hT2145, hO2145, hK2145, hp2145⟩
                dsimp only
                have q_2146 := i_rng (F2145 11)
                have e_2147 : (F2145 11).toInt = (F2140 11).toInt := congrArg Int32.toInt hK2145
                have q_2148 := hI2145.r 10 rfl
                have e_2149 : (F2145 10).toInt = (F2140 10).toInt := hO2145
                unfold cb_X4_forStatement_286
                have q_2150 := i_rng (F2 30)
                have j_2151 : CI (fup F2145 30 (F2 30)) G2145 := CI.fr rfl hI2145
                unfold cb_X4_forStatement_291
                have q_2152 := i_rng (F2 31)
                have j_2153 : CI (fup (fup F2145 30 (F2 30)) 31 (F2 31)) G2145 := CI.fr rfl j_2151
                unfold cb_X4_forStatement_296
                refine WP.bind (cs_X2_closes hfu (fup (fup F2145 30 (F2 30)) 31 (F2 31)) G2145 j_2153 (show 0 ≤ (F2145 10).toInt by omega)) ?_
                rintro r2154 F2154 G2154 ⟨hI2154, hB2154, hT2154, hK2154, hp2154⟩
                dsimp only
                have q_2155 := i_rng (F2154 11)
                have e_2156 : (F2154 11).toInt = (F2145 11).toInt := congrArg Int32.toInt hK2154
                have q_2157 := hI2154.r 10 rfl
                have e_2158 : (F2154 10).toInt = (F2145 10).toInt - 1 := hp2154
                unfold cb_X4_forStatement_303
                refine WP.ret ?_
                exact ⟨hI2154, (KB.tr (KB.f (by decide) (KB.f (by decide) (KB.tr (KB.tr (KB.tr (KB.tr (KB.tr (KB.tr (KB.tr (KB.tr (KB.tr (KB.tr (KB.tr (KB.tr (KB.tr (KB.tr (KB.tr (KB.tr (KB.tr (KB.rf : KB F G F G) hB2) hB16) hB22) hB1998) hB2003) hB2010) hB2017) hB2092) hB2098) hB2103) hB2110) hB2115) hB2121) hB2127) hB2133) hB2140) hB2145))) hB2154), (KT.tr (KT.f (by decide) (KT.f (by decide) (KT.tr (KT.tr (KT.tr (KT.tr (KT.tr (KT.tr (KT.tr (KT.tr (KT.tr (KT.tr (KT.tr (KT.tr (KT.tr (KT.tr (KT.tr (KT.tr (KT.tr (rfl : KT F F) hT2) hT16) hT22) hT1998) hT2003) hT2010) hT2017) hT2092) hT2098) hT2103) hT2110) hT2115) hT2121) hT2127) hT2133) hT2140) hT2145))) hT2154), (show (F 11).toInt = -2 → (F2154 11).toInt = -2 by omega), (show (F2154 10).toInt = (F 10).toInt ∨ ((F2154 10).toInt = (F 10).toInt - 1 ∧ (F2154 11).toInt = -2 ∧ (F 11).toInt ≠ -2) by omega)⟩
            · skip
              have e_2159 := mt i_eq.mpr (show ¬ ((F2003 11) = (26 : Int32)) from c_2008)
              unfold cb_X4_forStatement_116
              refine WP.bind (cs_X3_expression hfu F2003 G2003 hI2003) ?_
              rintro r2160 F2160 G2160 ⟨hI2160, hB2160, hT2160, hO2160, hS2160, hp2160⟩
              dsimp only
              have q_2161 := i_rng (F2160 11)
              have e_2162 : (F2003 11).toInt = -2 → (F2160 11).toInt = -2 := hS2160
              have q_2163 := hI2160.r 10 rfl
              have e_2164 : (F2160 10).toInt = (F2003 10).toInt := hO2160
              unfold cb_X4_forStatement_123
              have l_2165 : (86 : Int32).toInt = 86 := rfl
              have l_2166 : (-1 : Int32).toInt = -1 := rfl
              refine WP.bind (cs_X1_addJump hfu (86 : Int32) (-1 : Int32) F2160 G2160 hI2160) ?_
              rintro r2167 F2167 G2167 ⟨hI2167, hB2167, hT2167, hO2167, hK2167, hp2167⟩
              dsimp only
              have q_2168 := i_rng (F2167 11)
              have e_2169 : (F2167 11).toInt = (F2160 11).toInt := congrArg Int32.toInt hK2167
              have q_2170 := hI2167.r 10 rfl
              have e_2171 : (F2167 10).toInt = (F2160 10).toInt := hO2167
              have q_2172 := hI2160.r 21 rfl
              have q_2173 := hI2167.r 21 rfl
              have e_2174 : (F2167 21).toInt = (F2160 21).toInt := congrArg Int32.toInt hp2167
              unfold cb_X4_forStatement_133
              unfold cb_X4_forStatement_135
              refine WP.bind (cs_X2_expect hfu (26 : Int32) F2167 G2167 hI2167 (show (26 : Int32).toInt ≠ -2 by omega)) ?_
              rintro r2175 F2175 G2175 ⟨hI2175, hB2175, hT2175, hO2175, hS2175, hp2175⟩
              dsimp only
              have q_2176 := i_rng (F2175 11)
              have e_2177 : (F2167 11).toInt = -2 → (F2175 11).toInt = -2 := hS2175
              have q_2178 := hI2175.r 10 rfl
              have e_2179 : (F2175 10).toInt = (F2167 10).toInt := hO2175
              unfold cb_X4_forStatement_144
              have l_2180 : (84 : Int32).toInt = 84 := rfl
              refine WP.bind (cs_X1_addJump hfu (84 : Int32) (-1 : Int32) F2175 G2175 hI2175) ?_
              rintro r2181 F2181 G2181 ⟨hI2181, hB2181, hT2181, hO2181, hK2181, hp2181⟩
              dsimp only
              have q_2182 := i_rng (F2181 11)
              have e_2183 : (F2181 11).toInt = (F2175 11).toInt := congrArg Int32.toInt hK2181
              have q_2184 := hI2181.r 10 rfl
              have e_2185 : (F2181 10).toInt = (F2175 10).toInt := hO2181
              have q_2186 := hI2175.r 21 rfl
              have q_2187 := hI2181.r 21 rfl
              have e_2188 : (F2181 21).toInt = (F2175 21).toInt := congrArg Int32.toInt hp2181
              unfold cb_X4_forStatement_154
              refine WP.ite (fun c_2189 => ?_) (fun c_2189 => ?_)
              · skip
                have l_2190 : (20 : Int32).toInt = 20 := rfl
                have e_2191 := i_eq.mp (show (F2181 11) = (20 : Int32) from c_2189)
                unfold cb_X4_forStatement_181
                have q_2192 := hI2003.r 6 rfl
                refine WP.bind (cs_X1_addPair hfu (84 : Int32) (F2003 6) F2181 G2181 hI2181) ?_
                rintro r2193 F2193 G2193 ⟨hI2193, hB2193, hT2193, hO2193, hK2193, hp2193⟩
                dsimp only
                have q_2194 := i_rng (F2193 11)
                have e_2195 : (F2193 11).toInt = (F2181 11).toInt := congrArg Int32.toInt hK2193
                have q_2196 := hI2193.r 10 rfl
                have e_2197 : (F2193 10).toInt = (F2181 10).toInt := hO2193
                unfold cb_X4_forStatement_192
                refine WP.bind (cs_X2_closesWith hfu (20 : Int32) F2193 G2193 hI2193 (show 0 ≤ (F2193 10).toInt by omega) (show (20 : Int32).toInt ≠ -2 by omega)) ?_
                rintro r2198 F2198 G2198 ⟨hI2198, hB2198, hT2198, hS2198, hp2198⟩
                dsimp only
                have q_2199 := i_rng (F2198 11)
                have e_2200 : (F2193 11).toInt = -2 → (F2198 11).toInt = -2 := hS2198
                have q_2201 := hI2198.r 10 rfl
                have e_2202 : (F2198 10).toInt = (F2193 10).toInt - 1 := hp2198
                unfold cb_X4_forStatement_201
                have q_2203 := i_rng r2181
                have q_2204 := hI2198.r 6 rfl
                refine WP.bind (cs_X1_aim hfu r2181 (F2198 6) F2198 G2198 hI2198) ?_
                rintro r2205 F2205 G2205 ⟨hI2205, hB2205, hT2205, hO2205, hK2205, hp2205⟩
                dsimp only
                have q_2206 := i_rng (F2205 11)
                have e_2207 : (F2205 11).toInt = (F2198 11).toInt := congrArg Int32.toInt hK2205
                have q_2208 := hI2205.r 10 rfl
                have e_2209 : (F2205 10).toInt = (F2198 10).toInt := hO2205
                unfold cb_X4_forStatement_217
                refine WP.bind (ih.2.2.2.2.2.1 F2205 G2205 hI2205 (show 0 ≤ (F2205 10).toInt by omega) (by omega)) ?_
                rintro r2210 F2210 G2210 ⟨hI2210, hB2210, hT2210, hS2210, hp2210⟩
                dsimp only
                have q_2211 := i_rng (F2210 11)
                have e_2212 : (F2205 11).toInt = -2 → (F2210 11).toInt = -2 := hS2210
                have q_2213 := hI2210.r 10 rfl
                have e_2214 : (F2210 10).toInt = (F2205 10).toInt ∨ ((F2210 10).toInt = (F2205 10).toInt - 1 ∧ (F2210 11).toInt = -2 ∧ (F2205 11).toInt ≠ -2) := hp2210
                unfold cb_X4_forStatement_221
                have q_2215 := hI2181.r 6 rfl
                refine WP.bind (cs_X1_addPair hfu (84 : Int32) (F2181 6) F2210 G2210 hI2210) ?_
                rintro r2216 F2216 G2216 ⟨hI2216, hB2216, hT2216, hO2216, hK2216, hp2216⟩
                dsimp only
                have q_2217 := i_rng (F2216 11)
                have e_2218 : (F2216 11).toInt = (F2210 11).toInt := congrArg Int32.toInt hK2216
                have q_2219 := hI2216.r 10 rfl
                have e_2220 : (F2216 10).toInt = (F2210 10).toInt := hO2216
                unfold cb_X4_forStatement_232
                have q_2221 := i_rng (F2216 31)
                refine WP.bind (cs_X1_aim hfu (F2216 31) (F2181 6) F2216 G2216 hI2216) ?_
                rintro r2222 F2222 G2222 ⟨hI2222, hB2222, hT2222, hO2222, hK2222, hp2222⟩
                dsimp only
                have q_2223 := i_rng (F2222 11)
                have e_2224 : (F2222 11).toInt = (F2216 11).toInt := congrArg Int32.toInt hK2222
                have q_2225 := hI2222.r 10 rfl
                have e_2226 : (F2222 10).toInt = (F2216 10).toInt := hO2222
                unfold cb_X4_forStatement_245
                have q_2227 := i_rng r2167
                have q_2228 := hI2222.r 6 rfl
                refine WP.bind (cs_X1_aim hfu r2167 (F2222 6) F2222 G2222 hI2222) ?_
                rintro r2229 F2229 G2229 ⟨hI2229, hB2229, hT2229, hO2229, hK2229, hp2229⟩
                dsimp only
                have q_2230 := i_rng (F2229 11)
                have e_2231 : (F2229 11).toInt = (F2222 11).toInt := congrArg Int32.toInt hK2229
                have q_2232 := hI2229.r 10 rfl
                have e_2233 : (F2229 10).toInt = (F2222 10).toInt := hO2229
                unfold cb_X4_forStatement_261
                have q_2234 := i_rng (F2229 30)
                have q_2235 := hI2229.r 6 rfl
                refine WP.bind (cs_X1_aim hfu (F2229 30) (F2229 6) F2229 G2229 hI2229) ?_
                rintro r2236 F2236 G2236 ⟨hI2236, hB2236, hT2236, hO2236, hK2236, hp2236⟩
                dsimp only
                have q_2237 := i_rng (F2236 11)
                have e_2238 : (F2236 11).toInt = (F2229 11).toInt := congrArg Int32.toInt hK2236
                have q_2239 := hI2236.r 10 rfl
                have e_2240 : (F2236 10).toInt = (F2229 10).toInt := hO2236
                unfold cb_X4_forStatement_279
                refine WP.bind (cs_X5_leave hfu F2236 G2236 hI2236) ?_
                rintro r2241 F2241 G2241 ⟨hI2241, hB2241, hT2241, hO2241, hK2241, hp2241⟩
                dsimp only
                have q_2242 := i_rng (F2241 11)
                have e_2243 : (F2241 11).toInt = (F2236 11).toInt := congrArg Int32.toInt hK2241
                have q_2244 := hI2241.r 10 rfl
                have e_2245 : (F2241 10).toInt = (F2236 10).toInt := hO2241
                unfold cb_X4_forStatement_286
                have q_2246 := i_rng (F2 30)
                have j_2247 : CI (fup F2241 30 (F2 30)) G2241 := CI.fr rfl hI2241
                unfold cb_X4_forStatement_291
                have q_2248 := i_rng (F2 31)
                have j_2249 : CI (fup (fup F2241 30 (F2 30)) 31 (F2 31)) G2241 := CI.fr rfl j_2247
                unfold cb_X4_forStatement_296
                refine WP.bind (cs_X2_closes hfu (fup (fup F2241 30 (F2 30)) 31 (F2 31)) G2241 j_2249 (show 0 ≤ (F2241 10).toInt by omega)) ?_
                rintro r2250 F2250 G2250 ⟨hI2250, hB2250, hT2250, hK2250, hp2250⟩
                dsimp only
                have q_2251 := i_rng (F2250 11)
                have e_2252 : (F2250 11).toInt = (F2241 11).toInt := congrArg Int32.toInt hK2250
                have q_2253 := hI2250.r 10 rfl
                have e_2254 : (F2250 10).toInt = (F2241 10).toInt - 1 := hp2250
                unfold cb_X4_forStatement_303
                refine WP.ret ?_
                exact ⟨hI2250, (KB.tr (KB.f (by decide) (KB.f (by decide) (KB.tr (KB.tr (KB.tr (KB.tr (KB.tr (KB.tr (KB.tr (KB.tr (KB.tr (KB.tr (KB.tr (KB.tr (KB.tr (KB.tr (KB.tr (KB.tr (KB.tr (KB.tr (KB.rf : KB F G F G) hB2) hB16) hB22) hB1998) hB2003) hB2160) hB2167) hB2175) hB2181) hB2193) hB2198) hB2205) hB2210) hB2216) hB2222) hB2229) hB2236) hB2241))) hB2250), (KT.tr (KT.f (by decide) (KT.f (by decide) (KT.tr (KT.tr (KT.tr (KT.tr (KT.tr (KT.tr (KT.tr (KT.tr (KT.tr (KT.tr (KT.tr (KT.tr (KT.tr (KT.tr (KT.tr (KT.tr (KT.tr (KT.tr (rfl : KT F F) hT2) hT16) hT22) hT1998) hT2003) hT2160) hT2167) hT2175) hT2181) hT2193) hT2198) hT2205) hT2210) hT2216) hT2222) hT2229) hT2236) hT2241))) hT2250), (show (F 11).toInt = -2 → (F2250 11).toInt = -2 by omega), (show (F2250 10).toInt = (F 10).toInt ∨ ((F2250 10).toInt = (F 10).toInt - 1 ∧ (F2250 11).toInt = -2 ∧ (F 11).toInt ≠ -2) by omega)⟩
              · skip
                have l_2255 : (20 : Int32).toInt = 20 := rfl
                have e_2256 := mt i_eq.mpr (show ¬ ((F2181 11) = (20 : Int32)) from c_2189)
                unfold cb_X4_forStatement_177
                refine WP.bind (cs_X4_simple hfu F2181 G2181 hI2181) ?_
                rintro r2257 F2257 G2257 ⟨hI2257, hB2257, hT2257, hO2257, hS2257, hp2257⟩
                dsimp only
                have q_2258 := i_rng (F2257 11)
                have e_2259 : (F2181 11).toInt = -2 → (F2257 11).toInt = -2 := hS2257
                have q_2260 := hI2257.r 10 rfl
                have e_2261 : (F2257 10).toInt = (F2181 10).toInt := hO2257
                unfold cb_X4_forStatement_181
                have q_2262 := hI2003.r 6 rfl
                refine WP.bind (cs_X1_addPair hfu (84 : Int32) (F2003 6) F2257 G2257 hI2257) ?_
                rintro r2263 F2263 G2263 ⟨hI2263, hB2263, hT2263, hO2263, hK2263, hp2263⟩
                dsimp only
                have q_2264 := i_rng (F2263 11)
                have e_2265 : (F2263 11).toInt = (F2257 11).toInt := congrArg Int32.toInt hK2263
                have q_2266 := hI2263.r 10 rfl
                have e_2267 : (F2263 10).toInt = (F2257 10).toInt := hO2263
                unfold cb_X4_forStatement_192
                refine WP.bind (cs_X2_closesWith hfu (20 : Int32) F2263 G2263 hI2263 (show 0 ≤ (F2263 10).toInt by omega) (show (20 : Int32).toInt ≠ -2 by omega)) ?_
                rintro r2268 F2268 G2268 ⟨hI2268, hB2268, hT2268, hS2268, hp2268⟩
                dsimp only
                have q_2269 := i_rng (F2268 11)
                have e_2270 : (F2263 11).toInt = -2 → (F2268 11).toInt = -2 := hS2268
                have q_2271 := hI2268.r 10 rfl
                have e_2272 : (F2268 10).toInt = (F2263 10).toInt - 1 := hp2268
                unfold cb_X4_forStatement_201
                have q_2273 := i_rng r2181
                have q_2274 := hI2268.r 6 rfl
                refine WP.bind (cs_X1_aim hfu r2181 (F2268 6) F2268 G2268 hI2268) ?_
                rintro r2275 F2275 G2275 ⟨hI2275, hB2275, hT2275, hO2275, hK2275, hp2275⟩
                dsimp only
                have q_2276 := i_rng (F2275 11)
                have e_2277 : (F2275 11).toInt = (F2268 11).toInt := congrArg Int32.toInt hK2275
                have q_2278 := hI2275.r 10 rfl
                have e_2279 : (F2275 10).toInt = (F2268 10).toInt := hO2275
                unfold cb_X4_forStatement_217
                refine WP.bind (ih.2.2.2.2.2.1 F2275 G2275 hI2275 (show 0 ≤ (F2275 10).toInt by omega) (by omega)) ?_
                rintro r2280 F2280 G2280 ⟨hI2280, hB2280, hT2280, hS2280, hp2280⟩
                dsimp only
                have q_2281 := i_rng (F2280 11)
                have e_2282 : (F2275 11).toInt = -2 → (F2280 11).toInt = -2 := hS2280
                have q_2283 := hI2280.r 10 rfl
                have e_2284 : (F2280 10).toInt = (F2275 10).toInt ∨ ((F2280 10).toInt = (F2275 10).toInt - 1 ∧ (F2280 11).toInt = -2 ∧ (F2275 11).toInt ≠ -2) := hp2280
                unfold cb_X4_forStatement_221
                have q_2285 := hI2181.r 6 rfl
                refine WP.bind (cs_X1_addPair hfu (84 : Int32) (F2181 6) F2280 G2280 hI2280) ?_
                rintro r2286 F2286 G2286 ⟨hI2286, hB2286, hT2286, hO2286, hK2286, hp2286⟩
                dsimp only
                have q_2287 := i_rng (F2286 11)
                have e_2288 : (F2286 11).toInt = (F2280 11).toInt := congrArg Int32.toInt hK2286
                have q_2289 := hI2286.r 10 rfl
                have e_2290 : (F2286 10).toInt = (F2280 10).toInt := hO2286
                unfold cb_X4_forStatement_232
                have q_2291 := i_rng (F2286 31)
                refine WP.bind (cs_X1_aim hfu (F2286 31) (F2181 6) F2286 G2286 hI2286) ?_
                rintro r2292 F2292 G2292 ⟨hI2292, hB2292, hT2292, hO2292, hK2292, hp2292⟩
                dsimp only
                have q_2293 := i_rng (F2292 11)
                have e_2294 : (F2292 11).toInt = (F2286 11).toInt := congrArg Int32.toInt hK2292
                have q_2295 := hI2292.r 10 rfl
                have e_2296 : (F2292 10).toInt = (F2286 10).toInt := hO2292
                unfold cb_X4_forStatement_245
                have q_2297 := i_rng r2167
                have q_2298 := hI2292.r 6 rfl
                refine WP.bind (cs_X1_aim hfu r2167 (F2292 6) F2292 G2292 hI2292) ?_
                rintro r2299 F2299 G2299 ⟨hI2299, hB2299, hT2299, hO2299, hK2299, hp2299⟩
                dsimp only
                have q_2300 := i_rng (F2299 11)
                have e_2301 : (F2299 11).toInt = (F2292 11).toInt := congrArg Int32.toInt hK2299
                have q_2302 := hI2299.r 10 rfl
                have e_2303 : (F2299 10).toInt = (F2292 10).toInt := hO2299
                unfold cb_X4_forStatement_261
                have q_2304 := i_rng (F2299 30)
                have q_2305 := hI2299.r 6 rfl
                refine WP.bind (cs_X1_aim hfu (F2299 30) (F2299 6) F2299 G2299 hI2299) ?_
                rintro r2306 F2306 G2306 ⟨hI2306, hB2306, hT2306, hO2306, hK2306, hp2306⟩
                dsimp only
                have q_2307 := i_rng (F2306 11)
                have e_2308 : (F2306 11).toInt = (F2299 11).toInt := congrArg Int32.toInt hK2306
                have q_2309 := hI2306.r 10 rfl
                have e_2310 : (F2306 10).toInt = (F2299 10).toInt := hO2306
                unfold cb_X4_forStatement_279
                refine WP.bind (cs_X5_leave hfu F2306 G2306 hI2306) ?_
                rintro r2311 F2311 G2311 ⟨hI2311, hB2311, hT2311, hO2311, hK2311, hp2311⟩
                dsimp only
                have q_2312 := i_rng (F2311 11)
                have e_2313 : (F2311 11).toInt = (F2306 11).toInt := congrArg Int32.toInt hK2311
                have q_2314 := hI2311.r 10 rfl
                have e_2315 : (F2311 10).toInt = (F2306 10).toInt := hO2311
                unfold cb_X4_forStatement_286
                have q_2316 := i_rng (F2 30)
                have j_2317 : CI (fup F2311 30 (F2 30)) G2311 := CI.fr rfl hI2311
                unfold cb_X4_forStatement_291
                have q_2318 := i_rng (F2 31)
                have j_2319 : CI (fup (fup F2311 30 (F2 30)) 31 (F2 31)) G2311 := CI.fr rfl j_2317
                unfold cb_X4_forStatement_296
                refine WP.bind (cs_X2_closes hfu (fup (fup F2311 30 (F2 30)) 31 (F2 31)) G2311 j_2319 (show 0 ≤ (F2311 10).toInt by omega)) ?_
                rintro r2320 F2320 G2320 ⟨hI2320, hB2320, hT2320, hK2320, hp2320⟩
                dsimp only
                have q_2321 := i_rng (F2320 11)
                have e_2322 : (F2320 11).toInt = (F2311 11).toInt := congrArg Int32.toInt hK2320
                have q_2323 := hI2320.r 10 rfl
                have e_2324 : (F2320 10).toInt = (F2311 10).toInt - 1 := hp2320
                unfold cb_X4_forStatement_303
                refine WP.ret ?_
                exact ⟨hI2320, (KB.tr (KB.f (by decide) (KB.f (by decide) (KB.tr (KB.tr (KB.tr (KB.tr (KB.tr (KB.tr (KB.tr (KB.tr (KB.tr (KB.tr (KB.tr (KB.tr (KB.tr (KB.tr (KB.tr (KB.tr (KB.tr (KB.tr (KB.tr (KB.rf : KB F G F G) hB2) hB16) hB22) hB1998) hB2003) hB2160) hB2167) hB2175) hB2181) hB2257) hB2263) hB2268) hB2275) hB2280) hB2286) hB2292) hB2299) hB2306) hB2311))) hB2320), (KT.tr (KT.f (by decide) (KT.f (by decide) (KT.tr (KT.tr (KT.tr (KT.tr (KT.tr (KT.tr (KT.tr (KT.tr (KT.tr (KT.tr (KT.tr (KT.tr (KT.tr (KT.tr (KT.tr (KT.tr (KT.tr (KT.tr (KT.tr (rfl : KT F F) hT2) hT16) hT22) hT1998) hT2003) hT2160) hT2167) hT2175) hT2181) hT2257) hT2263) hT2268) hT2275) hT2280) hT2286) hT2292) hT2299) hT2306) hT2311))) hT2320), (show (F 11).toInt = -2 → (F2320 11).toInt = -2 by omega), (show (F2320 10).toInt = (F 10).toInt ∨ ((F2320 10).toInt = (F 10).toInt - 1 ∧ (F2320 11).toInt = -2 ∧ (F 11).toInt ≠ -2) by omega)⟩
