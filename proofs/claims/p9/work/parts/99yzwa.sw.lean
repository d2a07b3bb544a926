def c0F : PF := fup (fup (fup (fun _ => 0) 300 1024) 59 2000) 66 (-1)
theorem c0_xn : xn c0F = 1024 := by decide +kernel
theorem c0_R (k : Nat) (lo hi : Int) (e : cR k = some (lo, hi)) : lo ≤ ((fup (fun _ => 0) 300 1024 : PF) k).toInt ∧ ((fup (fun _ => 0) 300 1024 : PF) k).toInt ≤ hi := by
  by_cases h3 : k = 300
  · subst h3
    have : some ((1 : Int), (524288 : Int)) = some (lo, hi) := e
    cases this
    rw [fup_s]
    exact ⟨by decide, by decide⟩
  · rw [fup_n h3]
    show lo ≤ (0 : Int32).toInt ∧ (0 : Int32).toInt ≤ hi
    unfold cR at e
    by_cases q6 : k = 6
    · rw [if_pos q6] at e
      cases e
      exact ⟨by decide, by decide⟩
    rw [if_neg q6] at e
    by_cases q7 : k = 7
    · rw [if_pos q7] at e
      cases e
      exact ⟨by decide, by decide⟩
    rw [if_neg q7] at e
    by_cases q10 : k = 10
    · rw [if_pos q10] at e
      cases e
      exact ⟨by decide, by decide⟩
    rw [if_neg q10] at e
    by_cases q21 : k = 21
    · rw [if_pos q21] at e
      cases e
      exact ⟨by decide, by decide⟩
    rw [if_neg q21] at e
    by_cases q41 : k = 41
    · rw [if_pos q41] at e
      cases e
      exact ⟨by decide, by decide⟩
    rw [if_neg q41] at e
    by_cases q44 : k = 44
    · rw [if_pos q44] at e
      cases e
      exact ⟨by decide, by decide⟩
    rw [if_neg q44] at e
    by_cases q45 : k = 45
    · rw [if_pos q45] at e
      cases e
      exact ⟨by decide, by decide⟩
    rw [if_neg q45] at e
    by_cases q46 : k = 46
    · rw [if_pos q46] at e
      cases e
      exact ⟨by decide, by decide⟩
    rw [if_neg q46] at e
    by_cases q47 : k = 47
    · rw [if_pos q47] at e
      cases e
      exact ⟨by decide, by decide⟩
    rw [if_neg q47] at e
    by_cases q48 : k = 48
    · rw [if_pos q48] at e
      cases e
      exact ⟨by decide, by decide⟩
    rw [if_neg q48] at e
    by_cases q56 : k = 56
    · rw [if_pos q56] at e
      cases e
      exact ⟨by decide, by decide⟩
    rw [if_neg q56] at e
    by_cases q60 : k = 60
    · rw [if_pos q60] at e
      cases e
      exact ⟨by decide, by decide⟩
    rw [if_neg q60] at e
    by_cases q61 : k = 61
    · rw [if_pos q61] at e
      cases e
      exact ⟨by decide, by decide⟩
    rw [if_neg q61] at e
    by_cases q69 : k = 69
    · rw [if_pos q69] at e
      cases e
      exact ⟨by decide, by decide⟩
    rw [if_neg q69] at e
    by_cases q70 : k = 70
    · rw [if_pos q70] at e
      cases e
      exact ⟨by decide, by decide⟩
    rw [if_neg q70] at e
    by_cases q72 : k = 72
    · rw [if_pos q72] at e
      cases e
      exact ⟨by decide, by decide⟩
    rw [if_neg q72] at e
    by_cases q73 : k = 73
    · rw [if_pos q73] at e
      cases e
      exact ⟨by decide, by decide⟩
    rw [if_neg q73] at e
    by_cases q74 : k = 74
    · rw [if_pos q74] at e
      cases e
      exact ⟨by decide, by decide⟩
    rw [if_neg q74] at e
    by_cases q85 : k = 85
    · rw [if_pos q85] at e
      cases e
      exact ⟨by decide, by decide⟩
    rw [if_neg q85] at e
    by_cases q88 : k = 88
    · rw [if_pos q88] at e
      cases e
      exact ⟨by decide, by decide⟩
    rw [if_neg q88] at e
    by_cases q93 : k = 93
    · rw [if_pos q93] at e
      cases e
      exact ⟨by decide, by decide⟩
    rw [if_neg q93] at e
    by_cases q98 : k = 98
    · rw [if_pos q98] at e
      cases e
      exact ⟨by decide, by decide⟩
    rw [if_neg q98] at e
    rw [if_neg h3] at e
    cases e
theorem c0_CI : CI c0F (fun _ _ => 0) := by
  refine CI.fr (by decide) (CI.fr (by decide) ⟨c0_R, ⟨by decide +kernel, 0, by decide, by decide +kernel⟩, fun j => ?_⟩)
  show 0 ≤ (0 : Int32).toInt ∧ (0 : Int32).toInt ≤ 700
  exact ⟨by decide, by decide⟩
set_option maxRecDepth 100000 in
theorem cW_0 (v : EV) (a : Nat → Nat) (b : Nat) : cW v a b c0F (fun _ _ => 0) = [(a 200, .inr (0, [.ref (a 0), .ref (a 1), .int 0, .int 0, .int 0])), (a 201, .inr (1, [.ref (a 5), .int 0, .int 0])), (a 202, .inr (2, [.ref (a 210), .int 0, .int 0, .int 0, .int 0, .int 0, .int 0])), (a 203, .inr (3, [.ref (a 202), .ref (a 205), .ref (a 201), .ref (a 208), .ref (a 206), .ref (a 20), .int 0])), (a 204, .inr (4, [.ref (a 202), .ref (a 205), .ref (a 201), .ref (a 208), .ref (a 203), .int 0, .int 0, .int 0, .int 0, .int 0])), (a 205, .inr (5, [.ref (a 208), .ref (a 33), .ref (a 34), .ref (a 35), .ref (a 36), .ref (a 37), .ref (a 38), .ref (a 39), .ref (a 40), .int 0, .int 0, .int 0, .int 0, .int 0, .int 0, .int 0, .int 0, .int 0, .int 0])), (a 206, .inr (6, [.ref (a 201), .ref (a 208), .ref (a 207), .ref (a 54), .ref b, .int 0, .int 0, .int 0, .int 2000, .int 0, .int 0, .int 0, .int 0, .int 0, .int 0, .int (-1), .int 0])), (a 207, .inr (7, [.ref (a 68), .int 0, .int 0, .ref (a 71), .int 0])), (a 208, .inr (8, [.int 0, .int 0, .int 0, .int 0, .ref (a 77), .ref (a 78), .ref (a 79), .ref (a 80), .ref (a 81), .ref (a 82), .ref (a 83), .ref (a 84), .int 0, .ref (a 86)])), (a 209, .inr (9, [.ref (a 87), .int 0])), (a 210, .inr (10, [.ref (a 209), .ref (a 90), .ref (a 91), .ref (a 92), .int 0, .ref (a 94), .ref (a 95), .ref (a 96), .ref (a 97), .int 0])), (a 211, .inr (11, [.ref (a 209), .ref (a 210), .ref (a 208), .ref (a 207), .ref (a 206), .ref (a 204), .ref (a 200)])), (a 0, .inl (eI v, 4096, .inl (fun _ => 0))), (a 1, .inl (eI v, 32, .inl (fun _ => 0))), (a 5, .inl (eI v, 8400, .inl (fun _ => 0))), (a 20, .inl (eI v, 4001, .inl (fun _ => 0))), (a 33, .inl (eI v, 700, .inl (fun _ => 0))), (a 34, .inl (eI v, 700, .inl (fun _ => 0))), (a 35, .inl (eI v, 700, .inl (fun _ => 0))), (a 36, .inl (eI v, 700, .inl (fun _ => 0))), (a 37, .inl (eI v, 700, .inl (fun _ => 0))), (a 38, .inl (eI v, 700, .inl (fun _ => 0))), (a 39, .inl (eI v, 700, .inl (fun _ => 0))), (a 40, .inl (eI v, 1408, .inl (fun _ => 0))), (a 54, .inl (eI v, 4000, .inl (fun _ => 0))), (b, .inl (eI v, 1024, .inl (fun _ => 0))), (a 68, .inl (eI v, 500, .inl (fun _ => 0))), (a 71, .inl (eI v, 2000, .inl (fun _ => 0))), (a 77, .inl (eI v, 450, .inl (fun _ => 0))), (a 78, .inl (eI v, 450, .inl (fun _ => 0))), (a 79, .inl (eI v, 450, .inl (fun _ => 0))), (a 80, .inl (eI v, 450, .inl (fun _ => 0))), (a 81, .inl (eI v, 450, .inl (fun _ => 0))), (a 82, .inl (eI v, 450, .inl (fun _ => 0))), (a 83, .inl (eI v, 450, .inl (fun _ => 0))), (a 84, .inl (eI v, 700, .inl (fun _ => 0))), (a 86, .inl (eI v, 2000, .inl (fun _ => 0))), (a 87, .inl (eB v, 4000, .inl (fun _ => 0))), (a 90, .inl (eI v, 4001, .inl (fun _ => 0))), (a 91, .inl (eI v, 4001, .inl (fun _ => 0))), (a 92, .inl (eI v, 4001, .inl (fun _ => 0))), (a 94, .inl (eI v, 1024, .inl (fun _ => 0))), (a 95, .inl (eI v, 1408, .inl (fun _ => 0))), (a 96, .inl (eI v, 1408, .inl (fun _ => 0))), (a 97, .inl (eI v, 1408, .inl (fun _ => 0)))] := by
  unfold cW
  rw [c0_xn]
  rfl
set_option maxRecDepth 100000 in
theorem mW_0 (v : EV) (a : Nat → Nat) : mW v a (fun _ => 0) (fun _ _ => 0) = [(a 212, .inr (12, [.ref (a 0), .ref (a 1), .int 0, .int 0, .ref (a 4), .ref (a 5), .ref (a 6), .int 0, .int 0, .ref (a 9), .ref (a 10), .ref (a 11), .ref (a 12), .int 0, .int 0, .int 0, .ref (a 16), .ref (a 17), .ref (a 18), .ref (a 19), .ref (a 20), .ref (a 21), .ref (a 22), .ref (a 23), .int 0, .ref (a 25), .ref (a 26), .ref (a 27), .ref (a 28), .ref (a 29), .ref (a 30), .ref (a 31), .ref (a 32), .ref (a 33), .ref (a 34), .int 0, .int 0, .int 0, .ref (a 38), .ref (a 39), .ref (a 40), .ref (a 41), .int 0, .int 0, .int 0, .int 0, .int 0, .int 0, .int 0, .int 0, .int 0, .int 0, .int 0, .int 0, .int 0, .int 0, .ref (a 56), .ref (a 57), .ref (a 58), .ref (a 59), .int 0, .int 0, .int 0, .int 0, .int 0, .int 0, .int 0, .ref (a 67), .ref (a 68), .ref (a 69), .int 0, .ref (a 71), .int 0, .int 0, .int 0, .int 0, .int 0, .int 0, .int 0, .int 0, .int 0, .int 0, .int 0, .int 0, .int 0, .int 0, .int 0, .int 0, .ref (a 88), .ref (a 89), .ref (a 90), .ref (a 91), .ref (a 92), .ref (a 93), .ref (a 94), .ref (a 95), .int 0])), (a 0, .inl (eI v, 4000, .inl (fun _ => 0))), (a 1, .inl (eI v, 4000, .inl (fun _ => 0))), (a 4, .inl (eI v, 4002, .inl (fun _ => 0))), (a 5, .inl (eI v, 4002, .inl (fun _ => 0))), (a 6, .inl (eI v, 4002, .inl (fun _ => 0))), (a 9, .inl (eI v, 2100, .inl (fun _ => 0))), (a 10, .inl (eI v, 2100, .inl (fun _ => 0))), (a 11, .inl (eI v, 2100, .inl (fun _ => 0))), (a 12, .inl (eI v, 64, .inl (fun _ => 0))), (a 16, .inl (eI v, 900, .inl (fun _ => 0))), (a 17, .inl (eI v, 900, .inl (fun _ => 0))), (a 18, .inl (eI v, 900, .inl (fun _ => 0))), (a 19, .inl (eI v, 900, .inl (fun _ => 0))), (a 20, .inl (eI v, 900, .inl (fun _ => 0))), (a 21, .inl (eI v, 900, .inl (fun _ => 0))), (a 22, .inl (eZ v, 900, .inl (fun _ => 0))), (a 23, .inl (eZ v, 900, .inl (fun _ => 0))), (a 25, .inl (eI v, 500, .inl (fun _ => 0))), (a 26, .inl (eI v, 500, .inl (fun _ => 0))), (a 27, .inl (eI v, 500, .inl (fun _ => 0))), (a 28, .inl (eI v, 500, .inl (fun _ => 0))), (a 29, .inl (eI v, 500, .inl (fun _ => 0))), (a 30, .inl (eI v, 500, .inl (fun _ => 0))), (a 31, .inl (eI v, 500, .inl (fun _ => 0))), (a 32, .inl (eI v, 500, .inl (fun _ => 0))), (a 33, .inl (eZ v, 500, .inl (fun _ => 0))), (a 34, .inl (eI v, 900, .inl (fun _ => 0))), (a 38, .inl (eI v, 2001, .inl (fun _ => 0))), (a 39, .inl (eI v, 2001, .inl (fun _ => 0))), (a 40, .inl (eZ v, 2001, .inl (fun _ => 0))), (a 41, .inl (eI v, 8008, .inl (fun _ => 0))), (a 56, .inl (eI v, 9000, .inl (fun _ => 0))), (a 57, .inl (eI v, 9000, .inl (fun _ => 0))), (a 58, .inl (eI v, 9000, .inl (fun _ => 0))), (a 59, .inl (eI v, 9000, .inl (fun _ => 0))), (a 67, .inl (eI v, 600, .inl (fun _ => 0))), (a 68, .inl (eI v, 600, .inl (fun _ => 0))), (a 69, .inl (eI v, 600, .inl (fun _ => 0))), (a 71, .inl (eI v, 280000, .inl (fun _ => 0))), (a 88, .inl (eI v, 500, .inl (fun _ => 0))), (a 89, .inl (eI v, 2000, .inl (fun _ => 0))), (a 90, .inl (eI v, 20000, .inl (fun _ => 0))), (a 91, .inl (eI v, 520, .inl (fun _ => 0))), (a 92, .inl (eI v, 520, .inl (fun _ => 0))), (a 93, .inl (eI v, 520, .inl (fun _ => 0))), (a 94, .inl (eI v, 4096, .inl (fun _ => 0))), (a 95, .inl (eI v, 33, .inl (fun _ => 0)))] := rfl
set_option maxHeartbeats 4000000 in
set_option maxRecDepth 100000 in
theorem start_w {dC : Nat → ClassId} {dI : Nat → Nat → Nat} {cI cB cZ : ClassId} {kK kV : Nat → Nat} {A : Nat → Prop} {H : Heap} {q_1 q_4 q_5 q_6 q_7 q_8 q_9 q_10 q_11 q_12 q_13 q_14 q_15 q_16 q_17 q_18 q_19 q_20 q_21 q_22 q_23 q_24 q_25 q_26 q_27 q_28 q_29 q_30 q_31 q_32 q_33 q_34 q_35 q_36 q_37 q_38 q_39 q_40 q_41 q_42 q_43 q_44 q_45 q_46 q_47 q_48 q_51 q_52 q_53 q_54 q_55 q_56 q_57 q_58 q_59 q_60 q_61 q_62 q_63 q_64 q_65 q_66 q_67 q_68 q_69 q_70 q_71 q_72 q_73 q_74 q_75 q_76 q_77 q_78 q_79 q_80 q_81 q_82 q_83 q_84 q_85 q_86 q_87 q_88 q_89 q_90 q_91 q_92 q_93 q_94 q_95 q_96 q_97 : Nat} (hP : va_P (dC, dI) vwCl [(q_1, .inr (11, [.ref q_6, .ref q_8, .ref q_16, .ref q_26, .ref q_29, .ref q_44, .ref q_45])), (q_4, .inr (1, [.ref q_5, .int 0, .int 0])), (q_5, .inl (cI, 8400, .inl (fun _ => 0))), (q_6, .inr (9, [.ref q_7, .int 0])), (q_7, .inl (cB, 4000, .inl (fun _ => 0))), (q_8, .inr (10, [.ref q_6, .ref q_9, .ref q_10, .ref q_11, .int 0, .ref q_12, .ref q_13, .ref q_14, .ref q_15, .int 0])), (q_9, .inl (cI, 4001, .inl (fun _ => 0))), (q_10, .inl (cI, 4001, .inl (fun _ => 0))), (q_11, .inl (cI, 4001, .inl (fun _ => 0))), (q_12, .inl (cI, 1024, .inl (fun _ => 0))), (q_13, .inl (cI, 1408, .inl (fun _ => 0))), (q_14, .inl (cI, 1408, .inl (fun _ => 0))), (q_15, .inl (cI, 1408, .inl (fun _ => 0))), (q_16, .inr (8, [.int 0, .int 0, .int 0, .int 0, .ref q_17, .ref q_18, .ref q_19, .ref q_20, .ref q_21, .ref q_22, .ref q_23, .ref q_24, .int 0, .ref q_25])), (q_17, .inl (cI, 450, .inl (fun _ => 0))), (q_18, .inl (cI, 450, .inl (fun _ => 0))), (q_19, .inl (cI, 450, .inl (fun _ => 0))), (q_20, .inl (cI, 450, .inl (fun _ => 0))), (q_21, .inl (cI, 450, .inl (fun _ => 0))), (q_22, .inl (cI, 450, .inl (fun _ => 0))), (q_23, .inl (cI, 450, .inl (fun _ => 0))), (q_24, .inl (cI, 700, .inl (fun _ => 0))), (q_25, .inl (cI, 2000, .inl (fun _ => 0))), (q_26, .inr (7, [.ref q_27, .int 0, .int 0, .ref q_28, .int 0])), (q_27, .inl (cI, 500, .inl (fun _ => 0))), (q_28, .inl (cI, 2000, .inl (fun _ => 0))), (q_29, .inr (6, [.ref q_4, .ref q_16, .ref q_26, .ref q_30, .ref q_31, .int 0, .int 0, .int 0, .int 2000, .int 0, .int 0, .int 0, .int 0, .int 0, .int 0, .int (-1), .int 0])), (q_30, .inl (cI, 4000, .inl (fun _ => 0))), (q_31, .inl (cI, 1024, .inl (fun _ => 0))), (q_32, .inr (2, [.ref q_8, .int 0, .int 0, .int 0, .int 0, .int 0, .int 0])), (q_33, .inr (5, [.ref q_16, .ref q_34, .ref q_35, .ref q_36, .ref q_37, .ref q_38, .ref q_39, .ref q_40, .ref q_41, .int 0, .int 0, .int 0, .int 0, .int 0, .int 0, .int 0, .int 0, .int 0, .int 0])), (q_34, .inl (cI, 700, .inl (fun _ => 0))), (q_35, .inl (cI, 700, .inl (fun _ => 0))), (q_36, .inl (cI, 700, .inl (fun _ => 0))), (q_37, .inl (cI, 700, .inl (fun _ => 0))), (q_38, .inl (cI, 700, .inl (fun _ => 0))), (q_39, .inl (cI, 700, .inl (fun _ => 0))), (q_40, .inl (cI, 700, .inl (fun _ => 0))), (q_41, .inl (cI, 1408, .inl (fun _ => 0))), (q_42, .inr (3, [.ref q_32, .ref q_33, .ref q_4, .ref q_16, .ref q_29, .ref q_43, .int 0])), (q_43, .inl (cI, 4001, .inl (fun _ => 0))), (q_44, .inr (4, [.ref q_32, .ref q_33, .ref q_4, .ref q_16, .ref q_42, .int 0, .int 0, .int 0, .int 0, .int 0])), (q_45, .inr (0, [.ref q_46, .ref q_47, .int 0, .int 0, .int 0])), (q_46, .inl (cI, 4096, .inl (fun _ => 0))), (q_47, .inl (cI, 32, .inl (fun _ => 0))), (q_48, .inr (12, [.ref q_51, .ref q_52, .int 0, .int 0, .ref q_53, .ref q_54, .ref q_55, .int 0, .int 0, .ref q_56, .ref q_57, .ref q_58, .ref q_59, .int 0, .int 0, .int 0, .ref q_60, .ref q_61, .ref q_62, .ref q_63, .ref q_64, .ref q_65, .ref q_66, .ref q_67, .int 0, .ref q_68, .ref q_69, .ref q_70, .ref q_71, .ref q_72, .ref q_73, .ref q_74, .ref q_75, .ref q_76, .ref q_77, .int 0, .int 0, .int 0, .ref q_78, .ref q_79, .ref q_80, .ref q_81, .int 0, .int 0, .int 0, .int 0, .int 0, .int 0, .int 0, .int 0, .int 0, .int 0, .int 0, .int 0, .int 0, .int 0, .ref q_82, .ref q_83, .ref q_84, .ref q_85, .int 0, .int 0, .int 0, .int 0, .int 0, .int 0, .int 0, .ref q_86, .ref q_87, .ref q_88, .int 0, .ref q_89, .int 0, .int 0, .int 0, .int 0, .int 0, .int 0, .int 0, .int 0, .int 0, .int 0, .int 0, .int 0, .int 0, .int 0, .int 0, .int 0, .ref q_90, .ref q_91, .ref q_92, .ref q_93, .ref q_94, .ref q_95, .ref q_96, .ref q_97, .int 0])), (q_51, .inl (cI, 4000, .inl (fun _ => 0))), (q_52, .inl (cI, 4000, .inl (fun _ => 0))), (q_53, .inl (cI, 4002, .inl (fun _ => 0))), (q_54, .inl (cI, 4002, .inl (fun _ => 0))), (q_55, .inl (cI, 4002, .inl (fun _ => 0))), (q_56, .inl (cI, 2100, .inl (fun _ => 0))), (q_57, .inl (cI, 2100, .inl (fun _ => 0))), (q_58, .inl (cI, 2100, .inl (fun _ => 0))), (q_59, .inl (cI, 64, .inl (fun _ => 0))), (q_60, .inl (cI, 900, .inl (fun _ => 0))), (q_61, .inl (cI, 900, .inl (fun _ => 0))), (q_62, .inl (cI, 900, .inl (fun _ => 0))), (q_63, .inl (cI, 900, .inl (fun _ => 0))), (q_64, .inl (cI, 900, .inl (fun _ => 0))), (q_65, .inl (cI, 900, .inl (fun _ => 0))), (q_66, .inl (cZ, 900, .inl (fun _ => 0))), (q_67, .inl (cZ, 900, .inl (fun _ => 0))), (q_68, .inl (cI, 500, .inl (fun _ => 0))), (q_69, .inl (cI, 500, .inl (fun _ => 0))), (q_70, .inl (cI, 500, .inl (fun _ => 0))), (q_71, .inl (cI, 500, .inl (fun _ => 0))), (q_72, .inl (cI, 500, .inl (fun _ => 0))), (q_73, .inl (cI, 500, .inl (fun _ => 0))), (q_74, .inl (cI, 500, .inl (fun _ => 0))), (q_75, .inl (cI, 500, .inl (fun _ => 0))), (q_76, .inl (cZ, 500, .inl (fun _ => 0))), (q_77, .inl (cI, 900, .inl (fun _ => 0))), (q_78, .inl (cI, 2001, .inl (fun _ => 0))), (q_79, .inl (cI, 2001, .inl (fun _ => 0))), (q_80, .inl (cZ, 2001, .inl (fun _ => 0))), (q_81, .inl (cI, 8008, .inl (fun _ => 0))), (q_82, .inl (cI, 9000, .inl (fun _ => 0))), (q_83, .inl (cI, 9000, .inl (fun _ => 0))), (q_84, .inl (cI, 9000, .inl (fun _ => 0))), (q_85, .inl (cI, 9000, .inl (fun _ => 0))), (q_86, .inl (cI, 600, .inl (fun _ => 0))), (q_87, .inl (cI, 600, .inl (fun _ => 0))), (q_88, .inl (cI, 600, .inl (fun _ => 0))), (q_89, .inl (cI, 280000, .inl (fun _ => 0))), (q_90, .inl (cI, 500, .inl (fun _ => 0))), (q_91, .inl (cI, 2000, .inl (fun _ => 0))), (q_92, .inl (cI, 20000, .inl (fun _ => 0))), (q_93, .inl (cI, 520, .inl (fun _ => 0))), (q_94, .inl (cI, 520, .inl (fun _ => 0))), (q_95, .inl (cI, 520, .inl (fun _ => 0))), (q_96, .inl (cI, 4096, .inl (fun _ => 0))), (q_97, .inl (cI, 33, .inl (fun _ => 0)))] H) (hD : va_D A [(q_1, .inr (11, [.ref q_6, .ref q_8, .ref q_16, .ref q_26, .ref q_29, .ref q_44, .ref q_45])), (q_4, .inr (1, [.ref q_5, .int 0, .int 0])), (q_5, .inl (cI, 8400, .inl (fun _ => 0))), (q_6, .inr (9, [.ref q_7, .int 0])), (q_7, .inl (cB, 4000, .inl (fun _ => 0))), (q_8, .inr (10, [.ref q_6, .ref q_9, .ref q_10, .ref q_11, .int 0, .ref q_12, .ref q_13, .ref q_14, .ref q_15, .int 0])), (q_9, .inl (cI, 4001, .inl (fun _ => 0))), (q_10, .inl (cI, 4001, .inl (fun _ => 0))), (q_11, .inl (cI, 4001, .inl (fun _ => 0))), (q_12, .inl (cI, 1024, .inl (fun _ => 0))), (q_13, .inl (cI, 1408, .inl (fun _ => 0))), (q_14, .inl (cI, 1408, .inl (fun _ => 0))), (q_15, .inl (cI, 1408, .inl (fun _ => 0))), (q_16, .inr (8, [.int 0, .int 0, .int 0, .int 0, .ref q_17, .ref q_18, .ref q_19, .ref q_20, .ref q_21, .ref q_22, .ref q_23, .ref q_24, .int 0, .ref q_25])), (q_17, .inl (cI, 450, .inl (fun _ => 0))), (q_18, .inl (cI, 450, .inl (fun _ => 0))), (q_19, .inl (cI, 450, .inl (fun _ => 0))), (q_20, .inl (cI, 450, .inl (fun _ => 0))), (q_21, .inl (cI, 450, .inl (fun _ => 0))), (q_22, .inl (cI, 450, .inl (fun _ => 0))), (q_23, .inl (cI, 450, .inl (fun _ => 0))), (q_24, .inl (cI, 700, .inl (fun _ => 0))), (q_25, .inl (cI, 2000, .inl (fun _ => 0))), (q_26, .inr (7, [.ref q_27, .int 0, .int 0, .ref q_28, .int 0])), (q_27, .inl (cI, 500, .inl (fun _ => 0))), (q_28, .inl (cI, 2000, .inl (fun _ => 0))), (q_29, .inr (6, [.ref q_4, .ref q_16, .ref q_26, .ref q_30, .ref q_31, .int 0, .int 0, .int 0, .int 2000, .int 0, .int 0, .int 0, .int 0, .int 0, .int 0, .int (-1), .int 0])), (q_30, .inl (cI, 4000, .inl (fun _ => 0))), (q_31, .inl (cI, 1024, .inl (fun _ => 0))), (q_32, .inr (2, [.ref q_8, .int 0, .int 0, .int 0, .int 0, .int 0, .int 0])), (q_33, .inr (5, [.ref q_16, .ref q_34, .ref q_35, .ref q_36, .ref q_37, .ref q_38, .ref q_39, .ref q_40, .ref q_41, .int 0, .int 0, .int 0, .int 0, .int 0, .int 0, .int 0, .int 0, .int 0, .int 0])), (q_34, .inl (cI, 700, .inl (fun _ => 0))), (q_35, .inl (cI, 700, .inl (fun _ => 0))), (q_36, .inl (cI, 700, .inl (fun _ => 0))), (q_37, .inl (cI, 700, .inl (fun _ => 0))), (q_38, .inl (cI, 700, .inl (fun _ => 0))), (q_39, .inl (cI, 700, .inl (fun _ => 0))), (q_40, .inl (cI, 700, .inl (fun _ => 0))), (q_41, .inl (cI, 1408, .inl (fun _ => 0))), (q_42, .inr (3, [.ref q_32, .ref q_33, .ref q_4, .ref q_16, .ref q_29, .ref q_43, .int 0])), (q_43, .inl (cI, 4001, .inl (fun _ => 0))), (q_44, .inr (4, [.ref q_32, .ref q_33, .ref q_4, .ref q_16, .ref q_42, .int 0, .int 0, .int 0, .int 0, .int 0])), (q_45, .inr (0, [.ref q_46, .ref q_47, .int 0, .int 0, .int 0])), (q_46, .inl (cI, 4096, .inl (fun _ => 0))), (q_47, .inl (cI, 32, .inl (fun _ => 0))), (q_48, .inr (12, [.ref q_51, .ref q_52, .int 0, .int 0, .ref q_53, .ref q_54, .ref q_55, .int 0, .int 0, .ref q_56, .ref q_57, .ref q_58, .ref q_59, .int 0, .int 0, .int 0, .ref q_60, .ref q_61, .ref q_62, .ref q_63, .ref q_64, .ref q_65, .ref q_66, .ref q_67, .int 0, .ref q_68, .ref q_69, .ref q_70, .ref q_71, .ref q_72, .ref q_73, .ref q_74, .ref q_75, .ref q_76, .ref q_77, .int 0, .int 0, .int 0, .ref q_78, .ref q_79, .ref q_80, .ref q_81, .int 0, .int 0, .int 0, .int 0, .int 0, .int 0, .int 0, .int 0, .int 0, .int 0, .int 0, .int 0, .int 0, .int 0, .ref q_82, .ref q_83, .ref q_84, .ref q_85, .int 0, .int 0, .int 0, .int 0, .int 0, .int 0, .int 0, .ref q_86, .ref q_87, .ref q_88, .int 0, .ref q_89, .int 0, .int 0, .int 0, .int 0, .int 0, .int 0, .int 0, .int 0, .int 0, .int 0, .int 0, .int 0, .int 0, .int 0, .int 0, .int 0, .ref q_90, .ref q_91, .ref q_92, .ref q_93, .ref q_94, .ref q_95, .ref q_96, .ref q_97, .int 0])), (q_51, .inl (cI, 4000, .inl (fun _ => 0))), (q_52, .inl (cI, 4000, .inl (fun _ => 0))), (q_53, .inl (cI, 4002, .inl (fun _ => 0))), (q_54, .inl (cI, 4002, .inl (fun _ => 0))), (q_55, .inl (cI, 4002, .inl (fun _ => 0))), (q_56, .inl (cI, 2100, .inl (fun _ => 0))), (q_57, .inl (cI, 2100, .inl (fun _ => 0))), (q_58, .inl (cI, 2100, .inl (fun _ => 0))), (q_59, .inl (cI, 64, .inl (fun _ => 0))), (q_60, .inl (cI, 900, .inl (fun _ => 0))), (q_61, .inl (cI, 900, .inl (fun _ => 0))), (q_62, .inl (cI, 900, .inl (fun _ => 0))), (q_63, .inl (cI, 900, .inl (fun _ => 0))), (q_64, .inl (cI, 900, .inl (fun _ => 0))), (q_65, .inl (cI, 900, .inl (fun _ => 0))), (q_66, .inl (cZ, 900, .inl (fun _ => 0))), (q_67, .inl (cZ, 900, .inl (fun _ => 0))), (q_68, .inl (cI, 500, .inl (fun _ => 0))), (q_69, .inl (cI, 500, .inl (fun _ => 0))), (q_70, .inl (cI, 500, .inl (fun _ => 0))), (q_71, .inl (cI, 500, .inl (fun _ => 0))), (q_72, .inl (cI, 500, .inl (fun _ => 0))), (q_73, .inl (cI, 500, .inl (fun _ => 0))), (q_74, .inl (cI, 500, .inl (fun _ => 0))), (q_75, .inl (cI, 500, .inl (fun _ => 0))), (q_76, .inl (cZ, 500, .inl (fun _ => 0))), (q_77, .inl (cI, 900, .inl (fun _ => 0))), (q_78, .inl (cI, 2001, .inl (fun _ => 0))), (q_79, .inl (cI, 2001, .inl (fun _ => 0))), (q_80, .inl (cZ, 2001, .inl (fun _ => 0))), (q_81, .inl (cI, 8008, .inl (fun _ => 0))), (q_82, .inl (cI, 9000, .inl (fun _ => 0))), (q_83, .inl (cI, 9000, .inl (fun _ => 0))), (q_84, .inl (cI, 9000, .inl (fun _ => 0))), (q_85, .inl (cI, 9000, .inl (fun _ => 0))), (q_86, .inl (cI, 600, .inl (fun _ => 0))), (q_87, .inl (cI, 600, .inl (fun _ => 0))), (q_88, .inl (cI, 600, .inl (fun _ => 0))), (q_89, .inl (cI, 280000, .inl (fun _ => 0))), (q_90, .inl (cI, 500, .inl (fun _ => 0))), (q_91, .inl (cI, 2000, .inl (fun _ => 0))), (q_92, .inl (cI, 20000, .inl (fun _ => 0))), (q_93, .inl (cI, 520, .inl (fun _ => 0))), (q_94, .inl (cI, 520, .inl (fun _ => 0))), (q_95, .inl (cI, 520, .inl (fun _ => 0))), (q_96, .inl (cI, 4096, .inl (fun _ => 0))), (q_97, .inl (cI, 33, .inl (fun _ => 0)))]) : ∃ ac am : Nat → Nat, ac 211 = q_1 ∧ am 212 = q_48 ∧ va_P (eD (dC, dI, cI, cB, cZ, kK, kV)) vwCl (cW (dC, dI, cI, cB, cZ, kK, kV) ac q_31 c0F (fun _ _ => 0) ++ mW (dC, dI, cI, cB, cZ, kK, kV) am (fun _ => 0) (fun _ _ => 0)) H ∧ va_D A (cW (dC, dI, cI, cB, cZ, kK, kV) ac q_31 c0F (fun _ _ => 0) ++ mW (dC, dI, cI, cB, cZ, kK, kV) am (fun _ => 0) (fun _ _ => 0)) := by
  obtain ⟨ac, e0, e1, e5, e20, e33, e34, e35, e36, e37, e38, e39, e40, e54, e68, e71, e77, e78, e79, e80, e81, e82, e83, e84, e86, e87, e90, e91, e92, e94, e95, e96, e97, e200, e201, e202, e203, e204, e205, e206, e207, e208, e209, e210, e211⟩ : ∃ ac : Nat → Nat, ac 0 = q_46 ∧ ac 1 = q_47 ∧ ac 5 = q_5 ∧ ac 20 = q_43 ∧ ac 33 = q_34 ∧ ac 34 = q_35 ∧ ac 35 = q_36 ∧ ac 36 = q_37 ∧ ac 37 = q_38 ∧ ac 38 = q_39 ∧ ac 39 = q_40 ∧ ac 40 = q_41 ∧ ac 54 = q_30 ∧ ac 68 = q_27 ∧ ac 71 = q_28 ∧ ac 77 = q_17 ∧ ac 78 = q_18 ∧ ac 79 = q_19 ∧ ac 80 = q_20 ∧ ac 81 = q_21 ∧ ac 82 = q_22 ∧ ac 83 = q_23 ∧ ac 84 = q_24 ∧ ac 86 = q_25 ∧ ac 87 = q_7 ∧ ac 90 = q_9 ∧ ac 91 = q_10 ∧ ac 92 = q_11 ∧ ac 94 = q_12 ∧ ac 95 = q_13 ∧ ac 96 = q_14 ∧ ac 97 = q_15 ∧ ac 200 = q_45 ∧ ac 201 = q_4 ∧ ac 202 = q_32 ∧ ac 203 = q_42 ∧ ac 204 = q_44 ∧ ac 205 = q_33 ∧ ac 206 = q_29 ∧ ac 207 = q_26 ∧ ac 208 = q_16 ∧ ac 209 = q_6 ∧ ac 210 = q_8 ∧ ac 211 = q_1 := ⟨fun k => if k = 0 then q_46 else if k = 1 then q_47 else if k = 5 then q_5 else if k = 20 then q_43 else if k = 33 then q_34 else if k = 34 then q_35 else if k = 35 then q_36 else if k = 36 then q_37 else if k = 37 then q_38 else if k = 38 then q_39 else if k = 39 then q_40 else if k = 40 then q_41 else if k = 54 then q_30 else if k = 68 then q_27 else if k = 71 then q_28 else if k = 77 then q_17 else if k = 78 then q_18 else if k = 79 then q_19 else if k = 80 then q_20 else if k = 81 then q_21 else if k = 82 then q_22 else if k = 83 then q_23 else if k = 84 then q_24 else if k = 86 then q_25 else if k = 87 then q_7 else if k = 90 then q_9 else if k = 91 then q_10 else if k = 92 then q_11 else if k = 94 then q_12 else if k = 95 then q_13 else if k = 96 then q_14 else if k = 97 then q_15 else if k = 200 then q_45 else if k = 201 then q_4 else if k = 202 then q_32 else if k = 203 then q_42 else if k = 204 then q_44 else if k = 205 then q_33 else if k = 206 then q_29 else if k = 207 then q_26 else if k = 208 then q_16 else if k = 209 then q_6 else if k = 210 then q_8 else if k = 211 then q_1 else 0, rfl, rfl, rfl, rfl, rfl, rfl, rfl, rfl, rfl, rfl, rfl, rfl, rfl, rfl, rfl, rfl, rfl, rfl, rfl, rfl, rfl, rfl, rfl, rfl, rfl, rfl, rfl, rfl, rfl, rfl, rfl, rfl, rfl, rfl, rfl, rfl, rfl, rfl, rfl, rfl, rfl, rfl, rfl, rfl⟩
  obtain ⟨am, g0, g1, g4, g5, g6, g9, g10, g11, g12, g16, g17, g18, g19, g20, g21, g22, g23, g25, g26, g27, g28, g29, g30, g31, g32, g33, g34, g38, g39, g40, g41, g56, g57, g58, g59, g67, g68, g69, g71, g88, g89, g90, g91, g92, g93, g94, g95, g212⟩ : ∃ am : Nat → Nat, am 0 = q_51 ∧ am 1 = q_52 ∧ am 4 = q_53 ∧ am 5 = q_54 ∧ am 6 = q_55 ∧ am 9 = q_56 ∧ am 10 = q_57 ∧ am 11 = q_58 ∧ am 12 = q_59 ∧ am 16 = q_60 ∧ am 17 = q_61 ∧ am 18 = q_62 ∧ am 19 = q_63 ∧ am 20 = q_64 ∧ am 21 = q_65 ∧ am 22 = q_66 ∧ am 23 = q_67 ∧ am 25 = q_68 ∧ am 26 = q_69 ∧ am 27 = q_70 ∧ am 28 = q_71 ∧ am 29 = q_72 ∧ am 30 = q_73 ∧ am 31 = q_74 ∧ am 32 = q_75 ∧ am 33 = q_76 ∧ am 34 = q_77 ∧ am 38 = q_78 ∧ am 39 = q_79 ∧ am 40 = q_80 ∧ am 41 = q_81 ∧ am 56 = q_82 ∧ am 57 = q_83 ∧ am 58 = q_84 ∧ am 59 = q_85 ∧ am 67 = q_86 ∧ am 68 = q_87 ∧ am 69 = q_88 ∧ am 71 = q_89 ∧ am 88 = q_90 ∧ am 89 = q_91 ∧ am 90 = q_92 ∧ am 91 = q_93 ∧ am 92 = q_94 ∧ am 93 = q_95 ∧ am 94 = q_96 ∧ am 95 = q_97 ∧ am 212 = q_48 := ⟨fun k => if k = 0 then q_51 else if k = 1 then q_52 else if k = 4 then q_53 else if k = 5 then q_54 else if k = 6 then q_55 else if k = 9 then q_56 else if k = 10 then q_57 else if k = 11 then q_58 else if k = 12 then q_59 else if k = 16 then q_60 else if k = 17 then q_61 else if k = 18 then q_62 else if k = 19 then q_63 else if k = 20 then q_64 else if k = 21 then q_65 else if k = 22 then q_66 else if k = 23 then q_67 else if k = 25 then q_68 else if k = 26 then q_69 else if k = 27 then q_70 else if k = 28 then q_71 else if k = 29 then q_72 else if k = 30 then q_73 else if k = 31 then q_74 else if k = 32 then q_75 else if k = 33 then q_76 else if k = 34 then q_77 else if k = 38 then q_78 else if k = 39 then q_79 else if k = 40 then q_80 else if k = 41 then q_81 else if k = 56 then q_82 else if k = 57 then q_83 else if k = 58 then q_84 else if k = 59 then q_85 else if k = 67 then q_86 else if k = 68 then q_87 else if k = 69 then q_88 else if k = 71 then q_89 else if k = 88 then q_90 else if k = 89 then q_91 else if k = 90 then q_92 else if k = 91 then q_93 else if k = 92 then q_94 else if k = 93 then q_95 else if k = 94 then q_96 else if k = 95 then q_97 else if k = 212 then q_48 else 0, rfl, rfl, rfl, rfl, rfl, rfl, rfl, rfl, rfl, rfl, rfl, rfl, rfl, rfl, rfl, rfl, rfl, rfl, rfl, rfl, rfl, rfl, rfl, rfl, rfl, rfl, rfl, rfl, rfl, rfl, rfl, rfl, rfl, rfl, rfl, rfl, rfl, rfl, rfl, rfl, rfl, rfl, rfl, rfl, rfl, rfl, rfl, rfl⟩
  refine ⟨ac, am, e211, g212, ?_⟩
  rw [cW_0, mW_0, e0, e1, e5, e20, e33, e34, e35, e36, e37, e38, e39, e40, e54, e68, e71, e77, e78, e79, e80, e81, e82, e83, e84, e86, e87, e90, e91, e92, e94, e95, e96, e97, e200, e201, e202, e203, e204, e205, e206, e207, e208, e209, e210, e211, g0, g1, g4, g5, g6, g9, g10, g11, g12, g16, g17, g18, g19, g20, g21, g22, g23, g25, g26, g27, g28, g29, g30, g31, g32, g33, g34, g38, g39, g40, g41, g56, g57, g58, g59, g67, g68, g69, g71, g88, g89, g90, g91, g92, g93, g94, g95, g212]
  exact ⟨hP.sub [42, 1, 29, 39, 41, 30, 26, 23, 13, 3, 5, 0, 43, 44, 2, 40, 31, 32, 33, 34, 35, 36, 37, 38, 27, 28, 24, 25, 14, 15, 16, 17, 18, 19, 20, 21, 22, 4, 6, 7, 8, 9, 10, 11, 12, 45, 46, 47, 48, 49, 50, 51, 52, 53, 54, 55, 56, 57, 58, 59, 60, 61, 62, 63, 64, 65, 66, 67, 68, 69, 70, 71, 72, 73, 74, 75, 76, 77, 78, 79, 80, 81, 82, 83, 84, 85, 86, 87, 88, 89, 90, 91, 92] rfl, hD.sub [42, 1, 29, 39, 41, 30, 26, 23, 13, 3, 5, 0, 43, 44, 2, 40, 31, 32, 33, 34, 35, 36, 37, 38, 27, 28, 24, 25, 14, 15, 16, 17, 18, 19, 20, 21, 22, 4, 6, 7, 8, 9, 10, 11, 12, 45, 46, 47, 48, 49, 50, 51, 52, 53, 54, 55, 56, 57, 58, 59, 60, 61, 62, 63, 64, 65, 66, 67, 68, 69, 70, 71, 72, 73, 74, 75, 76, 77, 78, 79, 80, 81, 82, 83, 84, 85, 86, 87, 88, 89, 90, 91, 92] (by decide) rfl⟩
