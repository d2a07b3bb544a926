theorem JP.LL {a b : PR} {f g : Int32 × PF × PG → PR} {V : Int32 → PF → PG → Prop} {Q : Int32 → PF → PG → Int32 → PF → PG → Prop} (h : PP a V) (k : ∀ (r : Int32) (F : PF) (G : PG), V r F G → JP ((g (r, F, G)).bind f) b Q) : JP ((a.bind g).bind f) b Q := by
  rw [Option.bind_assoc]
  exact JP.L h k
theorem JP.ixLL {i : Int32} {n : Nat} {A b : PR} {f : Int32 × PF × PG → PR} {Q : Int32 → PF → PG → Int32 → PF → PG → Prop} (k : vp_in i n → JP (A.bind f) b Q) : JP ((if ixb i n = true then A else none).bind f) b Q := by
  intro s1 E1 H1 s2 E2 H2 e1 e2
  obtain ⟨q, e3, e4⟩ := bind_elim e1
  obtain ⟨h, e3⟩ := ix_elim e3
  refine k h s1 E1 H1 s2 E2 H2 ?_ e2
  rw [e3]
  exact e4
theorem jRm.rs {m : Int} {F : PF} {x : Int32} (h : jRm m F) : jRm m (fup F 21 x) := by
  unfold jRm at h ⊢
  rw [fup_n (show (7 : Nat) ≠ 21 by decide), fup_n (show (6 : Nat) ≠ 21 by decide)]
  exact h
theorem EMC.rs {ws : List Int32} {F F1 : PF} {G G1 : PG} {x y : Int32} (h : EMC ws (fup F 21 x) G F1 G1) : EMC ws (fup F 21 y) G (fup F1 21 y) G1 := by
  obtain ⟨h1, h2, h3⟩ := h
  have e7 : ∀ z : Int32, fup F 21 z 7 = F 7 := fun z => fup_n (by decide)
  have e6 : ∀ z : Int32, fup F 21 z 6 = F 6 := fun z => fup_n (by decide)
  have k6 : ∀ z : Int32, fup F1 21 z 6 = F1 6 := fun z => fup_n (by decide)
  have ew : ∀ z : Int32, wN (fup F 21 z) = wN F := fun z => by show (fup F 21 z 6).toNatClampNeg = _; rw [e6]
  rw [e7, e6] at h2
  rw [e7, e6, ew] at h3
  refine ⟨⟨fun k hk => ?_, h1.2⟩, ?_, ?_⟩
  · by_cases c : k = 21
    · rw [c, fup_s, fup_s]
    · rw [fup_n c, fup_n c, h1.1 k hk, fup_n c]
  · rw [e7, e6, k6]
    exact h2
  · rw [e7, e6, k6, ew]
    exact h3
theorem EMM.rs {w a b : Int32} {F F1 : PF} {G G1 : PG} {x y : Int32} (h : EMM w a b (fup F 70 x) G F1 G1) : EMM w a b (fup F 70 y) G (fup F1 70 y) G1 := by
  obtain ⟨h1, h2, h3⟩ := h
  have e6 : ∀ z : Int32, fup F 70 z 60 = F 60 := fun z => fup_n (by decide)
  have k6 : ∀ z : Int32, fup F1 70 z 60 = F1 60 := fun z => fup_n (by decide)
  have ew : ∀ z : Int32, sN (fup F 70 z) = sN F := fun z => by show (fup F 70 z 60).toNatClampNeg = _; rw [e6]
  rw [e6] at h2
  rw [ew] at h3
  refine ⟨⟨fun k hk => ?_, h1.2⟩, ?_, ?_⟩
  · by_cases c : k = 70
    · rw [c, fup_s, fup_s]
    · rw [fup_n c, fup_n c, h1.1 k hk, fup_n c]
  · rw [e6, k6]
    exact h2
  · rw [ew]
    exact h3
section JE18
variable {fu : Nat} {b : PR} {f : Int32 × PF × PG → PR} {Q : Int32 → PF → PG → Int32 → PF → PG → Prop} {x1 x2 x3 : Int32} {F : PF} {G : PG}
theorem sl_stop {m : Nat} (h : (F 21).toInt ≤ x1.toInt) (k : JP (f (0, F, G)) b Q) : JP ((cl_X3_settle_2 fu m x1 x2 x3 F G).bind f) b Q := by
  cases m with
  | zero => exact (JP.noL : JP none b Q)
  | succ m =>
    show JP ((cb_X3_settle_2 fu (cl_X3_settle_2 fu m) x1 x2 x3 F G).bind f) b Q
    unfold cb_X3_settle_2
    by_cases c : (4001 : Int32) ≤ x3
    · rw [if_pos c]
      exact k
    · rw [if_neg c]
      unfold cb_X3_settle_9
      rw [if_pos (show F 21 ≤ x1 from i_le.mpr h)]
      exact k
theorem sl_weak {m : Nat} (h0 : x1.toInt < (F 21).toInt) (h1 : 0 < (F 21).toInt) (hs : (jSt (G 20 (F 21 - 1).toNatClampNeg)).toInt < x2.toInt) (k : JP (f (0, F, G)) b Q) : JP ((cl_X3_settle_2 fu m x1 x2 x3 F G).bind f) b Q := by
  have l0 : (0 : Int32).toInt = 0 := rfl
  cases m with
  | zero => exact (JP.noL : JP none b Q)
  | succ m =>
    show JP ((cb_X3_settle_2 fu (cl_X3_settle_2 fu m) x1 x2 x3 F G).bind f) b Q
    unfold cb_X3_settle_2
    by_cases c : (4001 : Int32) ≤ x3
    · rw [if_pos c]
      exact k
    · rw [if_neg c]
      unfold cb_X3_settle_9
      rw [if_neg (show ¬ F 21 ≤ x1 from fun z => absurd (i_le.mp z) (by omega))]
      unfold cb_X3_settle_17
      rw [if_neg (show ¬ F 21 ≤ 0 from fun z => absurd (i_le.mp z) (by omega))]
      unfold cb_X3_settle_24
      refine JP.ixLL (fun _ => JP.LL (cp_str _ F G) ?_)
      rintro z _ _ ⟨rfl, rfl, rfl⟩
      dsimp only
      unfold cb_X3_settle_42
      rw [if_neg (show ¬ x2 ≤ jSt (G 20 (F 21 - 1).toNatClampNeg) from fun z => absurd (i_le.mp z) (by omega))]
      exact k
/-- a sign that the class holds: its word -/
theorem sl_one {m : Nat} (h3 : x3.toInt < 4001) (h0 : x1.toInt < (F 21).toInt) (h1 : 0 < (F 21).toInt) (hs : x2.toInt ≤ (jSt (G 20 (F 21 - 1).toNatClampNeg)).toInt) (n1 : ¬ G 20 (F 21 - 1).toNatClampNeg = 43) (n2 : ¬ G 20 (F 21 - 1).toNatClampNeg = 44) (rm : jRm 1 F) (k : ∀ (m : Nat) (F' : PF) (G' : PG), EMC [G 20 (F 21 - 1).toNatClampNeg] (fup F 21 (F 21 - 1)) G F' G' → JP ((cl_X3_settle_2 fu m x1 x2 (x3 + 1) F' G').bind f) b Q) : JP ((cl_X3_settle_2 fu m x1 x2 x3 F G).bind f) b Q := by
  have l0 : (0 : Int32).toInt = 0 := rfl
  have l1 : (4001 : Int32).toInt = 4001 := rfl
  cases m with
  | zero => exact (JP.noL : JP none b Q)
  | succ m =>
    show JP ((cb_X3_settle_2 fu (cl_X3_settle_2 fu m) x1 x2 x3 F G).bind f) b Q
    unfold cb_X3_settle_2
    rw [if_neg (show ¬ (4001 : Int32) ≤ x3 from fun z => absurd (i_le.mp z) (by omega))]
    unfold cb_X3_settle_9
    rw [if_neg (show ¬ F 21 ≤ x1 from fun z => absurd (i_le.mp z) (by omega))]
    unfold cb_X3_settle_17
    rw [if_neg (show ¬ F 21 ≤ 0 from fun z => absurd (i_le.mp z) (by omega))]
    unfold cb_X3_settle_24
    refine JP.ixLL (fun _ => JP.LL (cp_str _ F G) ?_)
    rintro z _ _ ⟨rfl, rfl, rfl⟩
    dsimp only
    unfold cb_X3_settle_42
    rw [if_pos (show x2 ≤ jSt (G 20 (F 21 - 1).toNatClampNeg) from i_le.mpr hs)]
    unfold cb_X3_settle_47 cb_X3_settle_57
    rw [if_neg n1]
    unfold cb_X3_settle_64
    rw [if_neg n2]
    unfold cb_X3_settle_123
    refine JP.LL (cp_wadd _ G rm.rs) ?_
    rintro r F' G' c
    dsimp only
    unfold cb_X3_settle_132
    exact k m F' G' c
/-- || and &&: a truth, and the jump's aim -/
theorem sl_two {m : Nat} (h3 : x3.toInt < 4001) (h0 : x1.toInt < (F 21).toInt) (h1 : 1 < (F 21).toInt) (hs : x2.toInt ≤ (jSt (G 20 (F 21 - 1).toNatClampNeg)).toInt) (hx : G 20 (F 21 - 1).toNatClampNeg = 43 ∨ G 20 (F 21 - 1).toNatClampNeg = 44) (rm : jRm 1 F) (k : ∀ (m : Nat) (F' : PF) (G' : PG), EMC [65] (fup F 21 (F 21 - 1 - 1)) G F' G' → ∀ (r : Int32) (F'' : PF) (G'' : PG), cf_X1_aim fu (G' 20 (F' 21).toNatClampNeg) (F' 6) F' G' = some (r, F'', G'') → JP ((cl_X3_settle_2 fu m x1 x2 (x3 + 1) F'' G'').bind f) b Q) : JP ((cl_X3_settle_2 fu m x1 x2 x3 F G).bind f) b Q := by
  have l0 : (0 : Int32).toInt = 0 := rfl
  have l1 : (4001 : Int32).toInt = 4001 := rfl
  have l2 : (F 21 - 1).toInt = (F 21).toInt - 1 := i_subn _ rfl (by omega) (by have := i_rng (F 21); omega)
  cases m with
  | zero => exact (JP.noL : JP none b Q)
  | succ m =>
    show JP ((cb_X3_settle_2 fu (cl_X3_settle_2 fu m) x1 x2 x3 F G).bind f) b Q
    unfold cb_X3_settle_2
    rw [if_neg (show ¬ (4001 : Int32) ≤ x3 from fun z => absurd (i_le.mp z) (by omega))]
    unfold cb_X3_settle_9
    rw [if_neg (show ¬ F 21 ≤ x1 from fun z => absurd (i_le.mp z) (by omega))]
    unfold cb_X3_settle_17
    rw [if_neg (show ¬ F 21 ≤ 0 from fun z => absurd (i_le.mp z) (by omega))]
    unfold cb_X3_settle_24
    refine JP.ixLL (fun _ => JP.LL (cp_str _ F G) ?_)
    rintro z _ _ ⟨rfl, rfl, rfl⟩
    dsimp only
    unfold cb_X3_settle_42
    rw [if_pos (show x2 ≤ jSt (G 20 (F 21 - 1).toNatClampNeg) from i_le.mpr hs)]
    have k71 : JP ((cb_X3_settle_71 fu (cl_X3_settle_2 fu m) x1 x2 x3 (G 20 (F 21 - 1).toNatClampNeg) (fup F 21 (F 21 - 1)) G).bind f) b Q := by
      unfold cb_X3_settle_71
      rw [if_neg (show ¬ fup F 21 (F 21 - 1) 21 ≤ 0 from fun z => absurd (i_le.mp z) (by rw [fup_s]; omega))]
      unfold cb_X3_settle_78 cb_X3_settle_88
      rw [fup_s]
      have ef : fup (fup F 21 (F 21 - 1)) 21 (F 21 - 1 - 1) = fup F 21 (F 21 - 1 - 1) := by
        funext j
        by_cases c : j = 21
        · rw [c, fup_s, fup_s]
        · rw [fup_n c, fup_n c, fup_n c]
      rw [ef]
      refine JP.LL (cp_wadd 65 G rm.rs) ?_
      rintro r F' G' c
      dsimp only
      unfold cb_X3_settle_97
      refine JP.ixLL (fun _ => JP.LL (V := fun r F'' G'' => cf_X1_aim fu (G' 20 (F' 21).toNatClampNeg) (F' 6) F' G' = some (r, F'', G'')) (fun _ _ _ e => e) ?_)
      intro r2 F'' G'' e
      dsimp only
      unfold cb_X3_settle_120 cb_X3_settle_132
      exact k m F' G' c r2 F'' G'' e
    unfold cb_X3_settle_47 cb_X3_settle_57
    rcases hx with c | c
    · rw [if_pos c]
      exact k71
    · rw [if_neg (show ¬ G 20 (F 21 - 1).toNatClampNeg = 43 by rw [c]; decide)]
      unfold cb_X3_settle_64
      rw [if_pos c]
      exact k71
end JE18
