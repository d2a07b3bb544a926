theorem l2_tab0 {s : State} {args : Array Value} (hts : ∀ w ∈ lw_tbl, w.before args s = true) (hgv : (Jvm.Cond.and given_1 narrow_1).before args s = true) : ∃ t : Nat, va_Z "CompiledHouse$Judge" "FAULT_KINDS" "[I" (.ref t) (fun q : Nat => s.heap.size ≤ q) s s.heap ∧ va_T .int t 10 (fun j => .int (tb_0 j)) (fun q : Nat => s.heap.size ≤ q) s s.heap := by
  have hs := flat_of_before _ hgv
  have hA : ∀ a : Nat, a < s.heap.size → ¬ (fun q : Nat => s.heap.size ≤ q) a := fun a h => Nat.not_le.mpr h
  obtain ⟨t, ht, hT⟩ := va_Tof (args := args) (s := s) (tm := (.static "CompiledHouse$Judge" "FAULT_KINDS" "[I")) (ty := .int) (N := 10) (f := fun j => .int (tb_0 j)) (A := (fun q : Nat => s.heap.size ≤ q)) (by decide) (hs (.arrayOf (.static "CompiledHouse$Judge" "FAULT_KINDS" "[I") .int) (by decide +kernel)) (va_eqt (hs (.eq (.length (.static "CompiledHouse$Judge" "FAULT_KINDS" "[I")) (.int 10)) (by decide +kernel))) (fun j hj => va_eqt (hs (Cond.eq (.elem (.static "CompiledHouse$Judge" "FAULT_KINDS" "[I") (.int (Int32.ofNat j))) (.int (tb_0 j))) ((by decide +kernel : ∀ j, j < 10 → (Cond.eq (.elem (.static "CompiledHouse$Judge" "FAULT_KINDS" "[I") (.int (Int32.ofNat j))) (.int (tb_0 j))) ∈ flatC (Jvm.Cond.and given_1 narrow_1)) j hj))) hA
  exact ⟨t, va_Zref (hts (.laysStatic "CompiledHouse$Judge" "FAULT_KINDS" "[I") (by decide +kernel)) (hts (.initialized "CompiledHouse$Judge") (by decide +kernel)) ht hA, hT⟩
theorem l2_tab1 {s : State} {args : Array Value} (hts : ∀ w ∈ lw_tbl, w.before args s = true) (hgv : (Jvm.Cond.and given_1 narrow_1).before args s = true) : ∃ t : Nat, va_Z "CompiledHouse$Expressions" "STRENGTHS" "[I" (.ref t) (fun q : Nat => s.heap.size ≤ q) s s.heap ∧ va_T .int t 19 (fun j => .int (tb_1 j)) (fun q : Nat => s.heap.size ≤ q) s s.heap := by
  have hs := flat_of_before _ hgv
  have hA : ∀ a : Nat, a < s.heap.size → ¬ (fun q : Nat => s.heap.size ≤ q) a := fun a h => Nat.not_le.mpr h
  obtain ⟨t, ht, hT⟩ := va_Tof (args := args) (s := s) (tm := (.static "CompiledHouse$Expressions" "STRENGTHS" "[I")) (ty := .int) (N := 19) (f := fun j => .int (tb_1 j)) (A := (fun q : Nat => s.heap.size ≤ q)) (by decide) (hs (.arrayOf (.static "CompiledHouse$Expressions" "STRENGTHS" "[I") .int) (by decide +kernel)) (va_eqt (hs (.eq (.length (.static "CompiledHouse$Expressions" "STRENGTHS" "[I")) (.int 19)) (by decide +kernel))) (fun j hj => va_eqt (hs (Cond.eq (.elem (.static "CompiledHouse$Expressions" "STRENGTHS" "[I") (.int (Int32.ofNat j))) (.int (tb_1 j))) ((by decide +kernel : ∀ j, j < 19 → (Cond.eq (.elem (.static "CompiledHouse$Expressions" "STRENGTHS" "[I") (.int (Int32.ofNat j))) (.int (tb_1 j))) ∈ flatC (Jvm.Cond.and given_1 narrow_1)) j hj))) hA
  exact ⟨t, va_Zref (hts (.laysStatic "CompiledHouse$Expressions" "STRENGTHS" "[I") (by decide +kernel)) (hts (.initialized "CompiledHouse$Expressions") (by decide +kernel)) ht hA, hT⟩
theorem l2_tab2 {s : State} {args : Array Value} (hts : ∀ w ∈ lw_tbl, w.before args s = true) (hgv : (Jvm.Cond.and given_1 narrow_1).before args s = true) : ∃ t : Nat, va_Z "CompiledHouse$Tokens" "ALONE" "[I" (.ref t) (fun q : Nat => s.heap.size ≤ q) s s.heap ∧ va_T .int t 23 (fun j => .int (tb_2 j)) (fun q : Nat => s.heap.size ≤ q) s s.heap := by
  have hs := flat_of_before _ hgv
  have hA : ∀ a : Nat, a < s.heap.size → ¬ (fun q : Nat => s.heap.size ≤ q) a := fun a h => Nat.not_le.mpr h
  obtain ⟨t, ht, hT⟩ := va_Tof (args := args) (s := s) (tm := (.static "CompiledHouse$Tokens" "ALONE" "[I")) (ty := .int) (N := 23) (f := fun j => .int (tb_2 j)) (A := (fun q : Nat => s.heap.size ≤ q)) (by decide) (hs (.arrayOf (.static "CompiledHouse$Tokens" "ALONE" "[I") .int) (by decide +kernel)) (va_eqt (hs (.eq (.length (.static "CompiledHouse$Tokens" "ALONE" "[I")) (.int 23)) (by decide +kernel))) (fun j hj => va_eqt (hs (Cond.eq (.elem (.static "CompiledHouse$Tokens" "ALONE" "[I") (.int (Int32.ofNat j))) (.int (tb_2 j))) ((by decide +kernel : ∀ j, j < 23 → (Cond.eq (.elem (.static "CompiledHouse$Tokens" "ALONE" "[I") (.int (Int32.ofNat j))) (.int (tb_2 j))) ∈ flatC (Jvm.Cond.and given_1 narrow_1)) j hj))) hA
  exact ⟨t, va_Zref (hts (.laysStatic "CompiledHouse$Tokens" "ALONE" "[I") (by decide +kernel)) (hts (.initialized "CompiledHouse$Tokens") (by decide +kernel)) ht hA, hT⟩
theorem l2_tab3 {s : State} {args : Array Value} (hts : ∀ w ∈ lw_tbl, w.before args s = true) (hgv : (Jvm.Cond.and given_1 narrow_1).before args s = true) : ∃ t : Nat, va_Z "CompiledHouse$Tokens" "TWICE" "[I" (.ref t) (fun q : Nat => s.heap.size ≤ q) s s.heap ∧ va_T .int t 23 (fun j => .int (tb_3 j)) (fun q : Nat => s.heap.size ≤ q) s s.heap := by
  have hs := flat_of_before _ hgv
  have hA : ∀ a : Nat, a < s.heap.size → ¬ (fun q : Nat => s.heap.size ≤ q) a := fun a h => Nat.not_le.mpr h
  obtain ⟨t, ht, hT⟩ := va_Tof (args := args) (s := s) (tm := (.static "CompiledHouse$Tokens" "TWICE" "[I")) (ty := .int) (N := 23) (f := fun j => .int (tb_3 j)) (A := (fun q : Nat => s.heap.size ≤ q)) (by decide) (hs (.arrayOf (.static "CompiledHouse$Tokens" "TWICE" "[I") .int) (by decide +kernel)) (va_eqt (hs (.eq (.length (.static "CompiledHouse$Tokens" "TWICE" "[I")) (.int 23)) (by decide +kernel))) (fun j hj => va_eqt (hs (Cond.eq (.elem (.static "CompiledHouse$Tokens" "TWICE" "[I") (.int (Int32.ofNat j))) (.int (tb_3 j))) ((by decide +kernel : ∀ j, j < 23 → (Cond.eq (.elem (.static "CompiledHouse$Tokens" "TWICE" "[I") (.int (Int32.ofNat j))) (.int (tb_3 j))) ∈ flatC (Jvm.Cond.and given_1 narrow_1)) j hj))) hA
  exact ⟨t, va_Zref (hts (.laysStatic "CompiledHouse$Tokens" "TWICE" "[I") (by decide +kernel)) (hts (.initialized "CompiledHouse$Tokens") (by decide +kernel)) ht hA, hT⟩
theorem l2_tab4 {s : State} {args : Array Value} (hts : ∀ w ∈ lw_tbl, w.before args s = true) (hgv : (Jvm.Cond.and given_1 narrow_1).before args s = true) : ∃ t : Nat, va_Z "CompiledHouse$Tokens" "WITH_EQUALS" "[I" (.ref t) (fun q : Nat => s.heap.size ≤ q) s s.heap ∧ va_T .int t 23 (fun j => .int (tb_4 j)) (fun q : Nat => s.heap.size ≤ q) s s.heap := by
  have hs := flat_of_before _ hgv
  have hA : ∀ a : Nat, a < s.heap.size → ¬ (fun q : Nat => s.heap.size ≤ q) a := fun a h => Nat.not_le.mpr h
  obtain ⟨t, ht, hT⟩ := va_Tof (args := args) (s := s) (tm := (.static "CompiledHouse$Tokens" "WITH_EQUALS" "[I")) (ty := .int) (N := 23) (f := fun j => .int (tb_4 j)) (A := (fun q : Nat => s.heap.size ≤ q)) (by decide) (hs (.arrayOf (.static "CompiledHouse$Tokens" "WITH_EQUALS" "[I") .int) (by decide +kernel)) (va_eqt (hs (.eq (.length (.static "CompiledHouse$Tokens" "WITH_EQUALS" "[I")) (.int 23)) (by decide +kernel))) (fun j hj => va_eqt (hs (Cond.eq (.elem (.static "CompiledHouse$Tokens" "WITH_EQUALS" "[I") (.int (Int32.ofNat j))) (.int (tb_4 j))) ((by decide +kernel : ∀ j, j < 23 → (Cond.eq (.elem (.static "CompiledHouse$Tokens" "WITH_EQUALS" "[I") (.int (Int32.ofNat j))) (.int (tb_4 j))) ∈ flatC (Jvm.Cond.and given_1 narrow_1)) j hj))) hA
  exact ⟨t, va_Zref (hts (.laysStatic "CompiledHouse$Tokens" "WITH_EQUALS" "[I") (by decide +kernel)) (hts (.initialized "CompiledHouse$Tokens") (by decide +kernel)) ht hA, hT⟩
theorem l2_tab5 {s : State} {args : Array Value} (hts : ∀ w ∈ lw_tbl, w.before args s = true) (hgv : (Jvm.Cond.and given_1 narrow_1).before args s = true) : ∃ t : Nat, va_Z "CompiledHouse$Grammar" "JOINED_BY" "[I" (.ref t) (fun q : Nat => s.heap.size ≤ q) s s.heap ∧ va_T .int t 13 (fun j => .int (tb_5 j)) (fun q : Nat => s.heap.size ≤ q) s s.heap := by
  have hs := flat_of_before _ hgv
  have hA : ∀ a : Nat, a < s.heap.size → ¬ (fun q : Nat => s.heap.size ≤ q) a := fun a h => Nat.not_le.mpr h
  obtain ⟨t, ht, hT⟩ := va_Tof (args := args) (s := s) (tm := (.static "CompiledHouse$Grammar" "JOINED_BY" "[I")) (ty := .int) (N := 13) (f := fun j => .int (tb_5 j)) (A := (fun q : Nat => s.heap.size ≤ q)) (by decide) (hs (.arrayOf (.static "CompiledHouse$Grammar" "JOINED_BY" "[I") .int) (by decide +kernel)) (va_eqt (hs (.eq (.length (.static "CompiledHouse$Grammar" "JOINED_BY" "[I")) (.int 13)) (by decide +kernel))) (fun j hj => va_eqt (hs (Cond.eq (.elem (.static "CompiledHouse$Grammar" "JOINED_BY" "[I") (.int (Int32.ofNat j))) (.int (tb_5 j))) ((by decide +kernel : ∀ j, j < 13 → (Cond.eq (.elem (.static "CompiledHouse$Grammar" "JOINED_BY" "[I") (.int (Int32.ofNat j))) (.int (tb_5 j))) ∈ flatC (Jvm.Cond.and given_1 narrow_1)) j hj))) hA
  exact ⟨t, va_Zref (hts (.laysStatic "CompiledHouse$Grammar" "JOINED_BY" "[I") (by decide +kernel)) (hts (.initialized "CompiledHouse$Grammar") (by decide +kernel)) ht hA, hT⟩
def tmS (i : Nat) : Term := match i with | 0 => .string RX12 202 | 1 => .string RX12 215 | 2 => .string RX10 99 | _ => .string RX10 116
theorem l2_l0 : ((flatC (Jvm.Cond.and given_1 narrow_1)).drop 377).take 118 = (List.range 118).map (fun j => (Cond.eq (.elem (.field (tmS 0) "java/lang/String" "value" "[B") (.int (Int32.ofNat j))) (.int ((bytS.getD 0 []).getD j 0)))) := by decide +kernel
theorem l2_e0 (j : Nat) (hj : j < 118) : (Cond.eq (.elem (.field (tmS 0) "java/lang/String" "value" "[B") (.int (Int32.ofNat j))) (.int ((bytS.getD 0 []).getD j 0))) ∈ flatC (Jvm.Cond.and given_1 narrow_1) := by
  have h : (Cond.eq (.elem (.field (tmS 0) "java/lang/String" "value" "[B") (.int (Int32.ofNat j))) (.int ((bytS.getD 0 []).getD j 0))) ∈ ((flatC (Jvm.Cond.and given_1 narrow_1)).drop 377).take 118 := by
    rw [l2_l0]
    exact List.mem_map.mpr ⟨j, List.mem_range.mpr hj, rfl⟩
  exact List.mem_of_mem_drop (List.mem_of_mem_take h)
theorem l2_l1 : ((flatC (Jvm.Cond.and given_1 narrow_1)).drop 294).take 77 = (List.range 77).map (fun j => (Cond.eq (.elem (.field (tmS 1) "java/lang/String" "value" "[B") (.int (Int32.ofNat j))) (.int ((bytS.getD 1 []).getD j 0)))) := by decide +kernel
theorem l2_e1 (j : Nat) (hj : j < 77) : (Cond.eq (.elem (.field (tmS 1) "java/lang/String" "value" "[B") (.int (Int32.ofNat j))) (.int ((bytS.getD 1 []).getD j 0))) ∈ flatC (Jvm.Cond.and given_1 narrow_1) := by
  have h : (Cond.eq (.elem (.field (tmS 1) "java/lang/String" "value" "[B") (.int (Int32.ofNat j))) (.int ((bytS.getD 1 []).getD j 0))) ∈ ((flatC (Jvm.Cond.and given_1 narrow_1)).drop 294).take 77 := by
    rw [l2_l1]
    exact List.mem_map.mpr ⟨j, List.mem_range.mpr hj, rfl⟩
  exact List.mem_of_mem_drop (List.mem_of_mem_take h)
theorem l2_l2 : ((flatC (Jvm.Cond.and given_1 narrow_1)).drop 142).take 120 = (List.range 120).map (fun j => (Cond.eq (.elem (.field (tmS 2) "java/lang/String" "value" "[B") (.int (Int32.ofNat j))) (.int ((bytS.getD 2 []).getD j 0)))) := by decide +kernel
theorem l2_e2 (j : Nat) (hj : j < 120) : (Cond.eq (.elem (.field (tmS 2) "java/lang/String" "value" "[B") (.int (Int32.ofNat j))) (.int ((bytS.getD 2 []).getD j 0))) ∈ flatC (Jvm.Cond.and given_1 narrow_1) := by
  have h : (Cond.eq (.elem (.field (tmS 2) "java/lang/String" "value" "[B") (.int (Int32.ofNat j))) (.int ((bytS.getD 2 []).getD j 0))) ∈ ((flatC (Jvm.Cond.and given_1 narrow_1)).drop 142).take 120 := by
    rw [l2_l2]
    exact List.mem_map.mpr ⟨j, List.mem_range.mpr hj, rfl⟩
  exact List.mem_of_mem_drop (List.mem_of_mem_take h)
theorem l2_l3 : ((flatC (Jvm.Cond.and given_1 narrow_1)).drop 266).take 23 = (List.range 23).map (fun j => (Cond.eq (.elem (.field (tmS 3) "java/lang/String" "value" "[B") (.int (Int32.ofNat j))) (.int ((bytS.getD 3 []).getD j 0)))) := by decide +kernel
theorem l2_e3 (j : Nat) (hj : j < 23) : (Cond.eq (.elem (.field (tmS 3) "java/lang/String" "value" "[B") (.int (Int32.ofNat j))) (.int ((bytS.getD 3 []).getD j 0))) ∈ flatC (Jvm.Cond.and given_1 narrow_1) := by
  have h : (Cond.eq (.elem (.field (tmS 3) "java/lang/String" "value" "[B") (.int (Int32.ofNat j))) (.int ((bytS.getD 3 []).getD j 0))) ∈ ((flatC (Jvm.Cond.and given_1 narrow_1)).drop 266).take 23 := by
    rw [l2_l3]
    exact List.mem_map.mpr ⟨j, List.mem_range.mpr hj, rfl⟩
  exact List.mem_of_mem_drop (List.mem_of_mem_take h)
theorem l2_el (i : Nat) (hi : i < 4) (j : Nat) (hj : j < lenS.getD i 0) : (Cond.eq (.elem (.field (tmS i) "java/lang/String" "value" "[B") (.int (Int32.ofNat j))) (.int ((bytS.getD i []).getD j 0))) ∈ flatC (Jvm.Cond.and given_1 narrow_1) := by
  match i, hi, hj with
  | 0, _, hj => exact l2_e0 j hj
  | 1, _, hj => exact l2_e1 j hj
  | 2, _, hj => exact l2_e2 j hj
  | 3, _, hj => exact l2_e3 j hj
  | n + 4, h, _ => exact absurd h (by omega)
theorem l2_str {s : State} {args : Array Value} (hts : ∀ w ∈ lw_tbl, w.before args s = true) (hgv : (Jvm.Cond.and given_1 narrow_1).before args s = true) : ∃ kK kV : Nat → Nat, (∀ i : Nat, i < 4 → (tmS i).eval args s none [] s = some (.ref (kK i))) ∧ vk_S 4 lenS bytS kK kV (fun q : Nat => s.heap.size ≤ q) s s.heap := by
  have hs := flat_of_before _ hgv
  have hA : ∀ a : Nat, a < s.heap.size → ¬ (fun q : Nat => s.heap.size ≤ q) a := fun a h => Nat.not_le.mpr h
  have hne : ∀ i, i < 4 → ∀ j, j < 4 → i ≠ j → (Cond.not (Cond.eq (tmS i) (tmS j))) ∈ flatC (Jvm.Cond.and given_1 narrow_1) ∨ (Cond.not (Cond.eq (tmS j) (tmS i))) ∈ flatC (Jvm.Cond.and given_1 narrow_1) := by decide +kernel
  obtain ⟨kK, kV, h1, h2⟩ := vk_Sof (args := args) (s := s) (N := 4) (tm := tmS) (len := lenS) (byt := bytS) (A := (fun q : Nat => s.heap.size ≤ q)) (by decide) (fun i hi => hs (Cond.exactly (tmS i) "java/lang/String") ((by decide +kernel : ∀ i, i < 4 → (Cond.exactly (tmS i) "java/lang/String") ∈ flatC (Jvm.Cond.and given_1 narrow_1)) i hi)) (fun i hi => hs (Cond.eq (.field (tmS i) "java/lang/String" "coder" "B") (.int 0)) ((by decide +kernel : ∀ i, i < 4 → (Cond.eq (.field (tmS i) "java/lang/String" "coder" "B") (.int 0)) ∈ flatC (Jvm.Cond.and given_1 narrow_1)) i hi)) (fun i hi => hs (Cond.arrayOf (.field (tmS i) "java/lang/String" "value" "[B") .byte) ((by decide +kernel : ∀ i, i < 4 → (Cond.arrayOf (.field (tmS i) "java/lang/String" "value" "[B") .byte) ∈ flatC (Jvm.Cond.and given_1 narrow_1)) i hi)) (fun i hi => hs (Cond.eq (.length (.field (tmS i) "java/lang/String" "value" "[B")) (.int (Int32.ofNat (lenS.getD i 0)))) ((by decide +kernel : ∀ i, i < 4 → (Cond.eq (.length (.field (tmS i) "java/lang/String" "value" "[B")) (.int (Int32.ofNat (lenS.getD i 0)))) ∈ flatC (Jvm.Cond.and given_1 narrow_1)) i hi)) (fun i hi j hj => hs (Cond.eq (.elem (.field (tmS i) "java/lang/String" "value" "[B") (.int (Int32.ofNat j))) (.int ((bytS.getD i []).getD j 0))) (l2_el i hi j hj)) (fun i j hi hj n => (hne i hi j hj n).imp (fun h => hs _ h) (fun h => hs _ h)) hA
  exact ⟨kK, kV, h2, h1⟩
theorem l2_x {s : State} {args : Array Value} (hts : ∀ w ∈ lw_tbl, w.before args s = true) (hgv : (Jvm.Cond.and given_1 narrow_1).before args s = true) : ∃ kK kV : Nat → Nat, ∀ v : EV, eK v = kK → eV v = kV → mX v (fun q : Nat => s.heap.size ≤ q) s ∧ cX v (fun q : Nat => s.heap.size ≤ q) s := by
  have hs := flat_of_before _ hgv
  have hA : ∀ a : Nat, a < s.heap.size → ¬ (fun q : Nat => s.heap.size ≤ q) a := fun a h => Nat.not_le.mpr h
  obtain ⟨k0, kV, he, hS⟩ := l2_str hts hgv
  obtain ⟨t10, z10, w10⟩ := l2_tab0 hts hgv
  obtain ⟨t11, z11, w11⟩ := l2_tab1 hts hgv
  obtain ⟨t12, z12, w12⟩ := l2_tab2 hts hgv
  obtain ⟨t13, z13, w13⟩ := l2_tab3 hts hgv
  obtain ⟨t14, z14, w14⟩ := l2_tab4 hts hgv
  obtain ⟨t15, z15, w15⟩ := l2_tab5 hts hgv
  obtain ⟨kf, ha, h10, h11, h12, h13, h14, h15⟩ : ∃ kf : Nat → Nat, (∀ i, i < 4 → kf i = k0 i) ∧ kf 10 = t10 ∧ kf 11 = t11 ∧ kf 12 = t12 ∧ kf 13 = t13 ∧ kf 14 = t14 ∧ kf 15 = t15 := ⟨fun i => if i = 10 then t10 else if i = 11 then t11 else if i = 12 then t12 else if i = 13 then t13 else if i = 14 then t14 else if i = 15 then t15 else k0 i, fun i hi => by
    show (if i = 10 then t10 else if i = 11 then t11 else if i = 12 then t12 else if i = 13 then t13 else if i = 14 then t14 else if i = 15 then t15 else k0 i) = k0 i
    rw [if_neg (by omega), if_neg (by omega), if_neg (by omega), if_neg (by omega), if_neg (by omega), if_neg (by omega)], rfl, rfl, rfl, rfl, rfl, rfl⟩
  refine ⟨kf, kV, fun v e1 e2 => ?_⟩
  have hS1 : vk_S 4 lenS bytS (eK v) (eV v) (fun q : Nat => s.heap.size ≤ q) s s.heap := by
    rw [e1, e2]
    refine ⟨fun i hi => ?_, fun i j hi hj e => ?_⟩
    · rw [ha i hi]
      exact hS.1 i hi
    · rw [ha i hi, ha j hj] at e
      exact hS.2 i j hi hj e
  have hsx : sX v (fun q : Nat => s.heap.size ≤ q) s := by
    refine ⟨va_Zof (args := args) (hts (.laysStatic "java/lang/String" "COMPACT_STRINGS" "Z") (by decide +kernel)) (hts (.initialized "java/lang/String") (by decide +kernel)) (va_eqt (hs (.eq (.static "java/lang/String" "COMPACT_STRINGS" "Z") (.int 1)) (by decide +kernel))) hA, va_Zqof (args := args) (hts (.laysStatic "jdk/internal/util/Preconditions" "SIOOBE_FORMATTER" "Ljava/util/function/BiFunction;") (by decide +kernel)) (hts (.initialized "jdk/internal/util/Preconditions") (by decide +kernel)) (hs (.isRef (.static "jdk/internal/util/Preconditions" "SIOOBE_FORMATTER" "Ljava/util/function/BiFunction;")) (by decide +kernel)) hA, hS1, ?_, ?_, ?_, ?_⟩
    · rw [e1, ha 0 (by decide)]
      exact vk_R.of (A := args) (hts (.stringRef RX12 202 " >>>= >>> <<= >>= += -= *= /= %= &= |= ^= ++ -- || && == != <= >= << >> ( ) [ ] { } , ; ? : = | ^ & < > + - * / % ~ ! ") (by decide +kernel)) (he 0 (by decide))
    · rw [e1, ha 1 (by decide)]
      exact vk_R.of (A := args) (hts (.stringRef RX12 215 " int byte void const if else while do for break continue return put get halt ") (by decide +kernel)) (he 1 (by decide))
    · rw [e1, ha 2 (by decide)]
      exact vk_R.of (A := args) (hts (.stringRef RX10 99 "int     byte    void    const   if      else    while   do      for     break   continuereturn  put     get     halt    ") (by decide +kernel)) (he 2 (by decide))
    · rw [e1, ha 3 (by decide)]
      exact vk_R.of (A := args) (hts (.stringRef RX10 116 "()[]{},;?:=+-*/%&|^<>~!") (by decide +kernel)) (he 3 (by decide))
  refine ⟨hsx, hsx, ?_, ?_, ?_, ?_, ?_, ?_, ?_, ?_, ?_, ?_, ?_, ?_, va_Nw.of rfl (hts _ (by decide +kernel)), va_Nw.of rfl (hts _ (by decide +kernel)), va_Nw.of rfl (hts _ (by decide +kernel)), va_Nw.of rfl (hts _ (by decide +kernel)), va_Nw.of rfl (hts _ (by decide +kernel)), va_Nw.of rfl (hts _ (by decide +kernel)), va_Nw.of rfl (hts _ (by decide +kernel)), va_Nw.of rfl (hts _ (by decide +kernel)), va_Nw.of rfl (hts _ (by decide +kernel)), va_Nw.of rfl (hts _ (by decide +kernel)), va_Nw.of rfl (hts _ (by decide +kernel)), va_Nw.of rfl (hts _ (by decide +kernel))⟩
  · rw [e1, h10]
    exact z10
  · rw [e1, h10]
    exact w10
  · rw [e1, h11]
    exact z11
  · rw [e1, h11]
    exact w11
  · rw [e1, h12]
    exact z12
  · rw [e1, h12]
    exact w12
  · rw [e1, h13]
    exact z13
  · rw [e1, h13]
    exact w13
  · rw [e1, h14]
    exact z14
  · rw [e1, h14]
    exact w14
  · rw [e1, h15]
    exact z15
  · rw [e1, h15]
    exact w15
