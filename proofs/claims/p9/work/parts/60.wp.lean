/-- a pure twin answers, and what it answers is so -/
def WP (o : PR) (Q : Int32 → PF → PG → Prop) : Prop := ∃ (r : Int32) (F : PF) (G : PG), o = some (r, F, G) ∧ Q r F G
theorem WP.ret {r : Int32} {F : PF} {G : PG} {Q : Int32 → PF → PG → Prop} (h : Q r F G) : WP (some (r, F, G)) Q := ⟨r, F, G, rfl, h⟩
theorem WP.bind {o : PR} {f : Int32 × PF × PG → PR} {Q Q1 : Int32 → PF → PG → Prop} (h : WP o Q1) (k : ∀ (r : Int32) (F : PF) (G : PG), Q1 r F G → WP (f (r, F, G)) Q) : WP (o.bind f) Q := by
  obtain ⟨r, F, G, rfl, h⟩ := h
  exact k r F G h
theorem WP.ite {c : Prop} [Decidable c] {A B : PR} {Q : Int32 → PF → PG → Prop} (h1 : c → WP A Q) (h2 : ¬ c → WP B Q) : WP (if c then A else B) Q := by
  by_cases h : c
  · rw [if_pos h]
    exact h1 h
  · rw [if_neg h]
    exact h2 h
theorem WP.ix {i : Int32} {n : Nat} {A : PR} {Q : Int32 → PF → PG → Prop} (h : vp_in i n) (k : WP A Q) : WP (if ixb i n = true then A else none) Q := by
  have e : ixb i n = true := decide_eq_true (p := ¬ (i < 0 ∨ n ≤ i.toNatClampNeg)) h
  rw [if_pos e]
  exact k
theorem WP.bz {v : Int32} {A : PR} {Q : Int32 → PF → PG → Prop} (h : v = 0 ∨ v = 1) (k : WP A Q) : WP (if b01 v = true then A else none) Q := by
  have e : b01 v = true := decide_eq_true (p := v = 0 ∨ v = 1) h
  rw [if_pos e]
  exact k
theorem WP.ch {v : Int32} {A : PR} {Q : Int32 → PF → PG → Prop} (h : narrow .char (.int v) = .int v) (k : WP A Q) : WP (if ch16 v = true then A else none) Q := by
  have e : ch16 v = true := decide_eq_true (p := narrow .char (.int v) = .int v) h
  rw [if_pos e]
  exact k
theorem WP.nz {β : Type} [DecidableEq β] {v w : β} {A : PR} {Q : Int32 → PF → PG → Prop} (h : ¬ v = w) (k : WP A Q) : WP (if v = w then none else A) Q := by
  rw [if_neg h]
  exact k
theorem WP.lt {i n : Nat} {A : PR} {Q : Int32 → PF → PG → Prop} (h : i < n) (k : WP A Q) : WP (if i < n then A else none) Q := by
  rw [if_pos h]
  exact k
theorem WP.mono {o : PR} {Q Q1 : Int32 → PF → PG → Prop} (h : WP o Q1) (k : ∀ (r : Int32) (F : PF) (G : PG), Q1 r F G → Q r F G) : WP o Q := by
  obtain ⟨r, F, G, e, h⟩ := h
  exact ⟨r, F, G, e, k r F G h⟩
theorem i_bm (x : Int) : ∃ k : Int, x.bmod 4294967296 = x + 4294967296 * k ∧ -2147483648 ≤ x.bmod 4294967296 ∧ x.bmod 4294967296 < 2147483648 := by
  refine ⟨(x.bmod 4294967296 - x) / 4294967296, ?_, ?_, ?_⟩
  · have h := Int.bmod_emod (x := x) (m := 4294967296)
    omega
  · have := Int.le_bmod (x := x) (m := 4294967296) (by decide)
    omega
  · have := Int.bmod_lt (x := x) (m := 4294967296) (by decide)
    omega
theorem i_add (a b : Int32) : ∃ k : Int, (a + b).toInt = a.toInt + b.toInt + 4294967296 * k ∧ -2147483648 ≤ (a + b).toInt ∧ (a + b).toInt < 2147483648 := by
  rw [Int32.toInt_add]
  exact i_bm _
theorem i_sub (a b : Int32) : ∃ k : Int, (a - b).toInt = a.toInt - b.toInt + 4294967296 * k ∧ -2147483648 ≤ (a - b).toInt ∧ (a - b).toInt < 2147483648 := by
  rw [Int32.toInt_sub]
  exact i_bm _
theorem i_rng (a : Int32) : -2147483648 ≤ a.toInt ∧ a.toInt < 2147483648 := ⟨a.le_toInt, a.toInt_lt⟩
theorem i_lt {a b : Int32} : a < b ↔ a.toInt < b.toInt := Int32.lt_iff_toInt_lt
theorem i_le {a b : Int32} : a ≤ b ↔ a.toInt ≤ b.toInt := Int32.le_iff_toInt_le
theorem i_eq {a b : Int32} : a = b ↔ a.toInt = b.toInt := Int32.toInt_inj.symm
theorem i_nat {a : Int32} {n : Nat} (h : n < 2 ^ 31) : (nI n).toInt = (n : Int) := nI_toInt h
theorem i_and (x : Int32) {m : Int32} (k : Nat) (hm : m.toBitVec.toNat = 2 ^ k - 1) (hk : k ≤ 30) : 0 ≤ (x &&& m).toInt ∧ (x &&& m).toInt < 2 ^ k := by
  have h := vp_in_iff.mp (pk_andIn x k hm hk)
  exact ⟨h.1, by have := h.2; exact_mod_cast this⟩
theorem i_shr {x s : Int32} (k : Nat) (hs : (s.toBitVec.smod 32).toNat = k) : (x >>> s).toInt = x.toInt / 2 ^ k := by
  rw [pk_shr x s k hs, Int.shiftRight_eq_div_pow]
  norm_cast
theorem i_rem {x : Int32} (n : Nat) (h0 : 0 < n) (hn : n < 2 ^ 31) (hx : 0 ≤ x.toInt) : 0 ≤ (x - x / nI n * nI n).toInt ∧ (x - x / nI n * nI n).toInt < n := by
  obtain ⟨j, hj, rfl⟩ := nI_of (x := x) (fun h => by have := i_lt.mp h; simp at this; omega)
  rw [pk_rem hj h0 hn, nI_toInt (Nat.lt_of_le_of_lt (Nat.mod_le _ _) hj)]
  exact ⟨Int.natCast_nonneg _, by exact_mod_cast Nat.mod_lt _ h0⟩
theorem i_addl (a : Int32) {n : Int32} {m : Int} (h : n.toInt = m) : ∃ k : Int, (a + n).toInt = a.toInt + m + 4294967296 * k ∧ -2147483648 ≤ (a + n).toInt ∧ (a + n).toInt < 2147483648 := by
  rw [← h]
  exact i_add a n
theorem i_subl (a : Int32) {n : Int32} {m : Int} (h : n.toInt = m) : ∃ k : Int, (a - n).toInt = a.toInt - m + 4294967296 * k ∧ -2147483648 ≤ (a - n).toInt ∧ (a - n).toInt < 2147483648 := by
  rw [← h]
  exact i_sub a n
theorem i_addn (a : Int32) {n : Int32} {m : Int} (h : n.toInt = m) (h1 : -2147483648 ≤ a.toInt + m) (h2 : a.toInt + m < 2147483648) : (a + n).toInt = a.toInt + m := by
  obtain ⟨k, e1, e2, e3⟩ := i_addl a h
  omega
theorem i_subn (a : Int32) {n : Int32} {m : Int} (h : n.toInt = m) (h1 : -2147483648 ≤ a.toInt - m) (h2 : a.toInt - m < 2147483648) : (a - n).toInt = a.toInt - m := by
  obtain ⟨k, e1, e2, e3⟩ := i_subl a h
  omega
