def cR (k : Nat) : Option (Int × Int) := if k = 6 then some (0, 8400) else if k = 7 then some (0, 1) else if k = 10 then some (-1, 40) else if k = 21 then some (0, 4001) else if k = 41 then some (0, 700) else if k = 44 then some (0, 9) else if k = 45 then some (0, 1) else if k = 46 then some (0, 1) else if k = 47 then some (0, 1) else if k = 48 then some (0, 1) else if k = 56 then some (0, 524288) else if k = 60 then some (0, 1) else if k = 61 then some (0, 1) else if k = 69 then some (0, 499) else if k = 70 then some (0, 500) else if k = 72 then some (0, 2147483647) else if k = 73 then some (0, 1) else if k = 74 then some (0, 450) else if k = 85 then some (0, 700) else if k = 88 then some (0, 4000) else if k = 93 then some (0, 4001) else if k = 98 then some (0, 1408) else if k = 300 then some (1, 524288) else none
/-- what stands in every state of the object -/
def CI (F : PF) (G : PG) : Prop := (∀ (k : Nat) (lo hi : Int), cR k = some (lo, hi) → lo ≤ (F k).toInt ∧ (F k).toInt ≤ hi) ∧ ((F 56).toInt ≤ xn F ∧ ∃ i : Nat, i ≤ 9 ∧ xn F = 1024 * 2 ^ i) ∧ ∀ j : Nat, 0 ≤ (G 83 j).toInt ∧ (G 83 j).toInt ≤ 700
theorem CI.r {F : PF} {G : PG} (h : CI F G) (k : Nat) {lo hi : Int} (e : cR k = some (lo, hi)) : lo ≤ (F k).toInt ∧ (F k).toInt ≤ hi := h.1 k lo hi e
theorem fup_s {F : PF} {k : Nat} {x : Int32} : fup F k x k = x := if_pos rfl
theorem fup_n {F : PF} {k j : Nat} {x : Int32} (h : j ≠ k) : fup F k x j = F j := if_neg h
theorem CI.fr {F : PF} {G : PG} {k : Nat} {x : Int32} (e : cR k = none) (h : CI F G) : CI (fup F k x) G := by
  have h56 : 56 ≠ k := fun q => by rw [← q] at e; exact absurd e (by decide)
  have h300 : 300 ≠ k := fun q => by rw [← q] at e; exact absurd e (by decide)
  refine ⟨fun j lo hi ej => ?_, ?_, h.2.2⟩
  · have hj : j ≠ k := fun q => by rw [q, e] at ej; cases ej
    rw [fup_n hj]
    exact h.1 j lo hi ej
  · rw [fup_n h56, xn_fup h300]
    exact h.2.1
theorem CI.rg {F : PF} {G : PG} {k : Nat} {x : Int32} {lo hi : Int} (e : cR k = some (lo, hi)) (h56 : k ≠ 56) (h300 : k ≠ 300) (h : CI F G) (hx : lo ≤ x.toInt ∧ x.toInt ≤ hi) : CI (fup F k x) G := by
  refine ⟨fun j lo' hi' ej => ?_, ?_, h.2.2⟩
  · by_cases hj : j = k
    · subst hj
      rw [fup_s]
      rw [e] at ej
      cases ej
      exact hx
    · rw [fup_n hj]
      exact h.1 j lo' hi' ej
  · rw [fup_n (Ne.symm h56), xn_fup (Ne.symm h300)]
    exact h.2.1
theorem CI.top {F : PF} {G : PG} {x : Int32} (h : CI F G) (h0 : 0 ≤ x.toInt) (h1 : x.toInt ≤ xn F) : CI (fup F 56 x) G := by
  have hn := (h.1 300 1 524288 rfl)
  have e : (xn F : Int) = (F 300).toInt := by unfold xn; show ((F 300).toInt.toNat : Int) = _; omega
  refine ⟨fun j lo' hi' ej => ?_, ?_, h.2.2⟩
  · by_cases hj : j = 56
    · subst hj
      rw [fup_s]
      have : some ((0 : Int), (524288 : Int)) = some (lo', hi') := ej
      cases this
      omega
    · rw [fup_n hj]
      exact h.1 j lo' hi' ej
  · rw [fup_s, xn_fup (by decide)]
    exact ⟨h1, h.2.1.2⟩
theorem CI.xx {F : PF} {G : PG} (h : CI F G) : (xn F : Int) = (F 300).toInt ∧ 1 ≤ xn F ∧ xn F ≤ 524288 ∧ (F 56).toInt ≤ xn F := by
  have hn := (h.1 300 1 524288 rfl)
  have e : (xn F : Int) = (F 300).toInt := by unfold xn; show ((F 300).toInt.toNat : Int) = _; omega
  exact ⟨e, by omega, by omega, h.2.1.1⟩
theorem CI.grow {F : PF} {G : PG} (h : CI F G) (h5 : xn F < 524288) : CI (fup F 300 (nI (xn F) * 2)) (gext G F) := by
  obtain ⟨e, h1, h2, h3⟩ := h.xx
  have hg := gok_n (F := F) ⟨by omega, by omega⟩
  have hx : xn (fup F 300 (nI (xn F) * 2)) = 2 * xn F := by rw [xn_grow, hg.1]
  obtain ⟨i, hi, hp⟩ := h.2.1.2
  have hi8 : i ≤ 8 := by
    rcases Nat.lt_or_ge i 9 with q | q
    · omega
    · have : i = 9 := by omega
      subst this
      omega
  have hp2 : 2 * xn F = 1024 * 2 ^ (i + 1) := by rw [hp, Nat.pow_succ]; omega
  have hle : 2 ^ (i + 1) ≤ 2 ^ 9 := Nat.pow_le_pow_right (by decide) (by omega)
  have ht : (nI (xn F) * 2).toInt = 2 * (xn F : Int) := by
    have : nI (xn F) * 2 = nI (2 * xn F) := by rw [show (2 : Int32) = nI 2 from rfl, pk_mul, Nat.mul_comm]
    rw [this, nI_toInt (by omega)]
    omega
  refine ⟨fun j lo' hi' ej => ?_, ⟨?_, i + 1, by omega, by rw [hx]; exact hp2⟩, fun j => ?_⟩
  · by_cases hj : j = 300
    · subst hj
      rw [fup_s]
      have : some ((1 : Int), (524288 : Int)) = some (lo', hi') := ej
      cases this
      omega
    · rw [fup_n hj]
      exact h.1 j lo' hi' ej
  · rw [fup_n (by decide), hx]
    omega
  · have : gext G F 83 = G 83 := if_neg (by decide)
    rw [this]
    exact h.2.2 j
theorem CI.g {F : PF} {G : PG} {k i : Nat} {x : Int32} (e : 83 ≠ k) (h : CI F G) : CI F (gup G k i x) := by
  refine ⟨h.1, h.2.1, fun j => ?_⟩
  have : gup G k i x 83 = G 83 := if_neg e
  rw [this]
  exact h.2.2 j
theorem CI.g83 {F : PF} {G : PG} {i : Nat} {x : Int32} (h : CI F G) (hx : 0 ≤ x.toInt ∧ x.toInt ≤ 700) : CI F (gup G 83 i x) := by
  refine ⟨h.1, h.2.1, fun j => ?_⟩
  have : gup G 83 i x 83 = upd (G 83) i x := if_pos rfl
  rw [this]
  unfold upd
  split
  · exact hx
  · exact h.2.2 j
theorem CI.gc {F : PF} {G : PG} {k0 k1 : Nat} (e : 83 ≠ k1) (h : CI F G) : CI F (gcp G k0 k1) := by
  refine ⟨h.1, h.2.1, fun j => ?_⟩
  have : gcp G k0 k1 83 = G 83 := if_neg e
  rw [this]
  exact h.2.2 j
/-- the board is as it was -/
def KB (F : PF) (G : PG) (F1 : PF) (G1 : PG) : Prop := F1 2 = F 2 ∧ F1 3 = F 3 ∧ F1 4 = F 4 ∧ G1 0 = G 0 ∧ G1 1 = G 1
def KT (F F1 : PF) : Prop := F1 88 = F 88
def KO (F F1 : PF) : Prop := (F1 10).toInt = (F 10).toInt
def KK (F F1 : PF) : Prop := F1 11 = F 11
def KS (F F1 : PF) : Prop := (F 11).toInt = -2 → (F1 11).toInt = -2
theorem KK.f {F F1 : PF} {k : Nat} {x : Int32} (e : 11 ≠ k) (h : KK F F1) : KK F (fup F1 k x) := by
  unfold KK
  rw [fup_n e]; exact h
theorem KK.tr {F F1 F2 : PF} (h : KK F F1) (h1 : KK F1 F2) : KK F F2 := Eq.trans h1 h
theorem KB.rf {F : PF} {G : PG} : KB F G F G := ⟨rfl, rfl, rfl, rfl, rfl⟩
theorem KB.tr {F F1 F2 : PF} {G G1 G2 : PG} (h : KB F G F1 G1) (h1 : KB F1 G1 F2 G2) : KB F G F2 G2 := ⟨h1.1.trans h.1, h1.2.1.trans h.2.1, h1.2.2.1.trans h.2.2.1, h1.2.2.2.1.trans h.2.2.2.1, h1.2.2.2.2.trans h.2.2.2.2⟩
theorem KB.f {F F1 : PF} {G G1 : PG} {k : Nat} {x : Int32} (e : 4 < k) (h : KB F G F1 G1) : KB F G (fup F1 k x) G1 := by
  refine ⟨?_, ?_, ?_, h.2.2.2.1, h.2.2.2.2⟩
  · rw [fup_n (by omega)]; exact h.1
  · rw [fup_n (by omega)]; exact h.2.1
  · rw [fup_n (by omega)]; exact h.2.2.1
theorem KB.g {F F1 : PF} {G G1 : PG} {k i : Nat} {x : Int32} (e : 1 < k) (h : KB F G F1 G1) : KB F G F1 (gup G1 k i x) := by
  refine ⟨h.1, h.2.1, h.2.2.1, ?_, ?_⟩
  · have : gup G1 k i x 0 = G1 0 := if_neg (by omega)
    rw [this]; exact h.2.2.2.1
  · have : gup G1 k i x 1 = G1 1 := if_neg (by omega)
    rw [this]; exact h.2.2.2.2
theorem KB.gc {F F1 : PF} {G G1 : PG} {k0 k : Nat} (e : 1 < k) (h : KB F G F1 G1) : KB F G F1 (gcp G1 k0 k) := by
  refine ⟨h.1, h.2.1, h.2.2.1, ?_, ?_⟩
  · have : gcp G1 k0 k 0 = G1 0 := if_neg (by omega)
    rw [this]; exact h.2.2.2.1
  · have : gcp G1 k0 k 1 = G1 1 := if_neg (by omega)
    rw [this]; exact h.2.2.2.2
theorem KT.f {F F1 : PF} {k : Nat} {x : Int32} (e : 88 ≠ k) (h : KT F F1) : KT F (fup F1 k x) := by
  unfold KT
  rw [fup_n e]; exact h
theorem KO.f {F F1 : PF} {k : Nat} {x : Int32} (e : 10 ≠ k) (h : KO F F1) : KO F (fup F1 k x) := by
  unfold KO
  rw [fup_n e]; exact h
theorem KT.tr {F F1 F2 : PF} (h : KT F F1) (h1 : KT F1 F2) : KT F F2 := Eq.trans h1 h
theorem KO.tr {F F1 F2 : PF} (h : KO F F1) (h1 : KO F1 F2) : KO F F2 := Eq.trans h1 h
theorem i_01 {x : Int32} (h : 0 ≤ x.toInt ∧ x.toInt ≤ 1) : x = 0 ∨ x = 1 := by
  by_cases e : x.toInt = 0
  · exact Or.inl (i_eq.mpr (by rw [e]; rfl))
  · exact Or.inr (i_eq.mpr (by show x.toInt = 1; omega))
theorem b_rng {x : Int32} (h : x = 0 ∨ x = 1) : 0 ≤ x.toInt ∧ x.toInt ≤ 1 := by
  rcases h with rfl | rfl <;> decide
