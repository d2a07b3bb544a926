/-- the names so far: name k stands at ps k and is ls k long; no two are the same -/
def SAMET (b : Nat → Int32) (p l q m : Nat) : Prop := l = m ∧ ∀ j : Nat, j < l → b (p + j) = b (q + j)
def NT (b : Nat → Int32) (n K : Nat) (ps ls : Nat → Nat) : Prop := (∀ k : Nat, k < K → 1 ≤ ls k ∧ ls k ≤ 16 ∧ ps k + ls k ≤ n ∧ LET (b (ps k))) ∧ (∀ i j : Nat, i < j → j < K → ps i + ls i + 1 ≤ ps j) ∧ ∀ i j : Nat, i < j → j < K → ¬ SAMET b (ps i) (ls i) (ps j) (ls j)
theorem pigeon : ∀ (M K : Nat) (f : Nat → Nat), (∀ i : Nat, i < K → f i < M) → (∀ i j : Nat, i < j → j < K → ¬ f i = f j) → K ≤ M := by
  intro M
  induction M with
  | zero =>
    intro K f h _
    rcases Nat.eq_zero_or_pos K with q | q
    · omega
    · have := h 0 q
      omega
  | succ M ih =>
    intro K f h g
    rcases Nat.eq_zero_or_pos K with q | q
    · omega
    · -- the last one's place is given to the one that stands in place M
      have r := ih (K - 1) (fun i => if f i = M then f (K - 1) else f i) ?_ ?_
      · omega
      · intro i hi
        show (if f i = M then f (K - 1) else f i) < M
        have a := h i (by omega)
        have c := h (K - 1) (by omega)
        have d := g i (K - 1) (by omega) (by omega)
        by_cases e : f i = M
        · rw [if_pos e]
          omega
        · rw [if_neg e]
          omega
      · intro i j hij hj
        show ¬ (if f i = M then f (K - 1) else f i) = (if f j = M then f (K - 1) else f j)
        have a := g i j hij (by omega)
        have c := g i (K - 1) (by omega) (by omega)
        have d := g j (K - 1) (by omega) (by omega)
        by_cases e : f i = M
        · rw [if_pos e]
          by_cases e2 : f j = M
          · omega
          · rw [if_neg e2]
            omega
        · rw [if_neg e]
          by_cases e2 : f j = M
          · rw [if_pos e2]
            exact c
          · rw [if_neg e2]
            exact a
def lix (c : Int32) : Nat := if c.toInt = 95 then 26 else if c.toInt < 95 then (c.toInt - 65).toNat else (c.toInt - 70).toNat
theorem lix_lt {c : Int32} (h : LET c) : lix c < 53 := by
  unfold lix
  unfold LET at h
  split
  · omega
  · split <;> omega
theorem lix_one {c d : Int32} (h : LET c) (g : LET d) (e : lix c = lix d) : c = d := by
  unfold lix at e
  unfold LET at h g
  refine i_eq.mpr ?_
  split at e
  · split at e
    · omega
    · split at e <;> omega
  · split at e
    · split at e
      · omega
      · split at e <;> omega
    · split at e
      · omega
      · split at e <;> omega
theorem NT.few {b : Nat → Int32} {n K : Nat} {ps ls : Nat → Nat} (hn : n ≤ 4000) (h : NT b n K ps ls) : K ≤ 1387 := by
  refine pigeon 1387 K (fun k => if ls k = 1 then lix (b (ps k)) else 53 + ps k / 3) (fun i hi => ?_) (fun i j hij hj => ?_)
  · show (if ls i = 1 then lix (b (ps i)) else 53 + ps i / 3) < 1387
    obtain ⟨a, c, d, e⟩ := h.1 i hi
    by_cases q : ls i = 1
    · rw [if_pos q]
      have := lix_lt e
      omega
    · rw [if_neg q]
      omega
  · show ¬ (if ls i = 1 then lix (b (ps i)) else 53 + ps i / 3) = (if ls j = 1 then lix (b (ps j)) else 53 + ps j / 3)
    obtain ⟨a, c, d, e⟩ := h.1 i (by omega)
    obtain ⟨a', c', d', e'⟩ := h.1 j hj
    have s := h.2.1 i j hij hj
    by_cases q : ls i = 1
    · rw [if_pos q]
      have := lix_lt e
      by_cases q2 : ls j = 1
      · rw [if_pos q2]
        intro z
        refine h.2.2 i j hij hj ⟨by omega, fun t ht => ?_⟩
        have t0 : t = 0 := by omega
        rw [t0]
        exact lix_one e e' z
      · rw [if_neg q2]
        omega
    · rw [if_neg q]
      by_cases q2 : ls j = 1
      · rw [if_pos q2]
        have := lix_lt e'
        omega
      · rw [if_neg q2]
        omega
/-- chains by a hash: head h and next v as Ints (-1: none) -/
def CHN (K M : Nat) (hs : Nat → Nat) (hd : Nat → Int) (nx : Nat → Int) : Prop := (∀ h : Nat, h < M → -1 ≤ hd h ∧ hd h < K ∧ (0 ≤ hd h → hs (hd h).toNat = h) ∧ ∀ k : Nat, k < K → hd h < k → ¬ hs k = h) ∧ ∀ v : Nat, v < K → -1 ≤ nx v ∧ nx v < v ∧ (0 ≤ nx v → hs (nx v).toNat = hs v) ∧ ∀ k : Nat, nx v < k → k < v → ¬ hs k = hs v
theorem CHN.zero {M : Nat} {hs : Nat → Nat} {hd nx : Nat → Int} (h : ∀ k : Nat, k < M → hd k = -1) : CHN 0 M hs hd nx := ⟨fun k hk => by rw [h k hk]; exact ⟨by omega, by omega, fun q => absurd q (by omega), fun k hk => absurd hk (by omega)⟩, fun v hv => absurd hv (by omega)⟩
theorem CHN.more {K M : Nat} {hs hs' : Nat → Nat} {hd nx hd' nx' : Nat → Int} {h : Nat} (c : CHN K M hs hd nx) (hh : h < M) (e1 : ∀ k : Nat, k < K → hs' k = hs k) (e2 : hs' K = h) (e3 : hd' h = K) (e4 : ∀ k : Nat, k < M → ¬ k = h → hd' k = hd k) (e5 : nx' K = hd h) (e6 : ∀ k : Nat, k < K → nx' k = nx k) : CHN (K + 1) M hs' hd' nx' := by
  refine ⟨fun k hk => ?_, fun v hv => ?_⟩
  · by_cases q : k = h
    · rw [q, e3]
      exact ⟨by omega, by omega, fun _ => by rw [show ((K : Nat) : Int).toNat = K by omega]; exact e2, fun j hj hj2 => by omega⟩
    · rw [e4 k hk q]
      obtain ⟨a, d, f, g⟩ := c.1 k hk
      refine ⟨a, by omega, fun z => by rw [e1 _ (by omega)]; exact f z, fun j hj hj2 => ?_⟩
      rcases Nat.lt_or_ge j K with u | u
      · rw [e1 j u]
        exact g j u hj2
      · rw [show j = K by omega, e2]
        exact fun z => q z.symm
  · rcases Nat.lt_or_ge v K with u | u
    · rw [e6 v u]
      obtain ⟨a, d, f, g⟩ := c.2 v u
      exact ⟨a, d, fun z => by rw [e1 _ (by omega), e1 v u]; exact f z, fun j hj hj2 => by rw [e1 j (by omega), e1 v u]; exact g j hj hj2⟩
    · have ev : v = K := by omega
      rw [ev, e5]
      obtain ⟨a, d, f, g⟩ := c.1 h hh
      exact ⟨a, by omega, fun z => by rw [e1 _ (by omega), e2]; exact f z, fun j hj hj2 => by rw [e1 j hj2, e2]; exact g j hj2 hj⟩
