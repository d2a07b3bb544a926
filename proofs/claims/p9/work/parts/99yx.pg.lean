/-- an address that may be written: of all, or of a frame's own cells behind its formals -/
def SFA (F : PF) (G : PG) (fn bs : Nat → Int32) (n : Nat) (a : Int) : Prop := (0 ≤ a ∧ a < (F 37).toInt) ∨ ∃ j : Nat, j < n ∧ (bs j).toInt + cellsOf (kindsOf G (fn j).toNatClampNeg) ≤ a ∧ a < (bs j).toInt + (G 29 (fn j).toNatClampNeg).toInt
/-- values of a shape, the top of them at t - 1 -/
def VOK (S : Int → Prop) (op : Nat → Int32) : SH → Nat → Prop
  | [], _ => True
  | k :: s, t => 1 ≤ t ∧ VOK S op s (t - 1) ∧ (k = 1 → S (op (t - 1)).toInt) ∧ (k = 3 → ∀ i : Int, 0 ≤ i → i < (op (t - 1)).toInt → S ((op (t - 2)).toInt + i))
theorem VOK.cg {S S1 : Int → Prop} {op op1 : Nat → Int32} (hS : ∀ a, S a → S1 a) : ∀ (s : SH) (t : Nat), (∀ j, j < t → op1 j = op j) → VOK S op s t → VOK S1 op1 s t := by
  intro s
  induction s with
  | nil => intro t _ _; exact trivial
  | cons k s ih =>
    intro t ho h
    obtain ⟨h1, h2, h3, h4⟩ := h
    refine ⟨h1, ih (t - 1) (fun j hj => ho j (by omega)) h2, fun e => ?_, fun e i i0 i1 => ?_⟩
    · rw [ho _ (by omega)]
      exact hS _ (h3 e)
    · rw [ho _ (by omega)] at i1
      rw [ho _ (by omega)]
      exact hS _ (h4 e i i0 i1)
theorem VOK.le {S : Int → Prop} {op : Nat → Int32} : ∀ (s : SH) (t : Nat), VOK S op s t → s.length ≤ t := by
  intro s
  induction s with
  | nil => intro t _; exact Nat.zero_le _
  | cons k s ih =>
    intro t h
    have := ih _ h.2.1
    have := h.1
    rw [List.length_cons]
    omega
theorem VOK.args {S : Int → Prop} {op : Nat → Int32} : ∀ (L : List Nat) (s : SH) (t : Nat), VOK S op (argS L s) t → cellsOf L ≤ t ∧ VOK S op s (t - cellsOf L) ∧ ∀ p : Nat, pairAt L p → ∀ i : Int, 0 ≤ i → i < (op (t - cellsOf L + p + 1)).toInt → S ((op (t - cellsOf L + p)).toInt + i) := by
  intro L
  induction L with
  | nil => intro s t h; exact ⟨Nat.zero_le _, h, fun p hp => absurd hp id⟩
  | cons k L ih =>
    intro s t h
    obtain ⟨a1, a2, a3⟩ := ih (pushK k s) t h
    unfold cellsOf
    unfold pushK at a2
    by_cases e : k = 0
    · rw [if_pos e] at a2 ⊢
      obtain ⟨b1, b2, -, -⟩ := a2
      refine ⟨by omega, by rw [show t - (1 + cellsOf L) = t - cellsOf L - 1 by omega]; exact b2, fun p hp => ?_⟩
      unfold pairAt at hp
      rw [if_pos e] at hp
      have := a3 (p - 1) hp.2
      rw [show t - cellsOf L + (p - 1) = t - (1 + cellsOf L) + p by have := hp.1; omega] at this
      exact this
    · rw [if_neg e] at a2 ⊢
      obtain ⟨b1, ⟨b2, b3, -, -⟩, -, b4⟩ := a2
      have b4 := b4 rfl
      refine ⟨by omega, by rw [show t - (2 + cellsOf L) = t - cellsOf L - 1 - 1 by omega]; exact b3, fun p hp => ?_⟩
      unfold pairAt at hp
      rw [if_neg e] at hp
      rcases hp with rfl | ⟨p1, p2⟩
      · rw [show t - (2 + cellsOf L) + 0 + 1 = t - cellsOf L - 1 by omega, show t - (2 + cellsOf L) + 0 = t - cellsOf L - 2 by omega]
        exact b4
      · have := a3 (p - 2) p2
        rw [show t - cellsOf L + (p - 2) = t - (2 + cellsOf L) + p by omega] at this
        exact this
theorem pairAt_lt : ∀ (L : List Nat) (p : Nat), pairAt L p → p + 2 ≤ cellsOf L := by
  intro L
  induction L with
  | nil => intro p h; exact absurd h id
  | cons k L ih =>
    intro p h
    unfold pairAt at h
    unfold cellsOf
    by_cases e : k = 0
    · rw [if_pos e] at h ⊢
      have := ih _ h.2
      have := h.1
      omega
    · rw [if_neg e] at h ⊢
      rcases h with h | h
      · omega
      · have := ih _ h.2
        have := h.1
        omega
theorem icell_pair : ∀ (L : List Nat) (a p : Nat), icell L a → pairAt L p → a ≠ p ∧ a ≠ p + 1 := by
  intro L
  induction L with
  | nil => intro a p _ h; exact absurd h id
  | cons k L ih =>
    intro a p hi hp
    unfold icell at hi
    unfold pairAt at hp
    by_cases e : k = 0
    · rw [if_pos e] at hi hp
      rcases hi with hi | hi
      · have := hp.1
        omega
      · by_cases z : a = 0
        · have := hp.1
          omega
        · have := ih _ _ hi hp.2
          have := hp.1
          omega
    · rw [if_neg e] at hi hp
      rcases hp with rfl | hp
      · have := hi.1
        omega
      · have := ih _ _ hi.2 hp.2
        have := hi.1
        have := hp.1
        omega
/-- a frame: its function, its cells, its pairs -/
def GEO (F : PF) (G : PG) (fn bs ce : Nat → Int32) (n : Nat) (a0 a d0 d : Int) : Prop := (0 ≤ (fn n).toInt ∧ (fn n).toInt < (F 24).toInt) ∧ (bs n).toInt = a0 ∧ a = a0 + (G 29 (fn n).toNatClampNeg).toInt ∧ d = d0 + (G 28 (fn n).toNatClampNeg).toInt ∧ ∀ p : Nat, pairAt (kindsOf G (fn n).toNatClampNeg) p → ∀ i : Int, 0 ≤ i → i < (ce (a0.toNat + p + 1)).toInt → SFA F G fn bs n ((ce (a0.toNat + p)).toInt + i)
/-- the frames that wait -/
def FRS (F : PF) (G : PG) (fn bk bs op ce : Nat → Int32) : Nat → Int → Int → Nat → Prop
  | 0, a, d, t => a = (F 37).toInt ∧ d = 0 ∧ t = 0
  | n + 1, a, d, t => ∃ (a0 d0 : Int) (t0 : Nat) (A : AN) (m : Nat) (s0 : SH) (dd : Nat), FRS F G fn bk bs op ce n a0 d0 t0 ∧ GEO F G fn bs ce n a0 a d0 d ∧ TYP F G (fn n).toNatClampNeg A m ∧ (0 ≤ (bk (n + 1)).toInt ∧ (G 30 (fn n).toNatClampNeg).toInt.toNat ≤ (bk (n + 1)).toInt.toNat ∧ (bk (n + 1)).toInt.toNat ≤ m) ∧ A (bk (n + 1)).toInt.toNat = (0 :: s0, dd, false) ∧ s0.length ≤ 542 ∧ t = t0 + s0.length ∧ VOK (SFA F G fn bs (n + 1)) op s0 t
theorem SFA.cg {F : PF} {G : PG} {fn bs fn1 bs1 : Nat → Int32} {n : Nat} (h : ∀ j, j < n → fn1 j = fn j ∧ bs1 j = bs j) : ∀ a, SFA F G fn bs n a → SFA F G fn1 bs1 n a := by
  rintro a (q | ⟨j, h1, h2, h3⟩)
  · exact Or.inl q
  · refine Or.inr ⟨j, h1, ?_⟩
    rw [(h j h1).1, (h j h1).2]
    exact ⟨h2, h3⟩
theorem SFA.up {F : PF} {G : PG} {fn bs : Nat → Int32} {n m : Nat} (h : n ≤ m) : ∀ a, SFA F G fn bs n a → SFA F G fn bs m a := by
  rintro a (q | ⟨j, h1, h2⟩)
  · exact Or.inl q
  · exact Or.inr ⟨j, by omega, h2⟩
/-- the cells of the pairs of frame j stand -/
def PCS (G : PG) (fn bs ce ce1 : Nat → Int32) (j : Nat) : Prop := ∀ p : Nat, pairAt (kindsOf G (fn j).toNatClampNeg) p → ce1 ((bs j).toInt.toNat + p) = ce ((bs j).toInt.toNat + p) ∧ ce1 ((bs j).toInt.toNat + p + 1) = ce ((bs j).toInt.toNat + p + 1)
theorem GEO.cg {F : PF} {G : PG} {fn bs ce fn1 bs1 ce1 : Nat → Int32} {n : Nat} {a0 a d0 d : Int} (h : GEO F G fn bs ce n a0 a d0 d) (hf : ∀ j, j ≤ n → fn1 j = fn j ∧ bs1 j = bs j) (hc : PCS G fn bs ce ce1 n) : GEO F G fn1 bs1 ce1 n a0 a d0 d := by
  obtain ⟨h1, h2, h3, h4, h5⟩ := h
  unfold GEO
  rw [(hf n (Nat.le_refl _)).1, (hf n (Nat.le_refl _)).2]
  refine ⟨h1, h2, h3, h4, fun p hp i i0 i1 => ?_⟩
  have q := hc p hp
  rw [h2] at q
  rw [q.2] at i1
  rw [q.1]
  exact SFA.cg (fun j hj => hf j (by omega)) _ (h5 p hp i i0 i1)
theorem FRS.cg {F : PF} {G : PG} {fn bk bs op ce fn1 bk1 bs1 op1 ce1 : Nat → Int32} : ∀ (n : Nat) (a d : Int) (t : Nat), FRS F G fn bk bs op ce n a d t → (∀ j, j < n → fn1 j = fn j ∧ bs1 j = bs j) → (∀ j, j ≤ n → bk1 j = bk j) → (∀ j, j < t → op1 j = op j) → (∀ j, j < n → PCS G fn bs ce ce1 j) → FRS F G fn1 bk1 bs1 op1 ce1 n a d t := by
  intro n
  induction n with
  | zero => intro a d t h _ _ _ _; exact h
  | succ n ih =>
    rintro a d t ⟨a0, d0, t0, A, m, s0, dd, h1, h2, h3, h4, h5, h6, h7, h8⟩ hf hb ho hc
    have f1 := (hf n (Nat.lt_succ_self n)).1
    refine ⟨a0, d0, t0, A, m, s0, dd, ih a0 d0 t0 h1 (fun j hj => hf j (by omega)) (fun j hj => hb j (by omega)) (fun j hj => ho j (by omega)) (fun j hj => hc j (by omega)), h2.cg (fun j hj => hf j (by omega)) (hc n (Nat.lt_succ_self n)), by rw [f1]; exact h3, by rw [f1, hb _ (Nat.le_refl _)]; exact h4, by rw [hb _ (Nat.le_refl _)]; exact h5, h6, h7, VOK.cg (SFA.cg (fun j hj => hf j hj)) s0 t ho h8⟩
/-- where the frames lie -/
def FPL (F : PF) (G : PG) (fn bs : Nat → Int32) (n : Nat) (a : Int) : Prop := (∀ j, j < n → (F 37).toInt ≤ (bs j).toInt ∧ (bs j).toInt + (G 29 (fn j).toNatClampNeg).toInt ≤ a ∧ (cellsOf (kindsOf G (fn j).toNatClampNeg) : Int) ≤ (G 29 (fn j).toNatClampNeg).toInt) ∧ ∀ i j, i < j → j < n → (bs i).toInt + (G 29 (fn i).toNatClampNeg).toInt ≤ (bs j).toInt
theorem FPL.st {F : PF} {G : PG} (hP : PRG F G) {fn bs ce : Nat → Int32} {n : Nat} {a0 a d0 d : Int} (h : FPL F G fn bs n a0) (hg : GEO F G fn bs ce n a0 a d0 d) (ha : (F 37).toInt ≤ a0) : FPL F G fn bs (n + 1) a ∧ a0 ≤ a ∧ a - a0 ≤ 4 * (d - d0) ∧ 4 ≤ d - d0 := by
  obtain ⟨h1, h2, h3, h4, -⟩ := hg
  obtain ⟨-, -, -, o, o1, o2, o3, o4⟩ := hP.2.2.2.2.2.1 (fn n).toNatClampNeg (by rw [nN_of h1.1]; exact h1.2)
  refine ⟨⟨fun j hj => ?_, fun i j hij hj => ?_⟩, by omega, by omega, by omega⟩
  · by_cases e : j = n
    · rw [e]
      exact ⟨by omega, by omega, o3⟩
    · have := h.1 j (by omega)
      exact ⟨this.1, by omega, this.2.2⟩
  · by_cases e : j = n
    · rw [e, h2]
      exact (h.1 i (by omega)).2.1
    · exact h.2 i j hij (by omega)
theorem FRS.bd {F : PF} {G : PG} (hP : PRG F G) {fn bk bs op ce : Nat → Int32} : ∀ (n : Nat) (a d : Int) (t : Nat), FRS F G fn bk bs op ce n a d t → FPL F G fn bs n a ∧ (F 37).toInt ≤ a ∧ a ≤ (F 37).toInt + 4 * d ∧ 4 * (n : Int) ≤ d ∧ t ≤ 542 * n := by
  intro n
  induction n with
  | zero =>
    rintro a d t ⟨h1, h2, h3⟩
    exact ⟨⟨fun j hj => absurd hj (Nat.not_lt_zero _), fun i j _ hj => absurd hj (Nat.not_lt_zero _)⟩, by omega, by omega, by omega, by omega⟩
  | succ n ih =>
    rintro a d t ⟨a0, d0, t0, A, m, s0, dd, h1, h2, -, -, -, h6, h7, -⟩
    obtain ⟨b1, b2, b3, b4, b5⟩ := ih a0 d0 t0 h1
    obtain ⟨c1, c2, c3, c4⟩ := b1.st hP h2 b2
    exact ⟨c1, by omega, by omega, by omega, by omega⟩
/-- a write at a safe address leaves the pairs -/
theorem PCS.of {F : PF} {G : PG} {fn bs ce : Nat → Int32} {n : Nat} {a x : Int} {v : Int32} (hp : FPL F G fn bs n a) (h0 : 0 ≤ (F 37).toInt) (hx : SFA F G fn bs n x) : ∀ j, j < n → PCS G fn bs ce (upd ce x.toNat v) j := by
  intro j hj p hpa
  have l := pairAt_lt _ _ hpa
  have b := hp.1 j hj
  have key : x.toNat ≠ (bs j).toInt.toNat + p ∧ x.toNat ≠ (bs j).toInt.toNat + p + 1 := by
    rcases hx with q | ⟨k, k1, k2, k3⟩
    · omega
    · rcases Nat.lt_trichotomy j k with z | z | z
      · have := hp.2 j k z k1
        omega
      · subst z
        omega
      · have := hp.2 k j z hj
        have := hp.1 k k1
        omega
  exact ⟨if_neg (fun e => key.1 e.symm), if_neg (fun e => key.2 e.symm)⟩
