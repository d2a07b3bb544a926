theorem WP.p {o : PR} {Q : Int32 → PF → PG → Prop} (h : WP o Q) : PP o Q := by
  obtain ⟨r, F, G, e, q⟩ := h
  intro r1 F1 G1 e1
  rw [e] at e1
  have := Option.some.inj e1
  rw [Prod.mk.injEq, Prod.mk.injEq] at this
  obtain ⟨rfl, rfl, rfl⟩ := this
  exact q
theorem pairAt_app {N : List Nat} : ∀ (M : List Nat) (a : Nat), pairAt M a → pairAt (M ++ N) a := by
  intro M
  induction M with
  | nil => intro a h; exact absurd h id
  | cons k M ih =>
    intro a h
    rw [List.cons_append]
    unfold pairAt at h ⊢
    by_cases e : k = 0
    · rw [if_pos e] at h ⊢
      exact ⟨h.1, ih _ h.2⟩
    · rw [if_neg e] at h ⊢
      exact h.imp id (fun z => ⟨z.1, ih _ z.2⟩)
theorem pairAt_end {k : Nat} (hk : ¬ k = 0) : ∀ M : List Nat, pairAt (M ++ [k]) (cellsOf M) := by
  intro M
  induction M with
  | nil =>
    show pairAt [k] 0
    unfold pairAt
    rw [if_neg hk]
    exact Or.inl rfl
  | cons m M ih =>
    rw [List.cons_append]
    unfold pairAt cellsOf
    by_cases e : m = 0
    · rw [if_pos e, if_pos e]
      exact ⟨by omega, by rw [show 1 + cellsOf M - 1 = cellsOf M by omega]; exact ih⟩
    · rw [if_neg e, if_neg e]
      exact Or.inr ⟨by omega, by rw [show 2 + cellsOf M - 2 = cellsOf M by omega]; exact ih⟩
theorem icell_app {N : List Nat} : ∀ (M : List Nat) (a : Nat), a < cellsOf M → icell M a → icell (M ++ N) a := by
  intro M
  induction M with
  | nil => intro a h; exact absurd h (Nat.not_lt_zero _)
  | cons k M ih =>
    intro a ha h
    rw [List.cons_append]
    unfold icell at h ⊢
    unfold cellsOf at ha
    by_cases e : k = 0
    · rw [if_pos e] at h ha ⊢
      rcases h with h | h
      · exact Or.inl h
      · by_cases z : a = 0
        · exact Or.inl z
        · exact Or.inr (ih _ (by omega) h)
    · rw [if_neg e] at h ha ⊢
      exact ⟨h.1, ih _ (by have := h.1; omega) h.2⟩
theorem icell_end : ∀ M : List Nat, icell (M ++ [0]) (cellsOf M) := by
  intro M
  induction M with
  | nil =>
    show icell [0] 0
    unfold icell
    exact Or.inl rfl
  | cons m M ih =>
    rw [List.cons_append]
    unfold icell cellsOf
    by_cases e : m = 0
    · rw [if_pos e, if_pos e]
      exact Or.inr (by rw [show 1 + cellsOf M - 1 = cellsOf M by omega]; exact ih)
    · rw [if_neg e, if_neg e]
      exact ⟨by omega, by rw [show 2 + cellsOf M - 2 = cellsOf M by omega]; exact ih⟩
theorem cellsOf_app {k : Nat} : ∀ M : List Nat, cellsOf (M ++ [k]) = cellsOf M + (if k = 0 then 1 else 2) := by
  intro M
  induction M with
  | nil =>
    show (if k = 0 then 1 else 2) + 0 = 0 + (if k = 0 then 1 else 2)
    omega
  | cons m M ih =>
    rw [List.cons_append]
    show (if m = 0 then 1 else 2) + cellsOf (M ++ [k]) = (if m = 0 then 1 else 2) + cellsOf M + (if k = 0 then 1 else 2)
    rw [ih]
    omega
theorem cellsOf_le : ∀ M : List Nat, cellsOf M ≤ 2 * M.length := by
  intro M
  induction M with
  | nil => exact Nat.le_refl _
  | cons m M ih =>
    unfold cellsOf
    rw [List.length_cons]
    by_cases e : m = 0
    · rw [if_pos e]
      omega
    · rw [if_neg e]
      omega
/-- the words of all -/
def GW (F : PF) (G : PG) : Prop := (F 36).toInt ≤ 2000 ∧ ∀ k : Nat, (k : Int) < (F 36).toInt → 0 ≤ (G 39 k).toInt ∧ (0 ≤ (G 38 k).toInt ∧ (G 38 k).toInt ≤ 4) ∧ (G 39 k).toInt + (G 38 k).toInt ≤ (F 37).toInt
def SG (F : PF) (G : PG) : Prop := SI F G ∧ F 15 = 1 ∧ GW F G
/-- along the formals: what is told is in its room -/
def FI (B : Prop) (M : List Nat) (F : PF) (G : PG) : Prop := F 47 = 0 → M.length ≤ 4 ∧ (B → (F 53).toInt = cellsOf M ∧ DI (XS M F G) F G ∧ SG F G)
theorem NE.app {X X1 : TX} {M : List Nat} {k : Nat} {a b c d : Int32} (h : NE X a b c d) (e1 : X1.2.2.2.1 = X.2.2.2.1) (e2 : X.2.2.2.2.1 = cellsOf M) (e3 : X.2.2.2.2.2 = M) (e4 : X1.2.2.2.2.1 = cellsOf (M ++ [k])) (e5 : X1.2.2.2.2.2 = M ++ [k]) : NE X1 a b c d := by
  have cl := cellsOf_app (k := k) M
  have le : cellsOf M ≤ cellsOf (M ++ [k]) := by omega
  unfold NE arr at h ⊢
  rw [e1, e4, e5]
  rw [e2, e3] at h
  rcases h with h | ⟨h1, h2, h3⟩ | ⟨h1, h2, h3⟩
  · exact Or.inl h
  · refine Or.inr (Or.inl ⟨h1, fun n => ?_, h3⟩)
    obtain ⟨a1, a2, a3⟩ := h2 n
    exact ⟨a1, by omega, icell_app M _ (by omega) a3⟩
  · refine Or.inr (Or.inr ⟨h1, fun n => ?_, fun n => ?_⟩)
    · rcases h2 n with z | z | z
      · exact Or.inl ⟨z.1, z.2.1, pairAt_app M _ z.2.2⟩
      · have := z.1
        have := z.2.2
        omega
      · exact absurd z.2.1 (by decide)
    · rcases h3 n with z | z | z
      · exact Or.inl ⟨z.1, z.2.1, pairAt_app M _ z.2.2⟩
      · exact absurd z.2.1 (by decide)
      · exact Or.inr (Or.inr z)
theorem FI.st {B : Prop} {M : List Nat} {k : Nat} {x5 r : Int32} {F F1 : PF} {G G1 : PG} (h : FI B M F G) (l5 : x5.toInt = M.length) (h46 : F 46 = 1) (h54 : F 54 = 0) (z44 : F1 44 = 0) (q : FHQ x5 F G r F1 G1) (K : KX [14, 42, 43, 44, 45, 47, 48, 49, 53] [16, 17, 18, 19, 20, 21, 22, 23] F G F1 G1) (hM : M7 F F1) (sj : SJ 0 0 (F 15) F G F1 G1) (hk : r.toInt = (k : Int)) : FI B (M ++ [k]) F1 G1 := by
  intro z47
  obtain ⟨len, hb⟩ := h (hM z47)
  obtain ⟨hr, q⟩ := q
  obtain ⟨q4, q53, qd⟩ := q z44 h46
  have n4 : ¬ M.length = 4 := fun e => q4 (i_eq.mpr (by rw [l5, e]; rfl)) z47
  refine ⟨by rw [List.length_append]; show M.length + 1 ≤ 4; omega, fun b => ?_⟩
  obtain ⟨c53, di, si, h15, gw⟩ := hb b
  have i15 : (F 15).toInt = 1 := by rw [h15]; rfl
  have si1 := ((sj z44).2 ⟨si, by omega, by omega⟩).1
  have cl := cellsOf_app (k := k) M
  have cle := cellsOf_le M
  have f37 : F1 37 = F 37 := K.1 37 rfl
  have kk : (r = 0 ∧ k = 0) ∨ (¬ r = 0 ∧ ¬ k = 0) := by
    rcases hr with rfl | rfl | rfl
    · exact Or.inl ⟨rfl, by have : (0 : Int32).toInt = 0 := rfl; omega⟩
    · exact Or.inr ⟨by decide, by have : (1 : Int32).toInt = 1 := rfl; omega⟩
    · exact Or.inr ⟨by decide, by have : (2 : Int32).toInt = 2 := rfl; omega⟩
  have c53' : (F1 53).toInt = (cellsOf (M ++ [k]) : Int) := by
    rw [q53, cl]
    rcases kk with ⟨e1, e2⟩ | ⟨e1, e2⟩
    · rw [if_pos e1, if_pos e2]
      have := i_addn (F 53) (n := 1) (m := 1) rfl (by omega) (by omega)
      omega
    · rw [if_neg e1, if_neg e2]
      have := i_addn (F 53) (n := 2) (m := 2) rfl (by omega) (by omega)
      omega
  refine ⟨c53', ?_, si1, (K.1 15 rfl).trans h15, by unfold GW; rw [K.1 36 rfl, K.1 37 rfl, K.2 38 rfl, K.2 39 rfl]; exact gw⟩
  obtain ⟨d1, d2, d3, d4, d5, d6, d7, d8⟩ := qd
  have v := vp_in_iff.mp d1
  have i14 : (F 14 + 1).toInt = (F 14).toInt + 1 := i_addn _ rfl (by omega) (by omega)
  have e4 : (XS (M ++ [k]) F1 G1).2.2.2.2.1 = cellsOf (M ++ [k]) := by
    show (F1 53).toInt.toNat = _
    rw [c53']
    omega
  have e2 : (XS M F G).2.2.2.2.1 = cellsOf M := by
    show (F 53).toInt.toNat = _
    rw [c53]
    omega
  have e1 : (XS (M ++ [k]) F1 G1).2.2.2.1 = (XS M F G).2.2.2.1 := by
    show (F1 37).toInt.toNat = (F 37).toInt.toNat
    rw [f37]
  intro j hj
  rw [d2, i14] at hj
  show NE (XS (M ++ [k]) F1 G1) (G1 17 j) (G1 20 j) (G1 21 j) (G1 23 j)
  by_cases ej : j = (F 14).toNatClampNeg
  · rw [ej, d4, d6, d7, d8]
    unfold NE arr
    rw [e4, e1]
    rcases kk with ⟨g1, g2⟩ | ⟨g1, g2⟩
    · rw [if_pos g1, if_pos g1]
      refine Or.inr (Or.inl ⟨rfl, fun _ => ⟨by omega, ?_, ?_⟩, fun z => absurd z (by decide)⟩)
      · rw [c53, cl, if_pos g2]
        omega
      · rw [c53, g2]
        exact icell_end M
    · rw [if_neg g1, if_neg g1]
      refine Or.inr (Or.inr ⟨rfl, fun _ => Or.inl ⟨rfl, by omega, ?_⟩, fun z => absurd z (by decide)⟩)
      rw [c53]
      exact pairAt_end g2 M
  · obtain ⟨f1, -, f3, f4, f5⟩ := d3 j ej
    rw [f1, f3, f4, f5]
    have nn := nN_of v.1
    exact NE.app (di j (by omega)) e1 e2 rfl e4 rfl
theorem gup_same {G : PG} {k i : Nat} {v : Int32} (h : G k i = v) : gup G k i v = G := by
  funext j n
  by_cases e : j = k
  · rw [e]
    by_cases e1 : n = i
    · rw [e1, gup_i]
      exact h.symm
    · exact gup_x e1
  · rw [gup_o e]
/-- a function's code is typed -/
def XF (F : PF) (G : PG) (g : Nat) : TX := (false, (F 24).toInt.toNat, kindsOf G, (F 37).toInt.toNat, (G 29 g).toInt.toNat, kindsOf G g)
/-- a typing of a function's code -/
def TYP (F : PF) (G : PG) (g : Nat) (A : AN) (n : Nat) : Prop := (G 30 g).toInt.toNat < n ∧ n ≤ sN F ∧ A (G 30 g).toInt.toNat = ([], 0, false) ∧ (∀ k, (G 30 g).toInt.toNat ≤ k → k < n → TT (XF F G g) G A n k) ∧ (A n).1.length = 700 ∧ ∀ k, k < (G 30 g).toInt.toNat → (A k).1.length = 700
def FNT (F : PF) (G : PG) (g : Nat) : Prop := 0 ≤ (G 30 g).toInt ∧ (∃ (A : AN) (n : Nat), TYP F G g A n) ∧ cellsOf (kindsOf G g) ≤ 8 ∧ ∃ o : Nat, o ≤ 200 ∧ (G 28 g).toInt = 4 + cellsOf (kindsOf G g) + o ∧ (cellsOf (kindsOf G g) : Int) ≤ (G 29 g).toInt ∧ (G 29 g).toInt ≤ cellsOf (kindsOf G g) + 4 * (o : Int)
