abbrev SH : Type := List Nat
abbrev AN : Type := Nat → SH × Nat × Bool
abbrev TX : Type := Bool × Nat × (Nat → List Nat) × Nat × Nat × List Nat
/-- the cells of formals of these kinds -/
def cellsOf : List Nat → Nat
  | [] => 0
  | k :: L => (if k = 0 then 1 else 2) + cellsOf L
def pairAt : List Nat → Nat → Prop
  | [], _ => False
  | k :: L, a => if k = 0 then 1 ≤ a ∧ pairAt L (a - 1) else a = 0 ∨ (2 ≤ a ∧ pairAt L (a - 2))
def icell : List Nat → Nat → Prop
  | [], _ => True
  | k :: L, a => if k = 0 then a = 0 ∨ icell L (a - 1) else 2 ≤ a ∧ icell L (a - 2)
def pushK (k : Nat) (s : SH) : SH := if k = 0 then 0 :: s else 3 :: 2 :: s
def argS : List Nat → SH → SH
  | [], s => s
  | k :: L, s => argS L (pushK k s)
/-- an array of a text: own formal, own, or all's -/
def arr (X : TX) (a b e : Int32) : Prop := (b = -1 ∧ 0 ≤ a.toInt ∧ pairAt X.2.2.2.2.2 a.toInt.toNat) ∨ (1 ≤ b.toInt ∧ e = 1 ∧ (cellsOf X.2.2.2.2.2 : Int) ≤ a.toInt ∧ a.toInt + b.toInt ≤ (X.2.2.2.2.1 : Int)) ∨ (1 ≤ b.toInt ∧ e = 0 ∧ 0 ≤ a.toInt ∧ a.toInt + b.toInt ≤ (X.2.2.2.1 : Int))
/-- what a step that only goes on does to the shape -/
def opI (X : TX) (w a b e : Int32) (s s1 : SH) : Prop :=
  (w = 0 ∧ s1 = 0 :: s) ∨ (w = 10 ∧ ∃ s0, s = 0 :: 0 :: s0 ∧ s1 = 0 :: s0) ∨ (w = 11 ∧ ∃ s0, s = 0 :: s0 ∧ s1 = 0 :: s0) ∨ (w = 23 ∧ ∃ s0, s = 0 :: s0 ∧ s1 = 0 :: s0) ∨
  (X.1 = false ∧ ((w = 1 ∧ 0 ≤ a.toInt ∧ a.toInt < (X.2.2.2.2.1 : Int) ∧ s1 = 0 :: s) ∨ (w = 2 ∧ 0 ≤ a.toInt ∧ a.toInt < (X.2.2.2.2.1 : Int) ∧ icell X.2.2.2.2.2 a.toInt.toNat ∧ s = 0 :: s1) ∨
   (w = 3 ∧ 0 ≤ a.toInt ∧ a.toInt < (X.2.2.2.1 : Int) ∧ s1 = 0 :: s) ∨ (w = 4 ∧ 0 ≤ a.toInt ∧ a.toInt < (X.2.2.2.1 : Int) ∧ s = 0 :: s1) ∨
   (w = 5 ∧ arr X a b e ∧ s1 = 3 :: 2 :: s) ∨ (w = 6 ∧ arr X a b (e &&& 1) ∧ ∃ s0, s = 0 :: s0 ∧ s1 = 1 :: s0) ∨
   (w = 7 ∧ ∃ s0, s = 1 :: s0 ∧ s1 = 0 :: s0) ∨ (w = 8 ∧ s = 0 :: 1 :: s1) ∨ (w = 9 ∧ ∃ s0, s = 1 :: s0 ∧ s1 = 1 :: 1 :: s0) ∨
   (w = 18 ∧ s = 0 :: s1) ∨ (w = 19 ∧ s = 0 :: s1) ∨ (w = 21 ∧ s1 = 0 :: s) ∨
   (w = 22 ∧ 0 ≤ b.toInt ∧ (cellsOf X.2.2.2.2.2 : Int) ≤ a.toInt ∧ a.toInt + b.toInt ≤ (X.2.2.2.2.1 : Int) ∧ s1 = s)))
/-- a step from k to q, where the shape is s -/
def jp (X : TX) (A : AN) (B k q : Nat) (s : SH) : Prop := q ≤ B ∧ (A q).1 = s ∧ (A q).2.2 = false ∧ (((A q).2.1 < (A k).2.1 ∧ X.1 = false) ∨ ((A q).2.1 = (A k).2.1 ∧ k < q))
def TT1 (X : TX) (w a b e : Int32) (A : AN) (B k : Nat) : Prop := (A k).1.length ≤ 600 ∧
  ((∃ s1, opI X w a b e (A k).1 s1 ∧ jp X A B k (k + 1) s1) ∨ (w = 12 ∧ 0 ≤ a.toInt ∧ jp X A B k a.toInt.toNat (A k).1) ∨
   ((w = 13 ∨ w = 14) ∧ ∃ s0, (A k).1 = 0 :: s0 ∧ 0 ≤ a.toInt ∧ jp X A B k a.toInt.toNat s0 ∧ jp X A B k (k + 1) s0) ∨
   (X.1 = false ∧ ((w = 15 ∧ k + 1 ≤ B ∧ (A (k + 1)).1 = (A k).1) ∨
    (w = 16 ∧ (A k).2.2 = true ∧ 0 ≤ a.toInt ∧ a.toInt < (X.2.1 : Int) ∧ ∃ s0 : SH, (A k).1 = argS (X.2.2.1 a.toInt.toNat) s0 ∧ s0.length ≤ 542 ∧ jp X A B k (k + 1) (0 :: s0)) ∨
    (w = 17 ∧ (A k).1 = [0]) ∨ (w = 20 ∧ ∃ s0, (A k).1 = 0 :: s0))))
def TT (X : TX) (G : PG) (A : AN) (B k : Nat) : Prop := TT1 X (G 56 k) (G 57 k) (G 58 k) (G 59 k) A B k
/-- a jump that waits for its aim: behind it the shape s and the depth d -/
def HO (X : TX) (G : PG) (A : AN) (B : Nat) (x : Nat × SH × Nat) : Prop := (A x.1).1.length ≤ 600 ∧ (x.2.2 < (A x.1).2.1 ∧ X.1 = false ∨ x.2.2 = (A x.1).2.1) ∧ ((G 56 x.1 = 12 ∧ (A x.1).1 = x.2.1) ∨ ((G 56 x.1 = 13 ∨ G 56 x.1 = 14) ∧ (A x.1).1 = 0 :: x.2.1 ∧ jp X A B x.1 (x.1 + 1) x.2.1))
def cEq (G G1 : PG) (k : Nat) : Prop := G1 56 k = G 56 k ∧ G1 57 k = G 57 k ∧ G1 58 k = G 58 k ∧ G1 59 k = G 59 k
abbrev sN (F : PF) : Nat := (F 60).toNatClampNeg
def ND (hs : List (Nat × SH × Nat)) : Prop := (hs.map (fun x => x.1)).Nodup
theorem ND.cons {x : Nat × SH × Nat} {hs : List (Nat × SH × Nat)} (h : ND hs) (hx : ∀ y ∈ hs, y.1 ≠ x.1) : ND (x :: hs) := by
  unfold ND
  rw [List.map_cons, List.nodup_cons]
  refine ⟨fun q => ?_, h⟩
  obtain ⟨y, q1, q2⟩ := List.mem_map.mp q
  exact hx y q1 q2
theorem ND.app {a b : List (Nat × SH × Nat)} (ha : ND a) (hb : ND b) (h : ∀ x ∈ a, ∀ y ∈ b, x.1 ≠ y.1) : ND (a ++ b) := by
  unfold ND
  rw [List.map_append, List.nodup_append]
  refine ⟨ha, hb, ?_⟩
  intro p hp q hq
  obtain ⟨x, x1, x2⟩ := List.mem_map.mp hp
  obtain ⟨y, y1, y2⟩ := List.mem_map.mp hq
  rw [← x2, ← y2]
  exact h x x1 y y1
theorem ND.cut {a b : List (Nat × SH × Nat)} {x : Nat × SH × Nat} (h : ND (a ++ x :: b)) : ND (a ++ b) ∧ ∀ y ∈ a ++ b, y.1 ≠ x.1 := by
  induction a with
  | nil =>
    unfold ND at h
    rw [List.nil_append, List.map_cons, List.nodup_cons] at h
    refine ⟨h.2, fun y hy q => h.1 (List.mem_map.mpr ⟨y, hy, q⟩)⟩
  | cons z a ih =>
    unfold ND at h
    rw [List.cons_append, List.map_cons, List.nodup_cons] at h
    obtain ⟨i1, i2⟩ := ih h.2
    have hz : ∀ y ∈ a ++ x :: b, y.1 ≠ z.1 := fun y hy q => h.1 (List.mem_map.mpr ⟨y, hy, q⟩)
    refine ⟨ND.cons i1 (fun y hy => hz y ?_), ?_⟩
    · rcases List.mem_append.mp hy with q | q
      · exact List.mem_append_left _ q
      · exact List.mem_append_right _ (List.mem_cons_of_mem _ q)
    · intro y hy
      rcases List.mem_cons.mp (show y ∈ z :: (a ++ b) from hy) with rfl | q
      · exact fun q => hz x (List.mem_append_right _ (List.mem_cons_self ..)) q.symm
      · exact i2 y q
/-- code made from one state to another: typed but for what waits -/
def EX (X : TX) (F0 : PF) (G0 : PG) (A0 : AN) (F : PF) (G : PG) (s : SH) (d : Nat) (hs : List (Nat × SH × Nat)) : Prop :=
  ∃ A : AN, ND hs ∧ sN F0 ≤ sN F ∧ (∀ k, k ≤ sN F0 → A k = A0 k) ∧ A (sN F) = (s, d, false) ∧ (∀ k, k < sN F0 → cEq G0 G k) ∧ (∀ x ∈ hs, sN F0 ≤ x.1 ∧ x.1 < sN F ∧ HO X G A (sN F) x) ∧ (∀ k, sN F0 ≤ k → k ≤ sN F → (A0 (sN F0)).2.1 ≤ (A k).2.1) ∧ ∀ k, sN F0 ≤ k → k < sN F → TT X G A (sN F) k ∨ ∃ x ∈ hs, x.1 = k
theorem jp.ext {X : TX} {A A1 : AN} {B B1 k q : Nat} {s : SH} (h : jp X A B k q s) (hk : k ≤ B) (hA : ∀ j, j ≤ B → A1 j = A j) (hB : B ≤ B1) : jp X A1 B1 k q s := by
  obtain ⟨h1, h2, h3, h4⟩ := h
  unfold jp
  rw [hA q h1, hA k hk]
  exact ⟨Nat.le_trans h1 hB, h2, h3, h4⟩
theorem TT1.ext {X : TX} {w a b e : Int32} {A A1 : AN} {B B1 k : Nat} (h : TT1 X w a b e A B k) (hk : k ≤ B) (hA : ∀ j, j ≤ B → A1 j = A j) (hB : B ≤ B1) : TT1 X w a b e A1 B1 k := by
  obtain ⟨h0, h⟩ := h
  unfold TT1
  rw [hA k hk]
  refine ⟨h0, ?_⟩
  rcases h with ⟨s1, h1, h2⟩ | ⟨h1, h2, h3⟩ | ⟨h1, s0, h2, h3, h4, h5⟩ | ⟨hm, h⟩
  · exact Or.inl ⟨s1, h1, h2.ext hk hA hB⟩
  · exact Or.inr (Or.inl ⟨h1, h2, h3.ext hk hA hB⟩)
  · exact Or.inr (Or.inr (Or.inl ⟨h1, s0, h2, h3, h4.ext hk hA hB, h5.ext hk hA hB⟩))
  · refine Or.inr (Or.inr (Or.inr ⟨hm, ?_⟩))
    rcases h with ⟨h1, h2, h3⟩ | ⟨h1, h2, h3, h4, s0, h5, h6, h7⟩ | h | h
    · refine Or.inl ⟨h1, Nat.le_trans h2 hB, ?_⟩
      rw [hA (k + 1) h2]
      exact h3
    · exact Or.inr (Or.inl ⟨h1, h2, h3, h4, s0, h5, h6, h7.ext hk hA hB⟩)
    · exact Or.inr (Or.inr (Or.inl h))
    · exact Or.inr (Or.inr (Or.inr h))
theorem TT.ext {X : TX} {G G1 : PG} {A A1 : AN} {B B1 k : Nat} (h : TT X G A B k) (hk : k ≤ B) (hA : ∀ j, j ≤ B → A1 j = A j) (hB : B ≤ B1) (hc : cEq G G1 k) : TT X G1 A1 B1 k := by
  unfold TT
  rw [hc.1, hc.2.1, hc.2.2.1, hc.2.2.2]
  exact TT1.ext h hk hA hB
theorem HO.ext {X : TX} {G G1 : PG} {A A1 : AN} {B B1 : Nat} {x : Nat × SH × Nat} (h : HO X G A B x) (hk : x.1 ≤ B) (hA : ∀ j, j ≤ B → A1 j = A j) (hB : B ≤ B1) (hc : cEq G G1 x.1) : HO X G1 A1 B1 x := by
  obtain ⟨h0, h1, h2⟩ := h
  unfold HO
  rw [hA x.1 hk, hc.1]
  refine ⟨h0, h1, ?_⟩
  rcases h2 with h2 | ⟨h2, h3, h4⟩
  · exact Or.inl h2
  · exact Or.inr ⟨h2, h3, h4.ext hk hA hB⟩
theorem cEq.rf {G : PG} {k : Nat} : cEq G G k := ⟨rfl, rfl, rfl, rfl⟩
theorem cEq.tr {G G1 G2 : PG} {k : Nat} (h : cEq G G1 k) (h1 : cEq G1 G2 k) : cEq G G2 k := ⟨h1.1.trans h.1, h1.2.1.trans h.2.1, h1.2.2.1.trans h.2.2.1, h1.2.2.2.trans h.2.2.2⟩
/-- nothing made yet -/
theorem EX.rf {X : TX} {F : PF} {G : PG} {A : AN} {s : SH} {d : Nat} (h : A (sN F) = (s, d, false)) : EX X F G A F G s d [] := by
  refine ⟨A, List.nodup_nil, Nat.le_refl _, fun _ _ => rfl, h, fun _ _ => cEq.rf, (fun x hx => nomatch hx), (fun k h1 h2 => by rw [show k = sN F from Nat.le_antisymm h2 h1]; exact Nat.le_refl _), fun k h1 h2 => absurd h2 (Nat.not_lt.mpr h1)⟩
/-- one made behind the other -/
theorem EX.tr {X : TX} {F0 F F1 : PF} {G0 G G1 : PG} {A0 : AN} {s s1 : SH} {d d1 : Nat} {hs hs1 : List (Nat × SH × Nat)} (h : EX X F0 G0 A0 F G s d hs) (h1 : ∀ A : AN, A (sN F) = (s, d, false) → EX X F G A F1 G1 s1 d1 hs1) : EX X F0 G0 A0 F1 G1 s1 d1 (hs1 ++ hs) := by
  obtain ⟨A, a0, a1, a2, a3, a4, a5, a7, a6⟩ := h
  obtain ⟨A1, b0, b1, b2, b3, b4, b5, b7, b6⟩ := h1 A a3
  refine ⟨A1, ND.app b0 a0 (fun x hx y hy => by have := (b5 x hx).1; have := (a5 y hy).2.1; omega), Nat.le_trans a1 b1, fun k hk => (b2 k (Nat.le_trans hk a1)).trans (a2 k hk), b3, fun k hk => (a4 k hk).tr (b4 k (Nat.lt_of_lt_of_le hk a1)), ?_, ?_, ?_⟩
  · intro x hx
    rcases List.mem_append.mp hx with hx | hx
    · obtain ⟨c1, c2, c3⟩ := b5 x hx
      exact ⟨Nat.le_trans a1 c1, c2, c3⟩
    · obtain ⟨c1, c2, c3⟩ := a5 x hx
      exact ⟨c1, Nat.lt_of_lt_of_le c2 b1, c3.ext (Nat.le_of_lt c2) b2 b1 (b4 _ c2)⟩
  · intro k k1 k2
    by_cases c : sN F ≤ k
    · exact Nat.le_trans (a7 _ a1 (Nat.le_refl _)) (b7 k c k2)
    · rw [b2 k (by omega)]
      exact a7 k k1 (by omega)
  · intro k k1 k2
    by_cases c : sN F ≤ k
    · rcases b6 k c k2 with q | ⟨x, q, q1⟩
      · exact Or.inl q
      · exact Or.inr ⟨x, List.mem_append_left _ q, q1⟩
    · have c : k < sN F := Nat.lt_of_not_le c
      rcases a6 k k1 c with q | ⟨x, q, q1⟩
      · exact Or.inl (q.ext (Nat.le_of_lt c) b2 b1 (b4 _ c))
      · exact Or.inr ⟨x, List.mem_append_right _ q, q1⟩
/-- states that differ in nothing the code knows -/
theorem EX.st {X : TX} {F0 F F1 : PF} {G0 G G1 : PG} {A0 : AN} {s : SH} {d : Nat} {hs : List (Nat × SH × Nat)} (h : EX X F0 G0 A0 F G s d hs) (e : F1 60 = F 60) (e1 : ∀ k, 56 ≤ k → k ≤ 59 → G1 k = G k) : EX X F0 G0 A0 F1 G1 s d hs := by
  have hc : ∀ k, cEq G G1 k := fun k => ⟨by rw [e1 56 (by decide) (by decide)], by rw [e1 57 (by decide) (by decide)], by rw [e1 58 (by decide) (by decide)], by rw [e1 59 (by decide) (by decide)]⟩
  obtain ⟨A, a0, a1, a2, a3, a4, a5, a7, a6⟩ := h
  have en : sN F1 = sN F := by show (F1 60).toNatClampNeg = _; rw [e]
  refine ⟨A, a0, by rw [en]; exact a1, a2, by rw [en]; exact a3, fun k hk => (a4 k hk).tr (hc k), ?_, by rw [en]; exact a7, ?_⟩
  · intro x hx
    obtain ⟨c1, c2, c3⟩ := a5 x hx
    rw [en]
    exact ⟨c1, c2, c3.ext (Nat.le_of_lt c2) (fun _ _ => rfl) (Nat.le_refl _) (hc _)⟩
  · intro k k1 k2
    rw [en] at k2 ⊢
    rcases a6 k k1 k2 with q | q
    · exact Or.inl (q.ext (Nat.le_of_lt k2) (fun _ _ => rfl) (Nat.le_refl _) (hc _))
    · exact Or.inr q
theorem nI_inc {x : Int32} (h : vp_in x 9000) : (x + 1).toNatClampNeg = x.toNatClampNeg + 1 := by
  obtain ⟨h0, h1⟩ := vp_in_iff.mp h
  have e : (x + 1).toInt = x.toInt + 1 := i_addn x rfl (by omega) (by omega)
  show (x + 1).toInt.toNat = x.toInt.toNat + 1
  omega
def aup (A : AN) (n : Nat) (v : SH × Nat × Bool) : AN := fun k => if k = n then v else A k
theorem aup_s {A : AN} {n : Nat} {v : SH × Nat × Bool} : aup A n v n = v := if_pos rfl
theorem aup_n {A : AN} {n k : Nat} {v : SH × Nat × Bool} (h : k ≠ n) : aup A n v k = A k := if_neg h
/-- a step is made: it is typed, or waits -/
theorem EX.emit {X : TX} {F0 F F1 : PF} {G0 G G1 : PG} {A0 : AN} {s s1 : SH} {d d1 : Nat} {hs hs1 : List (Nat × SH × Nat)} (h : EX X F0 G0 A0 F G s d hs) (hn : vp_in (F 60) 9000) (e : F1 60 = F 60 + 1) (ec : ∀ k, k ≠ sN F → cEq G G1 k) (hs1e : hs1 = hs ∨ ∃ x : Nat × SH × Nat, x.1 = sN F ∧ hs1 = x :: hs) (hd1 : d ≤ d1 ∨ (A0 (sN F0)).2.1 ≤ d1)
    (t : ∀ A : AN, A (sN F) = (s, d, false) → A (sN F + 1) = (s1, d1, false) → (hs1 = hs ∧ TT X G1 A (sN F + 1) (sN F)) ∨ ∃ x : Nat × SH × Nat, hs1 = x :: hs ∧ x.1 = sN F ∧ HO X G1 A (sN F + 1) x) : EX X F0 G0 A0 F1 G1 s1 d1 hs1 := by
  obtain ⟨A, a0, a1, a2, a3, a4, a5, a7, a6⟩ := h
  have en : sN F1 = sN F + 1 := by show (F1 60).toNatClampNeg = _; rw [e]; exact nI_inc hn
  have d0 : (A0 (sN F0)).2.1 ≤ d1 := by
    rcases hd1 with q | q
    · have := a7 _ a1 (Nat.le_refl _)
      rw [a3] at this
      exact Nat.le_trans this q
    · exact q
  have nd : ND hs1 := by
    rcases hs1e with q | ⟨x, q1, q⟩
    · rw [q]; exact a0
    · rw [q]; exact ND.cons a0 (fun y hy => by have := (a5 y hy).2.1; omega)
  have hA : ∀ j, j ≤ sN F → aup A (sN F + 1) (s1, d1, false) j = A j := fun j hj => aup_n (by omega)
  have t := t (aup A (sN F + 1) (s1, d1, false)) ((hA _ (Nat.le_refl _)).trans a3) aup_s
  have old : ∀ x ∈ hs, sN F0 ≤ x.1 ∧ x.1 < sN F + 1 ∧ HO X G1 (aup A (sN F + 1) (s1, d1, false)) (sN F + 1) x := by
    intro x hx
    obtain ⟨c1, c2, c3⟩ := a5 x hx
    exact ⟨c1, by omega, c3.ext (Nat.le_of_lt c2) hA (Nat.le_succ _) (ec _ (by omega))⟩
  have oldk : ∀ k, sN F0 ≤ k → k < sN F → TT X G1 (aup A (sN F + 1) (s1, d1, false)) (sN F + 1) k ∨ ∃ x ∈ hs, x.1 = k := by
    intro k k1 k2
    rcases a6 k k1 k2 with q | q
    · exact Or.inl (q.ext (Nat.le_of_lt k2) hA (Nat.le_succ _) (ec _ (by omega)))
    · exact Or.inr q
  refine ⟨aup A (sN F + 1) (s1, d1, false), nd, by omega, fun k hk => (hA k (Nat.le_trans hk a1)).trans (a2 k hk), by rw [en]; exact aup_s, fun k hk => (a4 k hk).tr (ec k (by omega)), ?_, ?_, ?_⟩
  · intro x hx
    rw [en]
    rcases t with ⟨q, -⟩ | ⟨y, q, q1, q2⟩
    · rw [q] at hx
      exact old x hx
    · rw [q] at hx
      rcases List.mem_cons.mp hx with rfl | hx
      · exact ⟨by omega, by omega, q2⟩
      · exact old x hx
  · intro k k1 k2
    rw [en] at k2
    by_cases c : k = sN F + 1
    · rw [c, aup_s]
      exact d0
    · rw [hA k (by omega)]
      exact a7 k k1 (by omega)
  · intro k k1 k2
    rw [en] at k2 ⊢
    by_cases c : k = sN F
    · subst c
      rcases t with ⟨-, q⟩ | ⟨y, q, q1, q2⟩
      · exact Or.inl q
      · exact Or.inr ⟨y, by rw [q]; exact List.mem_cons_self .., q1⟩
    · rcases oldk k k1 (by omega) with q | ⟨x, q, q1⟩
      · exact Or.inl q
      · refine Or.inr ⟨x, ?_, q1⟩
        rcases t with ⟨q2, -⟩ | ⟨y, q2, -, -⟩
        · rw [q2]; exact q
        · rw [q2]; exact List.mem_cons_of_mem _ q
/-- a step that only goes on -/
theorem EX.op {X : TX} {F0 F F1 : PF} {G0 G G1 : PG} {A0 : AN} {s s1 : SH} {d : Nat} {hs : List (Nat × SH × Nat)} (h : EX X F0 G0 A0 F G s d hs) (hn : vp_in (F 60) 9000) (hl : s.length ≤ 600) (e : F1 60 = F 60 + 1) (ec : ∀ k, k ≠ sN F → cEq G G1 k) (ho : opI X (G1 56 (sN F)) (G1 57 (sN F)) (G1 58 (sN F)) (G1 59 (sN F)) s s1) : EX X F0 G0 A0 F1 G1 s1 d hs := by
  refine EX.emit h hn e ec (Or.inl rfl) (Or.inl (Nat.le_refl _)) (fun A h1 h2 => Or.inl ⟨rfl, ?_⟩)
  unfold TT TT1
  rw [h1]
  refine ⟨hl, Or.inl ⟨s1, ho, Nat.le_refl _, by rw [h2], by rw [h2], Or.inr ⟨?_, Nat.lt_succ_self _⟩⟩⟩
  rw [h2, h1]
theorem gup_o {G : PG} {k j i : Nat} {v : Int32} (h : j ≠ k) : gup G k i v j = G j := if_neg h
theorem gup_i {G : PG} {k i : Nat} {v : Int32} : gup G k i v k i = v := by
  show (if k = k then upd (G k) i v else G k) i = v
  rw [if_pos rfl]
  exact if_pos rfl
theorem gup_x {G : PG} {k i j : Nat} {v : Int32} (h : j ≠ i) : gup G k i v k j = G k j := by
  show (if k = k then upd (G k) i v else G k) j = G k j
  rw [if_pos rfl]
  exact if_neg h
/-- the three writes of a step -/
abbrev g3s (G : PG) (n : Nat) (w a b : Int32) : PG := gup (gup (gup G 56 n w) 57 n a) 58 n b
theorem g3s_c {G : PG} {n : Nat} {w a b : Int32} (k : Nat) (h : k ≠ n) : cEq G (g3s G n w a b) k := ⟨gup_x (G := G) (k := 56) h, gup_x (G := gup G 56 n w) (k := 57) h, gup_x (G := gup (gup G 56 n w) 57 n a) (k := 58) h, rfl⟩
theorem g3s_i {G : PG} {n : Nat} {w a b : Int32} : g3s G n w a b 56 n = w ∧ g3s G n w a b 57 n = a ∧ g3s G n w a b 58 n = b ∧ g3s G n w a b 59 n = G 59 n := ⟨gup_i (G := G) (k := 56) (i := n) (v := w), gup_i (G := gup G 56 n w) (k := 57) (i := n) (v := a), gup_i (G := gup (gup G 56 n w) 57 n a) (k := 58) (i := n) (v := b), rfl⟩
theorem EX.step {X : TX} {F0 F : PF} {G0 G : PG} {A0 : AN} {s s1 : SH} {d : Nat} {hs : List (Nat × SH × Nat)} {w a b : Int32} (h : EX X F0 G0 A0 F G s d hs) (hn : vp_in (F 60) 9000) (hl : s.length ≤ 600) (ho : ∀ e, opI X w a b e s s1) : EX X F0 G0 A0 (fup F 60 (F 60 + 1)) (g3s G (sN F) w a b) s1 d hs := by
  refine EX.op h hn hl rfl (fun k hk => g3s_c k hk) ?_
  rw [g3s_i.1, g3s_i.2.1, g3s_i.2.2.1]
  exact ho _
/-- with its fourth write -/
theorem EX.step4 {X : TX} {F0 F : PF} {G0 G : PG} {A0 : AN} {s s1 : SH} {d : Nat} {hs : List (Nat × SH × Nat)} {w a b e : Int32} (h : EX X F0 G0 A0 F G s d hs) (hn : vp_in (F 60) 9000) (hl : s.length ≤ 600) (ho : opI X w a b e s s1) : EX X F0 G0 A0 (fup F 60 (F 60 + 1)) (gup (g3s G (sN F) w a b) 59 (sN F) e) s1 d hs := by
  refine EX.op h hn hl rfl (fun k hk => (g3s_c k hk).tr ⟨rfl, rfl, rfl, gup_x hk⟩) ?_
  have i0 := g3s_i (G := G) (n := sN F) (w := w) (a := a) (b := b)
  have i1 : gup (g3s G (sN F) w a b) 59 (sN F) e 56 (sN F) = w := i0.1
  have i2 : gup (g3s G (sN F) w a b) 59 (sN F) e 57 (sN F) = a := i0.2.1
  have i3 : gup (g3s G (sN F) w a b) 59 (sN F) e 58 (sN F) = b := i0.2.2.1
  rw [i1, i2, i3, gup_i]
  exact ho
/-- a jump on a truth, its aim waits -/
theorem EX.cond {X : TX} {F0 F : PF} {G0 G : PG} {A0 : AN} {s : SH} {d d1 : Nat} {hs : List (Nat × SH × Nat)} {w a b : Int32} (h : EX X F0 G0 A0 F G (0 :: s) d hs) (hn : vp_in (F 60) 9000) (hl : s.length ≤ 599) (hw : w = 13 ∨ w = 14) (hd : d1 < d ∧ X.1 = false ∨ d1 = d) : EX X F0 G0 A0 (fup F 60 (F 60 + 1)) (g3s G (sN F) w a b) s d ((sN F, s, d1) :: hs) := by
  refine EX.emit h hn rfl (fun k hk => g3s_c k hk) (Or.inr ⟨(sN F, s, d1), rfl, rfl⟩) (Or.inl (Nat.le_refl _)) (fun A h1 h2 => Or.inr ⟨(sN F, s, d1), rfl, rfl, ?_⟩)
  unfold HO
  rw [h1, g3s_i.1]
  refine ⟨by show s.length + 1 ≤ 600; omega, hd, Or.inr ⟨hw, rfl, Nat.le_refl _, by rw [h2], by rw [h2], Or.inr ⟨?_, Nat.lt_succ_self _⟩⟩⟩
  rw [h2, h1]
/-- a jump whose aim waits; behind it stands what one likes -/
theorem EX.go {X : TX} {F0 F : PF} {G0 G : PG} {A0 : AN} {s s1 : SH} {d d1 d2 : Nat} {hs : List (Nat × SH × Nat)} {a b : Int32} (h : EX X F0 G0 A0 F G s d hs) (hn : vp_in (F 60) 9000) (hl : s.length ≤ 600) (hd : d2 < d ∧ X.1 = false ∨ d2 = d) (hd1 : d ≤ d1 ∨ (A0 (sN F0)).2.1 ≤ d1) : EX X F0 G0 A0 (fup F 60 (F 60 + 1)) (g3s G (sN F) 12 a b) s1 d1 ((sN F, s, d2) :: hs) := by
  refine EX.emit h hn rfl (fun k hk => g3s_c k hk) (Or.inr ⟨(sN F, s, d2), rfl, rfl⟩) hd1 (fun A h1 h2 => Or.inr ⟨(sN F, s, d2), rfl, rfl, ?_⟩)
  unfold HO
  rw [h1, g3s_i.1]
  exact ⟨hl, hd, Or.inl ⟨rfl, rfl⟩⟩
/-- a jump that waited gets its aim: here -/
theorem EX.patch {X : TX} {F0 F : PF} {G0 G : PG} {A0 : AN} {s : SH} {d p : Nat} {l1 l2 : List (Nat × SH × Nat)} (h : EX X F0 G0 A0 F G s d (l1 ++ (p, s, d) :: l2)) (h60 : 0 ≤ (F 60).toInt) : EX X F0 G0 A0 F (gup G 57 p (F 60)) s d (l1 ++ l2) := by
  obtain ⟨A, a0, a1, a2, a3, a4, a5, a7, a6⟩ := h
  have hc : ∀ k, k ≠ p → cEq G (gup G 57 p (F 60)) k := fun k hk => ⟨rfl, gup_x hk, rfl, rfl⟩
  have hm : (p, s, d) ∈ l1 ++ (p, s, d) :: l2 := List.mem_append_right _ (List.mem_cons_self ..)
  obtain ⟨p1, p2, p3, p4, p5⟩ := a5 _ hm
  obtain ⟨n1, n2⟩ := ND.cut a0
  have up : ∀ x ∈ l1 ++ l2, x ∈ l1 ++ (p, s, d) :: l2 := by
    intro x hx
    rcases List.mem_append.mp hx with q | q
    · exact List.mem_append_left _ q
    · exact List.mem_append_right _ (List.mem_cons_of_mem _ q)
  refine ⟨A, n1, a1, a2, a3, fun k hk => (a4 k hk).tr (hc k (by omega)), ?_, a7, ?_⟩
  · intro x hx
    obtain ⟨c1, c2, c3⟩ := a5 x (up x hx)
    exact ⟨c1, c2, c3.ext (Nat.le_of_lt c2) (fun _ _ => rfl) (Nat.le_refl _) (hc _ (n2 x hx))⟩
  · intro k k1 k2
    by_cases c : k = p
    · subst c
      refine Or.inl ⟨p3, ?_⟩
      have e57 : gup G 57 k (F 60) 57 k = F 60 := gup_i
      have e56 : gup G 57 k (F 60) 56 k = G 56 k := rfl
      rw [e57, e56]
      have hj : ∀ s0 : SH, s0 = s → jp X A (sN F) k (F 60).toInt.toNat s0 := by
        intro s0 hs0
        refine ⟨Nat.le_refl _, ?_, ?_, ?_⟩
        · show (A (sN F)).1 = s0
          rw [a3, hs0]
        · show (A (sN F)).2.2 = false
          rw [a3]
        · show ((A (sN F)).2.1 < _ ∧ _) ∨ ((A (sN F)).2.1 = _ ∧ k < sN F)
          rw [a3]
          rcases p4 with q | q
          · exact Or.inl q
          · exact Or.inr ⟨q, p2⟩
      rcases p5 with ⟨q1, q2⟩ | ⟨q1, q2, q3⟩
      · exact Or.inr (Or.inl ⟨q1, h60, hj _ q2⟩)
      · exact Or.inr (Or.inr (Or.inl ⟨q1, s, q2, h60, hj _ rfl, q3⟩))
    · rcases a6 k k1 k2 with q | ⟨x, q, q1⟩
      · exact Or.inl (q.ext (Nat.le_of_lt k2) (fun _ _ => rfl) (Nat.le_refl _) (hc _ c))
      · rcases List.mem_append.mp q with e | e
        · exact Or.inr ⟨x, List.mem_append_left _ e, q1⟩
        · rcases List.mem_cons.mp e with e | e
          · rw [e] at q1; exact absurd q1.symm c
          · exact Or.inr ⟨x, List.mem_append_right _ e, q1⟩
