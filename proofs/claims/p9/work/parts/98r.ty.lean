/-- more cells than before -/
def XL (X X1 : TX) : Prop := X1.1 = X.1 ∧ X1.2.1 = X.2.1 ∧ X1.2.2.1 = X.2.2.1 ∧ X.2.2.2.1 ≤ X1.2.2.2.1 ∧ X.2.2.2.2.1 ≤ X1.2.2.2.2.1 ∧ X1.2.2.2.2.2 = X.2.2.2.2.2
theorem XL.rf {X : TX} : XL X X := ⟨rfl, rfl, rfl, Nat.le_refl _, Nat.le_refl _, rfl⟩
theorem XL.tr {X X1 X2 : TX} (h : XL X X1) (h1 : XL X1 X2) : XL X X2 := ⟨h1.1.trans h.1, h1.2.1.trans h.2.1, h1.2.2.1.trans h.2.2.1, Nat.le_trans h.2.2.2.1 h1.2.2.2.1, Nat.le_trans h.2.2.2.2.1 h1.2.2.2.2.1, h1.2.2.2.2.2.trans h.2.2.2.2.2⟩
theorem arr.mono {X X1 : TX} {a b e : Int32} (hX : XL X X1) (h : arr X a b e) : arr X1 a b e := by
  obtain ⟨x1, x2, x3, x4, x5, x6⟩ := hX
  unfold arr at h ⊢
  rw [x6]
  rcases h with h | ⟨h1, h2, h3, h4⟩ | ⟨h1, h2, h3, h4⟩
  · exact Or.inl h
  · exact Or.inr (Or.inl ⟨h1, h2, h3, by omega⟩)
  · exact Or.inr (Or.inr ⟨h1, h2, h3, by omega⟩)
theorem opI.mono {X X1 : TX} {w a b e : Int32} {s s1 : SH} (hX : XL X X1) (h : opI X w a b e s s1) : opI X1 w a b e s s1 := by
  have hX' := hX
  obtain ⟨x1, x2, x3, x4, x5, x6⟩ := hX
  unfold opI at h ⊢
  rw [x1, x6]
  rcases h with h | h | h | h | ⟨hm, h⟩
  · exact Or.inl h
  · exact Or.inr (Or.inl h)
  · exact Or.inr (Or.inr (Or.inl h))
  · exact Or.inr (Or.inr (Or.inr (Or.inl h)))
  · refine Or.inr (Or.inr (Or.inr (Or.inr ⟨hm, ?_⟩)))
    rcases h with ⟨h1, h2, h3, h4⟩ | ⟨h1, h2, h3, h4, h5⟩ | ⟨h1, h2, h3, h4⟩ | ⟨h1, h2, h3, h4⟩ | ⟨h1, h2, h3⟩ | ⟨h1, h2, h3⟩ | h | h | h | h | h | h | ⟨h1, h2, h3, h4, h5⟩
    · exact Or.inl ⟨h1, h2, by omega, h4⟩
    · exact Or.inr (Or.inl ⟨h1, h2, by omega, h4, h5⟩)
    · exact Or.inr (Or.inr (Or.inl ⟨h1, h2, by omega, h4⟩))
    · exact Or.inr (Or.inr (Or.inr (Or.inl ⟨h1, h2, by omega, h4⟩)))
    · exact Or.inr (Or.inr (Or.inr (Or.inr (Or.inl ⟨h1, h2.mono hX', h3⟩))))
    · exact Or.inr (Or.inr (Or.inr (Or.inr (Or.inr (Or.inl ⟨h1, h2.mono hX', h3⟩)))))
    · exact Or.inr (Or.inr (Or.inr (Or.inr (Or.inr (Or.inr (Or.inl h))))))
    · exact Or.inr (Or.inr (Or.inr (Or.inr (Or.inr (Or.inr (Or.inr (Or.inl h)))))))
    · exact Or.inr (Or.inr (Or.inr (Or.inr (Or.inr (Or.inr (Or.inr (Or.inr (Or.inl h))))))))
    · exact Or.inr (Or.inr (Or.inr (Or.inr (Or.inr (Or.inr (Or.inr (Or.inr (Or.inr (Or.inl h)))))))))
    · exact Or.inr (Or.inr (Or.inr (Or.inr (Or.inr (Or.inr (Or.inr (Or.inr (Or.inr (Or.inr (Or.inl h))))))))))
    · exact Or.inr (Or.inr (Or.inr (Or.inr (Or.inr (Or.inr (Or.inr (Or.inr (Or.inr (Or.inr (Or.inr (Or.inl h)))))))))))
    · exact Or.inr (Or.inr (Or.inr (Or.inr (Or.inr (Or.inr (Or.inr (Or.inr (Or.inr (Or.inr (Or.inr (Or.inr ⟨h1, h2, h3, by omega, h5⟩)))))))))))
theorem jp.mono {X X1 : TX} {A : AN} {B k q : Nat} {s : SH} (hX : XL X X1) (h : jp X A B k q s) : jp X1 A B k q s := by
  unfold jp at h ⊢
  rw [hX.1]
  exact h
theorem TT.mono {X X1 : TX} {G : PG} {A : AN} {B k : Nat} (hX : XL X X1) (h : TT X G A B k) : TT X1 G A B k := by
  obtain ⟨h0, h⟩ := h
  refine ⟨h0, ?_⟩
  rcases h with ⟨s1, h1, h2⟩ | ⟨h1, h2, h3⟩ | ⟨h1, s0, h2, h3, h4, h5⟩ | ⟨hm, h⟩
  · exact Or.inl ⟨s1, h1.mono hX, h2.mono hX⟩
  · exact Or.inr (Or.inl ⟨h1, h2, h3.mono hX⟩)
  · exact Or.inr (Or.inr (Or.inl ⟨h1, s0, h2, h3, h4.mono hX, h5.mono hX⟩))
  · refine Or.inr (Or.inr (Or.inr ⟨by rw [hX.1]; exact hm, ?_⟩))
    rcases h with h | ⟨h1, h2, h3, h4, s0, h5, h6, h7⟩ | h | h
    · exact Or.inl h
    · exact Or.inr (Or.inl ⟨h1, h2, h3, by rw [hX.2.1]; exact h4, s0, by rw [hX.2.2.1]; exact h5, h6, h7.mono hX⟩)
    · exact Or.inr (Or.inr (Or.inl h))
    · exact Or.inr (Or.inr (Or.inr h))
theorem HO.mono {X X1 : TX} {G : PG} {A : AN} {B : Nat} {x : Nat × SH × Nat} (hX : XL X X1) (h : HO X G A B x) : HO X1 G A B x := by
  obtain ⟨h0, h1, h2⟩ := h
  refine ⟨h0, by rw [hX.1]; exact h1, ?_⟩
  rcases h2 with h2 | ⟨h2, h3, h4⟩
  · exact Or.inl h2
  · exact Or.inr ⟨h2, h3, h4.mono hX⟩
theorem EX.mono {X X1 : TX} {F0 F : PF} {G0 G : PG} {A0 : AN} {s : SH} {d : Nat} {hs : List (Nat × SH × Nat)} (hX : XL X X1) (h : EX X F0 G0 A0 F G s d hs) : EX X1 F0 G0 A0 F G s d hs := by
  obtain ⟨A, a0, a1, a2, a3, a4, a5, a7, a6⟩ := h
  refine ⟨A, a0, a1, a2, a3, a4, fun x hx => ⟨(a5 x hx).1, (a5 x hx).2.1, (a5 x hx).2.2.mono hX⟩, a7, fun k k1 k2 => ?_⟩
  rcases a6 k k1 k2 with q | q
  · exact Or.inl (q.mono hX)
  · exact Or.inr q
/-- with places whose shape and depth are known -/
def EY (X : TX) (F0 : PF) (G0 : PG) (A0 : AN) (F : PF) (G : PG) (s : SH) (d : Nat) (hs ls : List (Nat × SH × Nat)) : Prop :=
  ∃ A : AN, (ND hs ∧ sN F0 ≤ sN F ∧ (∀ k, k ≤ sN F0 → A k = A0 k) ∧ A (sN F) = (s, d, false) ∧ (∀ k, k < sN F0 → cEq G0 G k) ∧ (∀ x ∈ hs, sN F0 ≤ x.1 ∧ x.1 < sN F ∧ HO X G A (sN F) x) ∧ (∀ k, sN F0 ≤ k → k ≤ sN F → (A0 (sN F0)).2.1 ≤ (A k).2.1) ∧ ∀ k, sN F0 ≤ k → k < sN F → TT X G A (sN F) k ∨ ∃ x ∈ hs, x.1 = k) ∧ ∀ l ∈ ls, l.1 ≤ sN F ∧ A l.1 = (l.2.1, l.2.2, false)
section EYS
variable {X X1 : TX} {F0 F F1 : PF} {G0 G G1 : PG} {A0 : AN} {s s1 : SH} {d d1 : Nat} {hs hs1 ls : List (Nat × SH × Nat)}
theorem EX.ey (h : EX X F0 G0 A0 F G s d hs) : EY X F0 G0 A0 F G s d hs [] := by
  obtain ⟨A, h⟩ := h
  exact ⟨A, h, fun l hl => nomatch hl⟩
theorem EY.ex (h : EY X F0 G0 A0 F G s d hs ls) : EX X F0 G0 A0 F G s d hs := by
  obtain ⟨A, h, -⟩ := h
  exact ⟨A, h⟩
/-- here is a place to come back to -/
theorem EY.lab (h : EY X F0 G0 A0 F G s d hs ls) : EY X F0 G0 A0 F G s d hs ((sN F, s, d) :: ls) := by
  obtain ⟨A, h, hl⟩ := h
  refine ⟨A, h, fun l hl1 => ?_⟩
  rcases List.mem_cons.mp hl1 with rfl | q
  · exact ⟨Nat.le_refl _, h.2.2.2.1⟩
  · exact hl l q
theorem EY.lab0 (h : EY X F0 G0 A0 F G s d hs ls) {s0 : SH} {d0 : Nat} (h0 : A0 (sN F0) = (s0, d0, false)) : EY X F0 G0 A0 F G s d hs ((sN F0, s0, d0) :: ls) := by
  obtain ⟨A, h, hl⟩ := h
  refine ⟨A, h, fun l hl1 => ?_⟩
  rcases List.mem_cons.mp hl1 with rfl | q
  · exact ⟨h.2.1, (h.2.2.1 _ (Nat.le_refl _)).trans h0⟩
  · exact hl l q
theorem EY.st (h : EY X F0 G0 A0 F G s d hs ls) (e : F1 60 = F 60) (e1 : ∀ k, 56 ≤ k → k ≤ 59 → G1 k = G k) : EY X F0 G0 A0 F1 G1 s d hs ls := by
  have hc : ∀ k, cEq G G1 k := fun k => ⟨by rw [e1 56 (by decide) (by decide)], by rw [e1 57 (by decide) (by decide)], by rw [e1 58 (by decide) (by decide)], by rw [e1 59 (by decide) (by decide)]⟩
  obtain ⟨A, ⟨a0, a1, a2, a3, a4, a5, a7, a6⟩, hl⟩ := h
  have en : sN F1 = sN F := by show (F1 60).toNatClampNeg = _; rw [e]
  refine ⟨A, ⟨a0, by rw [en]; exact a1, a2, by rw [en]; exact a3, fun k hk => (a4 k hk).tr (hc k), ?_, by rw [en]; exact a7, ?_⟩, by rw [en]; exact hl⟩
  · intro x hx
    obtain ⟨c1, c2, c3⟩ := a5 x hx
    rw [en]
    exact ⟨c1, c2, c3.ext (Nat.le_of_lt c2) (fun _ _ => rfl) (Nat.le_refl _) (hc _)⟩
  · intro k k1 k2
    rw [en] at k2 ⊢
    rcases a6 k k1 k2 with q | q
    · exact Or.inl (q.ext (Nat.le_of_lt k2) (fun _ _ => rfl) (Nat.le_refl _) (hc _))
    · exact Or.inr q
theorem EY.mono (hX : XL X X1) (h : EY X F0 G0 A0 F G s d hs ls) : EY X1 F0 G0 A0 F G s d hs ls := by
  obtain ⟨A, ⟨a0, a1, a2, a3, a4, a5, a7, a6⟩, hl⟩ := h
  refine ⟨A, ⟨a0, a1, a2, a3, a4, fun x hx => ⟨(a5 x hx).1, (a5 x hx).2.1, (a5 x hx).2.2.mono hX⟩, a7, fun k k1 k2 => ?_⟩, hl⟩
  rcases a6 k k1 k2 with q | q
  · exact Or.inl (q.mono hX)
  · exact Or.inr q
theorem EY.tr (h : EY X F0 G0 A0 F G s d hs ls) (h1 : ∀ A : AN, A (sN F) = (s, d, false) → (∀ l ∈ ls, l.1 ≤ sN F ∧ A l.1 = (l.2.1, l.2.2, false)) → EX X F G A F1 G1 s1 d1 hs1) : EY X F0 G0 A0 F1 G1 s1 d1 (hs1 ++ hs) ls := by
  obtain ⟨A, ⟨a0, a1, a2, a3, a4, a5, a7, a6⟩, hl⟩ := h
  obtain ⟨A1, b0, b1, b2, b3, b4, b5, b7, b6⟩ := h1 A a3 hl
  refine ⟨A1, ⟨ND.app b0 a0 (fun x hx y hy => by have := (b5 x hx).1; have := (a5 y hy).2.1; omega), Nat.le_trans a1 b1, fun k hk => (b2 k (Nat.le_trans hk a1)).trans (a2 k hk), b3, fun k hk => (a4 k hk).tr (b4 k (Nat.lt_of_lt_of_le hk a1)), ?_, ?_, ?_⟩, fun l q => ⟨Nat.le_trans (hl l q).1 b1, (b2 _ (hl l q).1).trans (hl l q).2⟩⟩
  · intro x hx
    rcases List.mem_append.mp hx with hx | hx
    · obtain ⟨c1, c2, c3⟩ := b5 x hx
      exact ⟨Nat.le_trans a1 c1, c2, c3⟩
    · obtain ⟨c1, c2, c3⟩ := a5 x hx
      exact ⟨c1, Nat.lt_of_lt_of_le c2 b1, c3.ext (Nat.le_of_lt c2) b2 b1 (b4 _ c2)⟩
  · intro k k1 k2
    by_cases c : sN F ≤ k
    · exact Nat.le_trans (a7 _ a1 (Nat.le_refl _)) (b7 k c k2)
    · rw [b2 k (by omega)]
      exact a7 k k1 (by omega)
  · intro k k1 k2
    by_cases c : sN F ≤ k
    · rcases b6 k c k2 with q | ⟨x, q, q1⟩
      · exact Or.inl q
      · exact Or.inr ⟨x, List.mem_append_left _ q, q1⟩
    · have c : k < sN F := Nat.lt_of_not_le c
      rcases a6 k k1 c with q | ⟨x, q, q1⟩
      · exact Or.inl (q.ext (Nat.le_of_lt c) b2 b1 (b4 _ c))
      · exact Or.inr ⟨x, List.mem_append_right _ q, q1⟩
/-- a jump that waited gets an aim that lies before: a place of the list, less deep than all here -/
theorem EX.patchB {p q : Nat} {v : Int32} {sq : SH} {dq : Nat} {l1 l2 : List (Nat × SH × Nat)} (h : EX X F0 G0 A0 F G s d (l1 ++ (p, sq, dq) :: l2)) (hv : 0 ≤ v.toInt) (hq : v.toInt.toNat = q) (hqn : q ≤ sN F0) (hA : A0 q = (sq, dq, false)) (hd : dq < (A0 (sN F0)).2.1) (hm : X.1 = false) : EX X F0 G0 A0 F (gup G 57 p v) s d (l1 ++ l2) := by
  obtain ⟨A, a0, a1, a2, a3, a4, a5, a7, a6⟩ := h
  have hc : ∀ k, k ≠ p → cEq G (gup G 57 p v) k := fun k hk => ⟨rfl, gup_x hk, rfl, rfl⟩
  have hin : (p, sq, dq) ∈ l1 ++ (p, sq, dq) :: l2 := List.mem_append_right _ (List.mem_cons_self ..)
  obtain ⟨p1, p2, p3, p4, p5⟩ := a5 _ hin
  obtain ⟨n1, n2⟩ := ND.cut a0
  have up : ∀ x ∈ l1 ++ l2, x ∈ l1 ++ (p, sq, dq) :: l2 := by
    intro x hx
    rcases List.mem_append.mp hx with q | q
    · exact List.mem_append_left _ q
    · exact List.mem_append_right _ (List.mem_cons_of_mem _ q)
  refine ⟨A, n1, a1, a2, a3, fun k hk => (a4 k hk).tr (hc k (by omega)), ?_, a7, ?_⟩
  · intro x hx
    obtain ⟨c1, c2, c3⟩ := a5 x (up x hx)
    exact ⟨c1, c2, c3.ext (Nat.le_of_lt c2) (fun _ _ => rfl) (Nat.le_refl _) (hc _ (n2 x hx))⟩
  · intro k k1 k2
    by_cases c : k = p
    · subst c
      refine Or.inl ⟨p3, ?_⟩
      have e57 : gup G 57 k v 57 k = v := gup_i
      have e56 : gup G 57 k v 56 k = G 56 k := rfl
      rw [e57, e56]
      have dk := a7 k k1 (Nat.le_of_lt k2)
      have hj : jp X A (sN F) k v.toInt.toNat sq := by
        rw [hq]
        have eA : A q = (sq, dq, false) := (a2 q hqn).trans hA
        refine ⟨Nat.le_trans hqn a1, by rw [eA], by rw [eA], Or.inl ⟨by rw [eA]; show dq < _; omega, hm⟩⟩
      rcases p5 with ⟨q1, q2⟩ | ⟨q1, q2, q3⟩
      · exact Or.inr (Or.inl ⟨q1, hv, by rw [show (A k).1 = sq from q2]; exact hj⟩)
      · exact Or.inr (Or.inr (Or.inl ⟨q1, sq, q2, hv, hj, q3⟩))
    · rcases a6 k k1 k2 with q | ⟨x, q, q1⟩
      · exact Or.inl (q.ext (Nat.le_of_lt k2) (fun _ _ => rfl) (Nat.le_refl _) (hc _ c))
      · rcases List.mem_append.mp q with e | e
        · exact Or.inr ⟨x, List.mem_append_left _ e, q1⟩
        · rcases List.mem_cons.mp e with e | e
          · rw [e] at q1; exact absurd q1.symm c
          · exact Or.inr ⟨x, List.mem_append_right _ e, q1⟩
theorem EY.patch {p : Nat} {l1 l2 : List (Nat × SH × Nat)} (h : EY X F0 G0 A0 F G s d (l1 ++ (p, s, d) :: l2) ls) (h60 : 0 ≤ (F 60).toInt) : EY X F0 G0 A0 F (gup G 57 p (F 60)) s d (l1 ++ l2) ls := by
  obtain ⟨A, ⟨a0, a1, a2, a3, a4, a5, a7, a6⟩, hl⟩ := h
  have hc : ∀ k, k ≠ p → cEq G (gup G 57 p (F 60)) k := fun k hk => ⟨rfl, gup_x hk, rfl, rfl⟩
  have hin : (p, s, d) ∈ l1 ++ (p, s, d) :: l2 := List.mem_append_right _ (List.mem_cons_self ..)
  obtain ⟨p1, p2, p3, p4, p5⟩ := a5 _ hin
  obtain ⟨n1, n2⟩ := ND.cut a0
  have up : ∀ x ∈ l1 ++ l2, x ∈ l1 ++ (p, s, d) :: l2 := by
    intro x hx
    rcases List.mem_append.mp hx with q | q
    · exact List.mem_append_left _ q
    · exact List.mem_append_right _ (List.mem_cons_of_mem _ q)
  refine ⟨A, ⟨n1, a1, a2, a3, fun k hk => (a4 k hk).tr (hc k (by omega)), ?_, a7, ?_⟩, hl⟩
  · intro x hx
    obtain ⟨c1, c2, c3⟩ := a5 x (up x hx)
    exact ⟨c1, c2, c3.ext (Nat.le_of_lt c2) (fun _ _ => rfl) (Nat.le_refl _) (hc _ (n2 x hx))⟩
  · intro k k1 k2
    by_cases c : k = p
    · subst c
      refine Or.inl ⟨p3, ?_⟩
      have e57 : gup G 57 k (F 60) 57 k = F 60 := gup_i
      have e56 : gup G 57 k (F 60) 56 k = G 56 k := rfl
      rw [e57, e56]
      have hj : ∀ s0 : SH, s0 = s → jp X A (sN F) k (F 60).toInt.toNat s0 := by
        intro s0 hs0
        refine ⟨Nat.le_refl _, ?_, ?_, ?_⟩
        · show (A (sN F)).1 = s0
          rw [a3, hs0]
        · show (A (sN F)).2.2 = false
          rw [a3]
        · show ((A (sN F)).2.1 < _ ∧ _) ∨ ((A (sN F)).2.1 = _ ∧ k < sN F)
          rw [a3]
          rcases p4 with q | q
          · exact Or.inl q
          · exact Or.inr ⟨q, p2⟩
      rcases p5 with ⟨q1, q2⟩ | ⟨q1, q2, q3⟩
      · exact Or.inr (Or.inl ⟨q1, h60, hj _ q2⟩)
      · exact Or.inr (Or.inr (Or.inl ⟨q1, s, q2, h60, hj _ rfl, q3⟩))
    · rcases a6 k k1 k2 with q | ⟨x, q, q1⟩
      · exact Or.inl (q.ext (Nat.le_of_lt k2) (fun _ _ => rfl) (Nat.le_refl _) (hc _ c))
      · rcases List.mem_append.mp q with e | e
        · exact Or.inr ⟨x, List.mem_append_left _ e, q1⟩
        · rcases List.mem_cons.mp e with e | e
          · rw [e] at q1; exact absurd q1.symm c
          · exact Or.inr ⟨x, List.mem_append_right _ e, q1⟩
/-- a jump back to a known place that is less deep; behind it stands what one likes -/
theorem EY.goL {q : Nat} {v b : Int32} {dq : Nat} (h : EY X F0 G0 A0 F G s d hs ls) (hl : (q, s, dq) ∈ ls) (hv : 0 ≤ v.toInt) (hq : v.toInt.toNat = q) (hd : dq < d) (hm : X.1 = false) (hn : vp_in (F 60) 9000) (e : F1 60 = F 60 + 1) (eg : G1 = g3s G (sN F) 12 v b) (hlen : s.length ≤ 600) (s1 : SH) (d1 : Nat) (hd1 : (A0 (sN F0)).2.1 ≤ d1) : EY X F0 G0 A0 F1 G1 s1 d1 hs ls := by
  subst eg
  obtain ⟨A, ⟨a0, a1, a2, a3, a4, a5, a7, a6⟩, hls⟩ := h
  have en : sN F1 = sN F + 1 := by show (F1 60).toNatClampNeg = _; rw [e]; exact nI_inc hn
  have hA : ∀ j, j ≤ sN F → aup A (sN F + 1) (s1, d1, false) j = A j := fun j hj => aup_n (by omega)
  obtain ⟨l1, l2⟩ := hls _ hl
  refine ⟨aup A (sN F + 1) (s1, d1, false), ⟨a0, by omega, fun k hk => (hA k (Nat.le_trans hk a1)).trans (a2 k hk), by rw [en]; exact aup_s, fun k hk => (a4 k hk).tr (g3s_c k (by omega)), ?_, ?_, ?_⟩, fun l hl1 => ?_⟩
  · intro x hx
    obtain ⟨c1, c2, c3⟩ := a5 x hx
    rw [en]
    exact ⟨c1, by omega, c3.ext (Nat.le_of_lt c2) hA (Nat.le_succ _) (g3s_c _ (by omega))⟩
  · intro k k1 k2
    rw [en] at k2
    by_cases c : k = sN F + 1
    · rw [c, aup_s]; exact hd1
    · rw [hA k (by omega)]; exact a7 k k1 (by omega)
  · intro k k1 k2
    rw [en] at k2 ⊢
    by_cases c : k = sN F
    · subst c
      refine Or.inl ?_
      unfold TT TT1
      rw [hA _ (Nat.le_refl _), a3, g3s_i.1, g3s_i.2.1]
      refine ⟨hlen, Or.inr (Or.inl ⟨rfl, hv, ?_⟩)⟩
      rw [hq]
      refine ⟨by omega, by rw [hA q l1, l2], by rw [hA q l1, l2], Or.inl ⟨?_, hm⟩⟩
      rw [hA q l1, hA _ (Nat.le_refl _), l2, a3]
      exact hd
    · rcases a6 k k1 (by omega) with q | q
      · exact Or.inl (q.ext (by omega) hA (Nat.le_succ _) (g3s_c _ c))
      · exact Or.inr q
  · rw [en]
    exact ⟨by have := (hls l hl1).1; omega, (hA _ (hls l hl1).1).trans (hls l hl1).2⟩
/-- a jump back on a truth -/
theorem EY.ifL {q : Nat} {w v b : Int32} {dq : Nat} (h : EY X F0 G0 A0 F G (0 :: s) d hs ls) (hl : (q, s, dq) ∈ ls) (hv : 0 ≤ v.toInt) (hq : v.toInt.toNat = q) (hd : dq < d) (hm : X.1 = false) (hw : w = 13 ∨ w = 14) (hn : vp_in (F 60) 9000) (e : F1 60 = F 60 + 1) (eg : G1 = g3s G (sN F) w v b) (hlen : s.length ≤ 599) (d1 : Nat) (hdd : d1 ≤ d) (hd1 : (A0 (sN F0)).2.1 ≤ d1) : EY X F0 G0 A0 F1 G1 s d1 hs ls := by
  subst eg
  obtain ⟨A, ⟨a0, a1, a2, a3, a4, a5, a7, a6⟩, hls⟩ := h
  have en : sN F1 = sN F + 1 := by show (F1 60).toNatClampNeg = _; rw [e]; exact nI_inc hn
  have hA : ∀ j, j ≤ sN F → aup A (sN F + 1) (s, d1, false) j = A j := fun j hj => aup_n (by omega)
  obtain ⟨l1, l2⟩ := hls _ hl
  refine ⟨aup A (sN F + 1) (s, d1, false), ⟨a0, by omega, fun k hk => (hA k (Nat.le_trans hk a1)).trans (a2 k hk), by rw [en]; exact aup_s, fun k hk => (a4 k hk).tr (g3s_c k (by omega)), ?_, ?_, ?_⟩, fun l hl1 => ?_⟩
  · intro x hx
    obtain ⟨c1, c2, c3⟩ := a5 x hx
    rw [en]
    exact ⟨c1, by omega, c3.ext (Nat.le_of_lt c2) hA (Nat.le_succ _) (g3s_c _ (by omega))⟩
  · intro k k1 k2
    rw [en] at k2
    by_cases c : k = sN F + 1
    · rw [c, aup_s]; exact hd1
    · rw [hA k (by omega)]; exact a7 k k1 (by omega)
  · intro k k1 k2
    rw [en] at k2 ⊢
    by_cases c : k = sN F
    · subst c
      refine Or.inl ?_
      unfold TT TT1
      rw [hA _ (Nat.le_refl _), a3, g3s_i.1, g3s_i.2.1]
      refine ⟨by show s.length + 1 ≤ 600; omega, Or.inr (Or.inr (Or.inl ⟨hw, s, rfl, hv, ?_, ?_⟩))⟩
      · rw [hq]
        refine ⟨by omega, by rw [hA q l1, l2], by rw [hA q l1, l2], Or.inl ⟨?_, hm⟩⟩
        rw [hA q l1, hA _ (Nat.le_refl _), l2, a3]
        exact hd
      · refine ⟨Nat.le_refl _, by rw [aup_s], by rw [aup_s], ?_⟩
        rw [aup_s, hA _ (Nat.le_refl _), a3]
        rcases Nat.lt_or_eq_of_le hdd with q1 | q1
        · exact Or.inl ⟨q1, hm⟩
        · exact Or.inr ⟨q1, Nat.lt_succ_self _⟩
    · rcases a6 k k1 (by omega) with q | q
      · exact Or.inl (q.ext (by omega) hA (Nat.le_succ _) (g3s_c _ c))
      · exact Or.inr q
  · rw [en]
    exact ⟨by have := (hls l hl1).1; omega, (hA _ (hls l hl1).1).trans (hls l hl1).2⟩
/-- the turn of a loop: behind it any depth -/
theorem EX.turn {a b : Int32} (h : EX X F0 G0 A0 F G s d hs) (hm : X.1 = false) (hn : vp_in (F 60) 9000) (e : F1 60 = F 60 + 1) (eg : G1 = g3s G (sN F) 15 a b) (hl : s.length ≤ 600) (d1 : Nat) (hd1 : d ≤ d1) : EX X F0 G0 A0 F1 G1 s d1 hs := by
  subst eg
  refine EX.emit h hn e (fun k hk => g3s_c k hk) (Or.inl rfl) (Or.inl hd1) (fun A h1 h2 => Or.inl ⟨rfl, ?_⟩)
  unfold TT TT1
  rw [h1, h2, g3s_i.1]
  exact ⟨hl, Or.inr (Or.inr (Or.inr ⟨hm, Or.inl ⟨rfl, Nat.le_refl _, rfl⟩⟩))⟩
theorem EX.ret {a b : Int32} (h : EX X F0 G0 A0 F G [0] d hs) (hm : X.1 = false) (hn : vp_in (F 60) 9000) (e : F1 60 = F 60 + 1) (eg : G1 = g3s G (sN F) 17 a b) (s1 : SH) : EX X F0 G0 A0 F1 G1 s1 d hs := by
  subst eg
  refine EX.emit h hn e (fun k hk => g3s_c k hk) (Or.inl rfl) (Or.inl (Nat.le_refl _)) (fun A h1 h2 => Or.inl ⟨rfl, ?_⟩)
  unfold TT TT1
  rw [h1, g3s_i.1]
  exact ⟨by show 1 ≤ 600; omega, Or.inr (Or.inr (Or.inr ⟨hm, Or.inr (Or.inr (Or.inl ⟨rfl, rfl⟩))⟩))⟩
theorem EX.hlt {a b : Int32} (h : EX X F0 G0 A0 F G (0 :: s) d hs) (hm : X.1 = false) (hn : vp_in (F 60) 9000) (e : F1 60 = F 60 + 1) (eg : G1 = g3s G (sN F) 20 a b) (hl : s.length ≤ 599) (s1 : SH) : EX X F0 G0 A0 F1 G1 s1 d hs := by
  subst eg
  refine EX.emit h hn e (fun k hk => g3s_c k hk) (Or.inl rfl) (Or.inl (Nat.le_refl _)) (fun A h1 h2 => Or.inl ⟨rfl, ?_⟩)
  unfold TT TT1
  rw [h1, g3s_i.1]
  exact ⟨by show s.length + 1 ≤ 600; omega, Or.inr (Or.inr (Or.inr ⟨hm, Or.inr (Or.inr (Or.inr ⟨rfl, s, rfl⟩))⟩))⟩
end EYS
