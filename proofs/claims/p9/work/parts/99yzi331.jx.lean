/-- a layout: what stands one behind another: (0, _) an int, (1, n) ints, (2, n) bytes, (3, _) ints passed, (4, _) bytes passed, (5, _) what is told no more -/
abbrev JLY : Type := List (Nat × Nat)
def joC (x : Nat × Nat) : Nat := if x.1 = 0 then 1 else if x.1 = 1 then x.2 else if x.1 = 2 then x.2 else if x.1 = 5 then min (x.2 % 10000) (4 * (x.2 / 10000)) else 2
def joW (x : Nat × Nat) : Nat := if x.1 = 0 then 1 else if x.1 = 1 then x.2 else if x.1 = 2 then (x.2 + 3) / 4 else if x.1 = 5 then x.2 / 10000 else 2
def jsC : JLY → Nat
  | [] => 0
  | x :: l => joC x + jsC l
def jsW : JLY → Nat
  | [] => 0
  | x :: l => joW x + jsW l
theorem jsC_app (a b : JLY) : jsC (a ++ b) = jsC a + jsC b := by
  induction a with
  | nil => exact (Nat.zero_add _).symm
  | cons x a ih =>
    show joC x + jsC (a ++ b) = joC x + jsC a + jsC b
    omega
theorem jsW_app (a b : JLY) : jsW (a ++ b) = jsW a + jsW b := by
  induction a with
  | nil => exact (Nat.zero_add _).symm
  | cons x a ih =>
    show joW x + jsW (a ++ b) = joW x + jsW a + jsW b
    omega
/-- where a thing of a layout begins: in cells and in words -/
def jAt (l : JLY) (a o : Nat) (x : Nat × Nat) : Prop := ∃ l1 l2, l = l1 ++ x :: l2 ∧ a = jsC l1 ∧ o = jsW l1
theorem jAt.up {l : JLY} {a o : Nat} {x : Nat × Nat} (h : jAt l a o x) (m : JLY) : jAt (l ++ m) a o x := by
  obtain ⟨l1, l2, e, f, g⟩ := h
  exact ⟨l1, l2 ++ m, by rw [e, List.append_assoc, List.cons_append], f, g⟩
theorem jAt.new (l : JLY) (x : Nat × Nat) : jAt (l ++ [x]) (jsC l) (jsW l) x := ⟨l, [], rfl, rfl, rfl⟩
theorem jAt.le {l : JLY} {a o : Nat} {x : Nat × Nat} (h : jAt l a o x) : a + joC x ≤ jsC l ∧ o + joW x ≤ jsW l := by
  obtain ⟨l1, l2, e, f, g⟩ := h
  rw [e, jsC_app, jsW_app, f, g]
  show jsC l1 + joC x ≤ jsC l1 + (joC x + jsC l2) ∧ jsW l1 + joW x ≤ jsW l1 + (joW x + jsW l2)
  omega
/-- all that stands in a stands in b -/
def jLe (a b : JLY) : Prop := ∀ (p o : Nat) (x : Nat × Nat), x.1 ≤ 4 → jAt a p o x → jAt b p o x
theorem jLe.rf {a : JLY} : jLe a a := fun _ _ _ _ h => h
theorem jLe.tr {a b c : JLY} (h : jLe a b) (k : jLe b c) : jLe a c := fun p o x hx q => k p o x hx (h p o x hx q)
theorem jLe.app (a m : JLY) : jLe a (a ++ m) := fun _ _ _ _ h => h.up m
theorem jAt.spl {a m : JLY} {p o : Nat} {x : Nat × Nat} (h : jAt (a ++ m) p o x) : jAt a p o x ∨ ∃ p1 o1 : Nat, jAt m p1 o1 x ∧ p = jsC a + p1 ∧ o = jsW a + o1 := by
  obtain ⟨l1, l2, e, f, g⟩ := h
  rcases List.append_eq_append_iff.mp e with ⟨c, e1, e2⟩ | ⟨c, e1, e2⟩
  · exact .inr ⟨jsC c, jsW c, ⟨c, l2, e2, rfl, rfl⟩, by rw [f, e1, jsC_app], by rw [g, e1, jsW_app]⟩
  · cases c with
    | nil =>
      refine .inr ⟨0, 0, ⟨[], l2, e2.symm, rfl, rfl⟩, ?_, ?_⟩
      · rw [e1, List.append_nil, f]; rfl
      · rw [e1, List.append_nil, g]; rfl
    | cons y c =>
      rw [List.cons_append] at e2
      have i := List.cons.inj e2
      exact .inl ⟨l1, c, by rw [e1, i.1], f, g⟩
theorem jAt.rt (a : JLY) {m : JLY} {p o : Nat} {x : Nat × Nat} (h : jAt m p o x) : jAt (a ++ m) (jsC a + p) (jsW a + o) x := by
  obtain ⟨l1, l2, e, f, g⟩ := h
  exact ⟨a ++ l1, l2, by rw [e, List.append_assoc], by rw [f, jsC_app], by rw [g, jsW_app]⟩
theorem jLe.cat {a b : JLY} (h : jLe a b) (hc : jsC a = jsC b) (hw : jsW a = jsW b) (m : JLY) : jLe (a ++ m) (b ++ m) := by
  intro p o x hx q
  rcases q.spl with q | ⟨p1, o1, q, e1, e2⟩
  · exact (h p o x hx q).up m
  · rw [e1, e2, hc, hw]
    exact q.rt b
/-- what is told no more keeps its room -/
def jDd (m : JLY) : Nat × Nat := (5, jsC m + 10000 * jsW m)
theorem jLe.dd (a m : JLY) : jLe (a ++ [jDd m]) a := by
  rintro p o x hx ⟨l1, l2, e, e1, e2⟩
  rcases List.eq_nil_or_concat l2 with z | ⟨l3, y, z⟩
  · exfalso
    rw [z] at e
    have q := (List.append_inj' e rfl).2
    have q : jDd m = x := (List.cons.inj q).1
    rw [← q] at hx
    exact absurd hx (by show ¬ (5 : Nat) ≤ 4; omega)
  · rw [z, List.concat_eq_append, show l1 ++ x :: (l3 ++ [y]) = (l1 ++ x :: l3) ++ [y] by rw [List.append_assoc]; rfl] at e
    exact ⟨l1, l3, (List.append_inj' e rfl).1, e1, e2⟩
/-- no more room -/
def jSz (l m : JLY) : Prop := jsC l ≤ jsC m ∧ jsW l ≤ jsW m
theorem jSz.rf {l : JLY} : jSz l l := ⟨Nat.le_refl _, Nat.le_refl _⟩
theorem jSz.tr {a b c : JLY} (h : jSz a b) (k : jSz b c) : jSz a c := ⟨Nat.le_trans h.1 k.1, Nat.le_trans h.2 k.2⟩
theorem jSz.app (a m : JLY) : jSz a (a ++ m) := ⟨by rw [jsC_app]; exact Nat.le_add_right _ _, by rw [jsW_app]; exact Nat.le_add_right _ _⟩
theorem jsC4 (l : JLY) : jsC l ≤ 4 * jsW l := by
  induction l with
  | nil => exact Nat.le_refl _
  | cons x l ih =>
    show joC x + jsC l ≤ 4 * (joW x + jsW l)
    have : joC x ≤ 4 * joW x := by
      unfold joC joW
      split
      · omega
      · split
        · omega
        · split
          · omega
          · split
            · omega
            · omega
    omega
theorem jDd.sz {m : JLY} (h : jsC m < 10000) : joC (jDd m) = jsC m ∧ joW (jDd m) = jsW m := by
  have q := jsC4 m
  unfold joC joW jDd
  refine ⟨?_, ?_⟩
  · show min ((jsC m + 10000 * jsW m) % 10000) (4 * ((jsC m + 10000 * jsW m) / 10000)) = jsC m
    omega
  · show (jsC m + 10000 * jsW m) / 10000 = jsW m
    omega
/-- what the code is made in: whether it is a constant's, the layouts of all and of the function, the functions' formals -/
abbrev JCX : Type := Bool × JLY × JLY × (Nat → List Nat)
def jUp (X Y : JCX) : Prop := Y.1 = X.1 ∧ (∃ m, Y.2.1 = X.2.1 ++ m) ∧ (∃ m, Y.2.2.1 = X.2.2.1 ++ m) ∧ Y.2.2.2 = X.2.2.2
theorem jUp.rf {X : JCX} : jUp X X := ⟨rfl, ⟨[], (List.append_nil _).symm⟩, ⟨[], (List.append_nil _).symm⟩, rfl⟩
theorem jUp.tr {X Y Z : JCX} (h : jUp X Y) (k : jUp Y Z) : jUp X Z := by
  obtain ⟨a1, ⟨m1, a2⟩, ⟨n1, a3⟩, a4⟩ := h
  obtain ⟨b1, ⟨m2, b2⟩, ⟨n2, b3⟩, b4⟩ := k
  exact ⟨b1.trans a1, ⟨m1 ++ m2, by rw [b2, a2, List.append_assoc]⟩, ⟨n1 ++ n2, by rw [b3, a3, List.append_assoc]⟩, b4.trans a4⟩
def jPush (k : Nat) (s : SH) : SH := if k = 0 then 0 :: s else if k = 1 then 4 :: 3 :: s else 6 :: 5 :: s
def jArg : List Nat → SH → SH
  | [], s => s
  | k :: L, s => jArg L (jPush k s)
theorem jArg_app (a b : List Nat) (s : SH) : jArg (a ++ b) s = jArg b (jArg a s) := by
  induction a generalizing s with
  | nil => rfl
  | cons k a ih => exact ih _
/-- an array of ints (κ is 1) or bytes (2): the reference's cell, size and whether it is local; the class's g (0 passed, 1 all's, 2 own), where and size -/
def jArr (X : JCX) (κ : Nat) (a b e : Int32) (g : Nat) (wh sz : Int32) : Prop :=
  (g = 0 ∧ b = -1 ∧ sz = 0 ∧ ∃ p o : Nat, jAt X.2.2.1 p o (κ + 2, 0) ∧ a = nI p ∧ wh = nI (4 + o)) ∨
  (g = 2 ∧ e = 1 ∧ ∃ p o n : Nat, 1 ≤ n ∧ n ≤ 500 ∧ jAt X.2.2.1 p o (κ, n) ∧ a = nI p ∧ wh = nI (4 + o) ∧ b = nI n ∧ sz = nI n) ∨
  (g = 1 ∧ e = 0 ∧ ∃ p o n : Nat, 1 ≤ n ∧ n ≤ 500 ∧ jAt X.2.1 p o (κ, n) ∧ a = nI p ∧ wh = nI o ∧ b = nI n ∧ sz = nI n)
theorem jArr.up {X Y : JCX} (u : jUp X Y) {κ : Nat} {a b e : Int32} {g : Nat} {wh sz : Int32} (h : jArr X κ a b e g wh sz) : jArr Y κ a b e g wh sz := by
  obtain ⟨-, ⟨m1, u1⟩, ⟨m2, u2⟩, -⟩ := u
  rcases h with ⟨h1, h2, h3, p, o, h4, h5⟩ | ⟨h1, h2, p, o, n, h3, h4, h5, h6⟩ | ⟨h1, h2, p, o, n, h3, h4, h5, h6⟩
  · exact .inl ⟨h1, h2, h3, p, o, by rw [u2]; exact h4.up m2, h5⟩
  · exact .inr (.inl ⟨h1, h2, p, o, n, h3, h4, by rw [u2]; exact h5.up m2, h6⟩)
  · exact .inr (.inr ⟨h1, h2, p, o, n, h3, h4, by rw [u1]; exact h5.up m1, h6⟩)
def jPas (g : Nat) : Int32 := if g = 0 then 83 else if g = 1 then 81 else 82
def jAtg (g : Nat) : Int32 := if g = 0 then 76 else if g = 1 then 74 else 75
/-- an operator that wants both -/
def jBin (v : Nat) : Prop := v < 45 ∧ 2 ≤ (lvS (nI v)).toInt
/-- steps that no constant has -/
def jO2 (X : JCX) (w a b e : Int32) (c : Nat → Int32) (s s1 : SH) (n : Nat) : Prop :=
  (w = 1 ∧ n = 2 ∧ s1 = 0 :: s ∧ c 0 = 70 ∧ ∃ p o : Nat, jAt X.2.2.1 p o (0, 1) ∧ a = nI p ∧ c 1 = nI (4 + o)) ∨
  (w = 2 ∧ n = 2 ∧ s = 0 :: s1 ∧ c 0 = 72 ∧ ∃ p o : Nat, jAt X.2.2.1 p o (0, 1) ∧ a = nI p ∧ c 1 = nI (4 + o)) ∨
  (w = 3 ∧ n = 2 ∧ s1 = 0 :: s ∧ c 0 = 69 ∧ ∃ p o : Nat, jAt X.2.1 p o (0, 1) ∧ a = nI p ∧ c 1 = nI o) ∨
  (w = 4 ∧ n = 2 ∧ s = 0 :: s1 ∧ c 0 = 71 ∧ ∃ p o : Nat, jAt X.2.1 p o (0, 1) ∧ a = nI p ∧ c 1 = nI o) ∨
  (w = 5 ∧ n = 3 ∧ ∃ κ g : Nat, (κ = 1 ∨ κ = 2) ∧ jArr X κ a b e g (c 1) (c 2) ∧ c 0 = jPas g ∧ s1 = jPush κ s) ∨
  (w = 6 ∧ n = 5 ∧ ∃ κ g pl l : Nat, (κ = 1 ∨ κ = 2) ∧ l ≤ 1 ∧ pl ≤ 4000 ∧ e = nI (2 * pl + l) ∧ jArr X κ a b (nI l) g (c 1) (c 2) ∧ c 0 = jAtg g ∧ c 3 = (if κ = 1 then 0 else 2) ∧ c 4 = nI pl ∧ ∃ s0, s = 0 :: s0 ∧ s1 = κ :: s0) ∨
  (w = 7 ∧ n = 1 ∧ ∃ (κ : Nat) (s0 : SH), (κ = 1 ∨ κ = 2) ∧ s = κ :: s0 ∧ s1 = 0 :: s0 ∧ c 0 = (if κ = 1 then 77 else 78)) ∨
  (w = 8 ∧ n = 1 ∧ ∃ κ : Nat, (κ = 1 ∨ κ = 2) ∧ s = 0 :: κ :: s1 ∧ a = (if κ = 1 then 0 else 1) ∧ c 0 = (if κ = 1 then 79 else 80)) ∨
  (w = 9 ∧ n = 1 ∧ c 0 = 67 ∧ ∃ (κ : Nat) (s0 : SH), (κ = 1 ∨ κ = 2) ∧ s = κ :: s0 ∧ s1 = κ :: κ :: s0) ∨
  (w = 18 ∧ n = 1 ∧ c 0 = 68 ∧ s = 0 :: s1) ∨
  (w = 19 ∧ n = 1 ∧ c 0 = 16 ∧ s = 0 :: s1) ∨
  (w = 21 ∧ n = 1 ∧ c 0 = 17 ∧ s1 = 0 :: s) ∨
  (w = 22 ∧ n = 3 ∧ c 0 = 73 ∧ s1 = s ∧ ∃ κ p o m : Nat, (κ = 1 ∨ κ = 2) ∧ jAt X.2.2.1 p o (κ, m) ∧ a = nI p ∧ b = nI m ∧ c 1 = nI (4 + o) ∧ c 2 = nI (joW (κ, m)) ∧ joW (κ, m) ≤ 200)
/-- a step that only goes on: what both have for it, and what it does to the shape -/
def jO (X : JCX) (w a b e : Int32) (c : Nat → Int32) (s s1 : SH) (n : Nat) : Prop :=
  (w = 0 ∧ n = 2 ∧ c 0 = 66 ∧ c 1 = a ∧ s1 = 0 :: s) ∨
  (w = 10 ∧ n = 1 ∧ (∃ v : Nat, jBin v ∧ a = nI v ∧ c 0 = kS v) ∧ ∃ s0, s = 0 :: 0 :: s0 ∧ s1 = 0 :: s0) ∨
  (w = 11 ∧ n = 1 ∧ ((a = 39 ∧ c 0 = 64) ∨ (a = 43 ∧ c 0 = 62) ∨ (a = 44 ∧ c 0 = 63)) ∧ ∃ s0, s = 0 :: s0 ∧ s1 = 0 :: s0) ∨
  (w = 23 ∧ n = 1 ∧ c 0 = 65 ∧ ∃ s0, s = 0 :: s0 ∧ s1 = 0 :: s0) ∨
  (X.1 = false ∧ jO2 X w a b e c s s1 n)
theorem jO.up {X Y : JCX} (u : jUp X Y) {w a b e : Int32} {c : Nat → Int32} {s s1 : SH} {n : Nat} (h : jO X w a b e c s s1 n) : jO Y w a b e c s s1 n := by
  have u0 := u
  obtain ⟨u3, ⟨m1, u1⟩, ⟨m2, u2⟩, -⟩ := u
  rcases h with h | h | h | h | ⟨h0, h⟩
  · exact .inl h
  · exact .inr (.inl h)
  · exact .inr (.inr (.inl h))
  · exact .inr (.inr (.inr (.inl h)))
  · refine .inr (.inr (.inr (.inr ⟨u3.trans h0, ?_⟩)))
    rcases h with ⟨a1, a2, a3, a4, p, o, a5, a6⟩ | ⟨a1, a2, a3, a4, p, o, a5, a6⟩ | ⟨a1, a2, a3, a4, p, o, a5, a6⟩ | ⟨a1, a2, a3, a4, p, o, a5, a6⟩ | ⟨a1, a2, κ, g, a3, a4, a5⟩ | ⟨a1, a2, κ, g, pl, l, a3, a4, a5, a6, a7, a8⟩ | h | h | h | h | h | h | ⟨a1, a2, a3, a4, κ, p, o, m, a5, a6, a7⟩
    · exact .inl ⟨a1, a2, a3, a4, p, o, by rw [u2]; exact a5.up m2, a6⟩
    · exact .inr (.inl ⟨a1, a2, a3, a4, p, o, by rw [u2]; exact a5.up m2, a6⟩)
    · exact .inr (.inr (.inl ⟨a1, a2, a3, a4, p, o, by rw [u1]; exact a5.up m1, a6⟩))
    · exact .inr (.inr (.inr (.inl ⟨a1, a2, a3, a4, p, o, by rw [u1]; exact a5.up m1, a6⟩)))
    · exact .inr (.inr (.inr (.inr (.inl ⟨a1, a2, κ, g, a3, a4.up u0, a5⟩))))
    · exact .inr (.inr (.inr (.inr (.inr (.inl ⟨a1, a2, κ, g, pl, l, a3, a4, a5, a6, a7.up u0, a8⟩)))))
    · exact .inr (.inr (.inr (.inr (.inr (.inr (.inl h))))))
    · exact .inr (.inr (.inr (.inr (.inr (.inr (.inr (.inl h)))))))
    · exact .inr (.inr (.inr (.inr (.inr (.inr (.inr (.inr (.inl h))))))))
    · exact .inr (.inr (.inr (.inr (.inr (.inr (.inr (.inr (.inr (.inl h)))))))))
    · exact .inr (.inr (.inr (.inr (.inr (.inr (.inr (.inr (.inr (.inr (.inl h))))))))))
    · exact .inr (.inr (.inr (.inr (.inr (.inr (.inr (.inr (.inr (.inr (.inr (.inl h)))))))))))
    · exact .inr (.inr (.inr (.inr (.inr (.inr (.inr (.inr (.inr (.inr (.inr (.inr ⟨a1, a2, a3, a4, κ, p, o, m, a5, by rw [u2]; exact a6.up m2, a7⟩)))))))))))
/-- the words that a step takes are read, no others -/
theorem jO.cw {X : JCX} {w a b e : Int32} {c d : Nat → Int32} {s s1 : SH} {n : Nat} (h : jO X w a b e c s s1 n) (k : ∀ j, j < n → d j = c j) : jO X w a b e d s s1 n := by
  rcases h with ⟨h1, h2, h3⟩ | ⟨h1, h2, h3⟩ | ⟨h1, h2, h3⟩ | ⟨h1, h2, h3⟩ | ⟨h0, h⟩
  · exact .inl ⟨h1, h2, by rw [k 0 (by omega), k 1 (by omega)]; exact h3⟩
  · exact .inr (.inl ⟨h1, h2, by rw [k 0 (by omega)]; exact h3⟩)
  · exact .inr (.inr (.inl ⟨h1, h2, by rw [k 0 (by omega)]; exact h3⟩))
  · exact .inr (.inr (.inr (.inl ⟨h1, h2, by rw [k 0 (by omega)]; exact h3⟩)))
  · refine .inr (.inr (.inr (.inr ⟨h0, ?_⟩)))
    rcases h with ⟨h1, h2, h3⟩ | ⟨h1, h2, h3⟩ | ⟨h1, h2, h3⟩ | ⟨h1, h2, h3⟩ | ⟨h1, h2, h3⟩ | ⟨h1, h2, h3⟩ | ⟨h1, h2, h3⟩ | ⟨h1, h2, h3⟩ | ⟨h1, h2, h3⟩ | ⟨h1, h2, h3⟩ | ⟨h1, h2, h3⟩ | ⟨h1, h2, h3⟩ | ⟨h1, h2, h3⟩
    · exact .inl ⟨h1, h2, by rw [k 0 (by omega), k 1 (by omega)]; exact h3⟩
    · exact .inr (.inl ⟨h1, h2, by rw [k 0 (by omega), k 1 (by omega)]; exact h3⟩)
    · exact .inr (.inr (.inl ⟨h1, h2, by rw [k 0 (by omega), k 1 (by omega)]; exact h3⟩))
    · exact .inr (.inr (.inr (.inl ⟨h1, h2, by rw [k 0 (by omega), k 1 (by omega)]; exact h3⟩)))
    · exact .inr (.inr (.inr (.inr (.inl ⟨h1, h2, by rw [k 0 (by omega), k 1 (by omega), k 2 (by omega)]; exact h3⟩))))
    · exact .inr (.inr (.inr (.inr (.inr (.inl ⟨h1, h2, by rw [k 0 (by omega), k 1 (by omega), k 2 (by omega), k 3 (by omega), k 4 (by omega)]; exact h3⟩)))))
    · exact .inr (.inr (.inr (.inr (.inr (.inr (.inl ⟨h1, h2, by rw [k 0 (by omega)]; exact h3⟩))))))
    · exact .inr (.inr (.inr (.inr (.inr (.inr (.inr (.inl ⟨h1, h2, by rw [k 0 (by omega)]; exact h3⟩)))))))
    · exact .inr (.inr (.inr (.inr (.inr (.inr (.inr (.inr (.inl ⟨h1, h2, by rw [k 0 (by omega)]; exact h3⟩))))))))
    · exact .inr (.inr (.inr (.inr (.inr (.inr (.inr (.inr (.inr (.inl ⟨h1, h2, by rw [k 0 (by omega)]; exact h3⟩)))))))))
    · exact .inr (.inr (.inr (.inr (.inr (.inr (.inr (.inr (.inr (.inr (.inl ⟨h1, h2, by rw [k 0 (by omega)]; exact h3⟩))))))))))
    · exact .inr (.inr (.inr (.inr (.inr (.inr (.inr (.inr (.inr (.inr (.inr (.inl ⟨h1, h2, by rw [k 0 (by omega)]; exact h3⟩)))))))))))
    · exact .inr (.inr (.inr (.inr (.inr (.inr (.inr (.inr (.inr (.inr (.inr (.inr ⟨h1, h2, by rw [k 0 (by omega), k 1 (by omega), k 2 (by omega)]; exact h3⟩)))))))))))
theorem jO.n1 {X : JCX} {w a b e : Int32} {c : Nat → Int32} {s s1 : SH} {n : Nat} (h : jO X w a b e c s s1 n) : 1 ≤ n ∧ n ≤ 5 := by
  rcases h with h | h | h | h | ⟨-, h | h | h | h | h | h | h | h | h | h | h | h | h⟩ <;> have := h.2.1 <;> omega
/-- no step that goes on is a jump -/
theorem jO.nj {X : JCX} {w a b e : Int32} {c : Nat → Int32} {s s1 : SH} {n : Nat} (h : jO X w a b e c s s1 n) : ¬ w = 12 ∧ ¬ w = 13 ∧ ¬ w = 14 := by
  have k : ∀ x : Int32, w = x → (¬ x = 12 ∧ ¬ x = 13 ∧ ¬ x = 14) → (¬ w = 12 ∧ ¬ w = 13 ∧ ¬ w = 14) := fun x e q => by rw [e]; exact q
  rcases h with h | h | h | h | ⟨-, h | h | h | h | h | h | h | h | h | h | h | h | h⟩ <;> exact k _ h.1 (by decide)
