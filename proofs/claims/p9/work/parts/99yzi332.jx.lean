abbrev JAN : Type := Nat → SH × Option JLY
abbrev JHO : Type := Nat × Nat × SH × Nat × Int32 × Int32
abbrev wN (F : PF) : Nat := (F 6).toNatClampNeg
/-- what stands at k: this shape, and no more than ll -/
def jAn (A : JAN) (k : Nat) (s : SH) (ll : JLY) : Prop := ∃ l1 : JLY, A k = (s, some l1) ∧ jLe l1 ll
/-- a jump on a truth that has its aim; the second kind goes beyond a number -/
def jCo (X : JCX) (Gm Gc : PG) (mu : Nat → Nat) (A : JAN) (B k : Nat) (s0 : SH) (t : Nat) (ll : JLY) : Prop :=
  (t ≤ B ∧ (X.1 = true → k < t) ∧ jAn A t s0 ll ∧ Gc 5 (mu k + 1) = nI (mu t) ∧ ((Gm 56 k = 13 ∧ Gc 5 (mu k) = 86) ∨ (Gm 56 k = 14 ∧ Gc 5 (mu k) = 85))) ∨
  (t + 1 ≤ B ∧ k < t ∧ jAn A (t + 1) (0 :: s0) ll ∧ Gc 5 (mu k + 1) = nI (mu (t + 1)) ∧ Gm 56 t = 0 ∧ ((Gm 56 k = 13 ∧ Gc 5 (mu k) = 88 ∧ Gm 57 t = 0) ∨ (Gm 56 k = 14 ∧ Gc 5 (mu k) = 87 ∧ Gm 57 t = 1)))
/-- what no constant has -/
def jT2 (X : JCX) (Gm Gc : PG) (mu : Nat → Nat) (A : JAN) (B k : Nat) (ll : JLY) : Prop :=
  (Gm 56 k = 15 ∧ Gc 5 (mu k) = 89 ∧ jAn A (k + 1) (A k).1 ll ∧ mu (k + 1) = mu k + 1) ∨
  (Gm 56 k = 15 ∧ k + 2 ≤ B ∧ Gm 56 (k + 1) = 16 ∧ Gc 5 (mu k) = 90 ∧ mu (k + 1) = mu k + 3 ∧ mu (k + 2) = mu k + 3 ∧ ∃ (f : Nat) (s0 : SH), (f < 1000 ∧ Gm 57 (k + 1) = nI f) ∧ Gc 5 (mu k + 1) = nI f ∧ Gc 5 (mu k + 2) = Gm 58 (k + 1) ∧ (A k).1 = jArg (X.2.2.2 f) s0 ∧ jAn A (k + 2) (0 :: s0) ll) ∨
  (Gm 56 k = 17 ∧ Gc 5 (mu k) = 15 ∧ (A k).1 = [0] ∧ mu k + 1 ≤ mu (k + 1)) ∨
  (Gm 56 k = 20 ∧ Gc 5 (mu k) = 18 ∧ (∃ s0, (A k).1 = 0 :: s0) ∧ mu k + 1 ≤ mu (k + 1)) ∨
  (Gm 56 k = 2 ∧ Gc 5 (mu k) = 72 ∧ Gm 57 k = nI (jsC ll) ∧ Gc 5 (mu k + 1) = nI (4 + jsW ll) ∧ mu (k + 1) = mu k + 2 ∧ ∃ s1, (A k).1 = 0 :: s1 ∧ jAn A (k + 1) s1 (ll ++ [(0, 1)]) ∧ jLe (ll ++ [(0, 1)]) X.2.2.1) ∨
  (Gm 56 k = 22 ∧ Gc 5 (mu k) = 73 ∧ Gm 57 k = nI (jsC ll) ∧ Gc 5 (mu k + 1) = nI (4 + jsW ll) ∧ mu (k + 1) = mu k + 3 ∧ ∃ κ m : Nat, ((κ = 1 ∨ κ = 2) ∧ joW (κ, m) ≤ 200) ∧ Gm 58 k = nI m ∧ Gc 5 (mu k + 2) = nI (joW (κ, m)) ∧ jAn A (k + 1) (A k).1 (ll ++ [(κ, m)]) ∧ jLe (ll ++ [(κ, m)]) X.2.2.1)
/-- a step of the reference and the words of the class at its place say the same; what stands there is ll -/
def jTl (X : JCX) (Gm Gc : PG) (mu : Nat → Nat) (A : JAN) (B k : Nat) (ll : JLY) : Prop :=
  (∃ (s1 : SH) (n : Nat), jO (X.1, X.2.1, ll, X.2.2.2) (Gm 56 k) (Gm 57 k) (Gm 58 k) (Gm 59 k) (fun j => Gc 5 (mu k + j)) (A k).1 s1 n ∧ jAn A (k + 1) s1 ll ∧ mu (k + 1) = mu k + n) ∨
  (Gm 56 k = 12 ∧ ∃ t : Nat, t ≤ B ∧ (X.1 = true → k < t) ∧ Gm 57 k = nI t ∧ jAn A t (A k).1 ll ∧ (mu t = mu k ∨ (Gc 5 (mu k) = 84 ∧ Gc 5 (mu k + 1) = nI (mu t) ∧ mu k + 2 ≤ mu (k + 1)))) ∨
  (∃ (s0 : SH) (t : Nat), (A k).1 = 0 :: s0 ∧ jAn A (k + 1) s0 ll ∧ mu (k + 1) = mu k + 2 ∧ Gm 57 k = nI t ∧ jCo X Gm Gc mu A B k s0 t ll) ∨
  (X.1 = false ∧ jT2 X Gm Gc mu A B k ll)
def jT (X : JCX) (Gm Gc : PG) (mu : Nat → Nat) (A : JAN) (B k : Nat) : Prop := (A k).2 = none ∨ ∃ ll : JLY, (A k).2 = some ll ∧ jTl X Gm Gc mu A B k ll
/-- a jump that waits for its aim: step, place of the aim, shape there, kind, what stands for the aim by now -/
def jH (Gm Gc : PG) (mu : Nat → Nat) (A : JAN) (x : JHO) : Prop :=
  x.2.1 = mu x.1 + 1 ∧ mu x.1 + 2 ≤ mu (x.1 + 1) ∧ Gm 57 x.1 = x.2.2.2.2.1 ∧ Gc 5 x.2.1 = x.2.2.2.2.2 ∧ ∃ ll : JLY, (A x.1).2 = some ll ∧
  ((x.2.2.2.1 = 0 ∧ Gm 56 x.1 = 12 ∧ Gc 5 (mu x.1) = 84 ∧ (A x.1).1 = x.2.2.1) ∨
   (∃ s0 : SH, (A x.1).1 = 0 :: s0 ∧ jAn A (x.1 + 1) s0 ll ∧ mu (x.1 + 1) = mu x.1 + 2 ∧
    ((x.2.2.2.1 = 1 ∧ Gm 56 x.1 = 13 ∧ Gc 5 (mu x.1) = 86 ∧ x.2.2.1 = s0) ∨ (x.2.2.2.1 = 2 ∧ Gm 56 x.1 = 14 ∧ Gc 5 (mu x.1) = 87 ∧ x.2.2.1 = 0 :: s0) ∨ (x.2.2.2.1 = 3 ∧ Gm 56 x.1 = 13 ∧ Gc 5 (mu x.1) = 88 ∧ x.2.2.1 = 0 :: s0))))
def jND (hs : List JHO) : Prop := (hs.map (fun x => x.1)).Nodup
theorem jND.cons {x : JHO} {hs : List JHO} (h : jND hs) (hx : ∀ y ∈ hs, y.1 ≠ x.1) : jND (x :: hs) := by
  unfold jND
  rw [List.map_cons, List.nodup_cons]
  refine ⟨fun q => ?_, h⟩
  obtain ⟨y, q1, q2⟩ := List.mem_map.mp q
  exact hx y q1 q2
theorem jND.app {a b : List JHO} (ha : jND a) (hb : jND b) (h : ∀ x ∈ a, ∀ y ∈ b, x.1 ≠ y.1) : jND (a ++ b) := by
  unfold jND
  rw [List.map_append, List.nodup_append]
  refine ⟨ha, hb, ?_⟩
  intro p hp q hq
  obtain ⟨x, x1, x2⟩ := List.mem_map.mp hp
  obtain ⟨y, y1, y2⟩ := List.mem_map.mp hq
  rw [← x2, ← y2]
  exact h x x1 y y1
theorem jND.cut {a b : List JHO} {x : JHO} (h : jND (a ++ x :: b)) : jND (a ++ b) ∧ ∀ y ∈ a ++ b, y.1 ≠ x.1 := by
  induction a with
  | nil =>
    unfold jND at h
    rw [List.nil_append, List.map_cons, List.nodup_cons] at h
    refine ⟨h.2, fun y hy q => h.1 (List.mem_map.mpr ⟨y, hy, q⟩)⟩
  | cons z a ih =>
    unfold jND at h
    rw [List.cons_append, List.map_cons, List.nodup_cons] at h
    obtain ⟨i1, i2⟩ := ih h.2
    have hz : ∀ y ∈ a ++ x :: b, y.1 ≠ z.1 := fun y hy q => h.1 (List.mem_map.mpr ⟨y, hy, q⟩)
    refine ⟨jND.cons i1 (fun y hy => hz y ?_), ?_⟩
    · rcases List.mem_append.mp hy with q | q
      · exact List.mem_append_left _ q
      · exact List.mem_append_right _ (List.mem_cons_of_mem _ q)
    · intro y hy
      rcases List.mem_cons.mp (show y ∈ z :: (a ++ b) from hy) with rfl | q
      · exact fun q => hz x (List.mem_append_right _ (List.mem_cons_self ..)) q.symm
      · exact i2 y q
def jMo (mu : Nat → Nat) (a b : Nat) : Prop := ∀ i j : Nat, a ≤ i → i ≤ j → j ≤ b → mu i ≤ mu j
/-- no more stands in l than at the beginning -/
def jBg (A0 : JAN) (a : Nat) (l : JLY) : Prop := ∀ l0 : JLY, (A0 a).2 = some l0 → jLe l l0
theorem jBg.of {A0 : JAN} {a : Nat} {s : SH} {l : JLY} (h : A0 a = (s, some l)) : jBg A0 a l := fun l0 e => by
  rw [h] at e
  exact (Option.some.inj e) ▸ jLe.rf
theorem jBg.le {A0 : JAN} {a : Nat} {l l1 : JLY} (h : jBg A0 a l) (k : jLe l1 l) : jBg A0 a l1 := fun l0 e => k.tr (h l0 e)
/-- all that ever stands, stands in l0 and what comes behind it; sizes never shrink -/
def jZ (A : JAN) (a b : Nat) (l0 : JLY × JLY) (lx : JLY) : Prop := (jsC (l0.1 ++ l0.2) = jsC lx ∧ jsW (l0.1 ++ l0.2) = jsW lx) ∧ ∀ (k : Nat) (l : JLY), a ≤ k → k ≤ b → (A k).2 = some l → jLe l0.1 l ∧ jSz l lx ∧ jLe l (l0.1 ++ l0.2)
/-- code that both made from one state to another: alike but for what waits; known places ls; what stood at the beginning, l0, stands all the while -/
def JX (X : JCX) (Fc0 : PF) (Gc0 : PG) (Fm0 : PF) (Gm0 : PG) (mu0 : Nat → Nat) (A0 : JAN) (Fc : PF) (Gc : PG) (Fm : PF) (Gm : PG) (s : SH) (hs : List JHO) (ls : List (Nat × Nat × SH)) : Prop :=
  ∃ (mu : Nat → Nat) (A : JAN) (l0 : JLY × JLY), (A (sN Fm0)).2 = some l0.1 ∧ (jND hs ∧ sN Fm0 ≤ sN Fm ∧ wN Fc0 ≤ wN Fc ∧ jMo mu (sN Fm0) (sN Fm) ∧ mu (sN Fm0) = wN Fc0) ∧ (∀ k, k ≤ sN Fm0 → mu k = mu0 k ∧ A k = A0 k) ∧ (A (sN Fm) = (s, some X.2.2.1) ∧ mu (sN Fm) = wN Fc) ∧ ((∀ k, k < sN Fm0 → cEq Gm0 Gm k) ∧ ∀ j, j < wN Fc0 → Gc 5 j = Gc0 5 j) ∧
    (∀ x ∈ hs, sN Fm0 ≤ x.1 ∧ x.1 < sN Fm ∧ jH Gm Gc mu A x) ∧ (∀ y ∈ ls, sN Fm0 ≤ y.1 ∧ y.1 ≤ sN Fm ∧ mu y.1 = y.2.1 ∧ ∀ (k : Nat) (l : JLY), y.1 ≤ k → k ≤ sN Fm → (A k).2 = some l → jAn A y.1 y.2.2 l) ∧ jZ A (sN Fm0) (sN Fm) l0 X.2.2.1 ∧ ∀ k, sN Fm0 ≤ k → k < sN Fm → jT (X.1, X.2.1, l0.1 ++ l0.2, X.2.2.2) Gm Gc mu A (sN Fm) k ∨ ∃ x ∈ hs, x.1 = k
def jJm (w : Int32) : Prop := w = 12 ∨ w = 13 ∨ w = 14
section JX2
variable {X Y : JCX} {Gm Gc Gm1 Gc1 : PG} {mu mu1 : Nat → Nat} {A A1 : JAN} {a B B1 C k t p : Nat} {s0 s : SH} {ll l1 : JLY} {x : JHO}
theorem jAn.ext (h : jAn A k s ll) (e : A1 k = A k) : jAn A1 k s ll := by
  obtain ⟨l1, h1, h2⟩ := h
  exact ⟨l1, e.trans h1, h2⟩
theorem jAn.mk (e : A k = (s, some l1)) (h : jLe l1 ll) : jAn A k s ll := ⟨l1, e, h⟩
/-- what a step's likeness reads -/
theorem jCo.ext (h : jCo X Gm Gc mu A B k s0 t ll) (hk : k < B) (hA : ∀ j, j ≤ B → mu1 j = mu j ∧ A1 j = A j) (hB : B ≤ B1) (ck : cEq Gm Gm1 k) (hc : ∀ j, k < j → j < B → ¬ jJm (Gm 56 j) → cEq Gm Gm1 j) (hd : Gc1 5 (mu k) = Gc 5 (mu k) ∧ Gc1 5 (mu k + 1) = Gc 5 (mu k + 1)) : jCo X Gm1 Gc1 mu1 A1 B1 k s0 t ll := by
  have ek := hA k (by omega)
  unfold jCo
  rw [ek.1, hd.1, hd.2, ck.1]
  rcases h with ⟨a1, a2, a3, a4, a5⟩ | ⟨a1, a2, a3, a4, a5, a6⟩
  · have e := hA t a1
    exact .inl ⟨by omega, a2, a3.ext e.2, by rw [e.1]; exact a4, a5⟩
  · have e := hA (t + 1) a1
    have f := hc t (by omega) (by omega) (by rw [a5]; unfold jJm; decide)
    exact .inr ⟨by omega, a2, a3.ext e.2, by rw [e.1]; exact a4, by rw [f.1]; exact a5, by rw [f.2.1]; exact a6⟩
theorem jT.gen (h : jT X Gm Gc mu A B k) (hk : k < B) (hA : ∀ j, j ≤ B → mu1 j = mu j ∧ A1 j = A j) (hB : B ≤ B1) (ck : cEq Gm Gm1 k) (hc : ∀ j, k < j → j < B → ¬ jJm (Gm 56 j) → cEq Gm Gm1 j) (hd : ∀ j, mu k ≤ j → j < mu (k + 1) → Gc1 5 j = Gc 5 j) : jT X Gm1 Gc1 mu1 A1 B1 k := by
  have ek := hA k (by omega)
  have en := hA (k + 1) (by omega)
  unfold jT
  rw [ek.2]
  rcases h with h | ⟨ll, hl, h⟩
  · exact .inl h
  refine .inr ⟨ll, hl, ?_⟩
  unfold jTl
  rw [ek.1, ek.2, en.1, ck.1, ck.2.1, ck.2.2.1, ck.2.2.2]
  rcases h with ⟨s1, n, h1, h2, h3⟩ | ⟨h1, t, h2, h3, h4, h5, h6⟩ | ⟨s0, t, h1, h2, h3, h4, h5⟩ | ⟨h0, h⟩
  · exact .inl ⟨s1, n, h1.cw (fun j hj => hd _ (by omega) (by omega)), h2.ext en.2, h3⟩
  · have et := hA t h2
    refine .inr (.inl ⟨h1, t, by omega, h3, h4, h5.ext et.2, ?_⟩)
    rcases h6 with q | ⟨q1, q2, q3⟩
    · exact .inl (by rw [et.1]; exact q)
    · exact .inr ⟨by rw [hd (mu k) (by omega) (by omega)]; exact q1, by rw [hd (mu k + 1) (by omega) (by omega), et.1]; exact q2, q3⟩
  · refine .inr (.inr (.inl ⟨s0, t, h1, h2.ext en.2, h3, h4, ?_⟩))
    exact h5.ext hk hA hB ck hc ⟨hd (mu k) (by omega) (by omega), hd (mu k + 1) (by omega) (by omega)⟩
  · refine .inr (.inr (.inr ⟨h0, ?_⟩))
    unfold jT2
    rw [ek.1, ek.2, en.1, ck.1, ck.2.1, ck.2.2.1]
    rcases h with ⟨q1, q2, q3, q4⟩ | ⟨q1, q2, q3, q4, q5, q6, f, s0, q7, q8, q9, q10, q11⟩ | ⟨q1, q2, q3, q4⟩ | ⟨q1, q2, q3, q4⟩ | ⟨q1, q2, q3, q4, q5, s1, q6, q7, qz⟩ | ⟨q1, q2, q3, q4, q5, κ, m, q6, q7, q8, q9, qz⟩
    · exact .inl ⟨q1, by rw [hd (mu k) (by omega) (by omega)]; exact q2, q3.ext en.2, q4⟩
    · have e2 := hA (k + 2) (by omega)
      have c1 := hc (k + 1) (by omega) (by omega) (by rw [q3]; unfold jJm; decide)
      exact .inr (.inl ⟨q1, by omega, by rw [c1.1]; exact q3, by rw [hd (mu k) (by omega) (by omega)]; exact q4, q5, by rw [e2.1]; exact q6, f, s0, by rw [c1.2.1]; exact q7, by rw [hd (mu k + 1) (by omega) (by omega)]; exact q8, by rw [hd (mu k + 2) (by omega) (by omega), c1.2.2.1]; exact q9, q10, q11.ext e2.2⟩)
    · exact .inr (.inr (.inl ⟨q1, by rw [hd (mu k) (by omega) (by omega)]; exact q2, q3, q4⟩))
    · exact .inr (.inr (.inr (.inl ⟨q1, by rw [hd (mu k) (by omega) (by omega)]; exact q2, q3, q4⟩)))
    · exact .inr (.inr (.inr (.inr (.inl ⟨q1, by rw [hd (mu k) (by omega) (by omega)]; exact q2, q3, by rw [hd (mu k + 1) (by omega) (by omega)]; exact q4, q5, s1, q6, q7.ext en.2, qz⟩))))
    · exact .inr (.inr (.inr (.inr (.inr ⟨q1, by rw [hd (mu k) (by omega) (by omega)]; exact q2, q3, by rw [hd (mu k + 1) (by omega) (by omega)]; exact q4, q5, κ, m, q6, q7, by rw [hd (mu k + 2) (by omega) (by omega)]; exact q8, q9.ext en.2, qz⟩))))
theorem jT.ext (h : jT X Gm Gc mu A B k) (hk : a ≤ k ∧ k < B) (hm : jMo mu a B) (hC : mu B ≤ C) (hA : ∀ j, j ≤ B → mu1 j = mu j ∧ A1 j = A j) (hB : B ≤ B1) (hc : ∀ j, a ≤ j → j < B → cEq Gm Gm1 j) (hd : ∀ j, j < C → Gc1 5 j = Gc 5 j) : jT X Gm1 Gc1 mu1 A1 B1 k := by
  have m1 : mu (k + 1) ≤ C := Nat.le_trans (hm (k + 1) B (by omega) (by omega) (Nat.le_refl _)) hC
  exact h.gen hk.2 hA hB (hc k hk.1 hk.2) (fun j q1 q2 _ => hc j (by omega) q2) (fun j _ q => hd j (by omega))
theorem jT.pat (h : jT X Gm Gc mu A B k) (hk : a ≤ k ∧ k < B) (hp : a ≤ p ∧ p < B) (kp : k ≠ p) (hm : jMo mu a B) (hw : jJm (Gm 56 p)) (hn : mu p + 2 ≤ mu (p + 1)) (c1 : ∀ j, j ≠ p → cEq Gm Gm1 j) (d1 : ∀ j, j ≠ mu p + 1 → Gc1 5 j = Gc 5 j) : jT X Gm1 Gc1 mu A B k := by
  refine h.gen hk.2 (fun _ _ => ⟨rfl, rfl⟩) (Nat.le_refl _) (c1 k kp) (fun j _ _ q => c1 j (fun z => q (by rw [z]; exact hw))) (fun j q1 q2 => d1 j ?_)
  rcases Nat.lt_or_ge k p with q | q
  · have := hm (k + 1) p (by omega) (by omega) (by omega)
    omega
  · have := hm (p + 1) k (by omega) (by omega) (by omega)
    omega
theorem jH.pat (h : jH Gm Gc mu A x) (hk : a ≤ x.1 ∧ x.1 < B) (hp : a ≤ p ∧ p < B) (kp : x.1 ≠ p) (hm : jMo mu a B) (hn : mu p + 2 ≤ mu (p + 1)) (c1 : ∀ j, j ≠ p → cEq Gm Gm1 j) (d1 : ∀ j, j ≠ mu p + 1 → Gc1 5 j = Gc 5 j) : jH Gm1 Gc1 mu A x := by
  obtain ⟨h1, h2, h3, h4, h5⟩ := h
  have ne : mu x.1 + 1 < mu p + 1 ∨ mu p + 1 < mu x.1 := by
    rcases Nat.lt_or_ge x.1 p with q | q
    · have := hm (x.1 + 1) p (by omega) (by omega) (by omega)
      omega
    · have := hm (p + 1) x.1 (by omega) (by omega) (by omega)
      omega
  have c := c1 x.1 kp
  unfold jH
  rw [c.1, c.2.1, d1 (mu x.1) (by omega), d1 x.2.1 (by omega)]
  exact ⟨h1, h2, h3, h4, h5⟩
theorem jH.ext (h : jH Gm Gc mu A x) (e0 : mu1 x.1 = mu x.1 ∧ A1 x.1 = A x.1) (e1 : mu1 (x.1 + 1) = mu (x.1 + 1) ∧ A1 (x.1 + 1) = A (x.1 + 1)) (hc : cEq Gm Gm1 x.1) (hd : ∀ j, j < mu (x.1 + 1) → Gc1 5 j = Gc 5 j) : jH Gm1 Gc1 mu1 A1 x := by
  obtain ⟨h1, h2, h3, h4, h5⟩ := h
  unfold jH jAn
  rw [e0.1, e0.2, e1.1, e1.2, hc.1, hc.2.1, hd (mu x.1) (by omega), hd x.2.1 (by omega)]
  exact ⟨h1, h2, h3, h4, h5⟩
/-- the context's layout may grow -/
theorem jT.ctx (u : Y.1 = X.1 ∧ Y.2.1 = X.2.1 ∧ Y.2.2.2 = X.2.2.2) (ul : jLe X.2.2.1 Y.2.2.1) (h : jT X Gm Gc mu A B k) : jT Y Gm Gc mu A B k := by
  have e : jT (X.1, X.2.1, Y.2.2.1, X.2.2.2) Gm Gc mu A B k := by
    rcases h with h | ⟨lk, hlk, h⟩
    · exact .inl h
    refine .inr ⟨lk, hlk, ?_⟩
    rcases h with h | h | h | ⟨h0, h⟩
    · exact .inl h
    · exact .inr (.inl h)
    · exact .inr (.inr (.inl h))
    · refine .inr (.inr (.inr ⟨h0, ?_⟩))
      rcases h with h | h | h | h | ⟨q1, q2, q3, q4, q5, s1, q6, q7, qz⟩ | ⟨q1, q2, q3, q4, q5, κ, m, q6, q7, q8, q9, qz⟩
      · exact .inl h
      · exact .inr (.inl h)
      · exact .inr (.inr (.inl h))
      · exact .inr (.inr (.inr (.inl h)))
      · exact .inr (.inr (.inr (.inr (.inl ⟨q1, q2, q3, q4, q5, s1, q6, q7, qz.tr ul⟩))))
      · exact .inr (.inr (.inr (.inr (.inr ⟨q1, q2, q3, q4, q5, κ, m, q6, q7, q8, q9, qz.tr ul⟩))))
  obtain ⟨y1, y2, y3, y4⟩ := Y
  obtain ⟨u1, u2, u3⟩ := u
  dsimp only at u1 u2 u3
  subst u1 u2 u3
  exact e
/-- what stands at the end may be less -/
theorem jT.wk (h : jT X Gm Gc mu A B k) (hk : k < B) (e : A B = (s, some l1)) (hl : jLe ll l1) (hA : ∀ j, j < B → A1 j = A j) (eB : A1 B = (s, some ll)) : jT X Gm Gc mu A1 B k := by
  have an : ∀ (j : Nat) (s' : SH) (l' : JLY), j ≤ B → jAn A j s' l' → jAn A1 j s' l' := by
    rintro j s' l' hj ⟨lx, q1, q2⟩
    by_cases c : j = B
    · subst c
      rw [e] at q1
      have i1 : s = s' := congrArg (fun z : SH × Option JLY => z.1) q1
      have i2 : l1 = lx := Option.some.inj (congrArg (fun z : SH × Option JLY => z.2) q1)
      exact ⟨ll, by rw [eB, i1], hl.tr (by rw [i2]; exact q2)⟩
    · exact ⟨lx, by rw [hA j (by omega)]; exact q1, q2⟩
  have ek := hA k hk
  rcases h with h | ⟨lk, hlk, h⟩
  · exact .inl (by rw [ek]; exact h)
  refine .inr ⟨lk, by rw [ek]; exact hlk, ?_⟩
  unfold jTl
  rw [ek]
  rcases h with ⟨s1, n, h1, h2, h3⟩ | ⟨h1, t, h2, h3, h4, h5, h6⟩ | ⟨s0, t, h1, h2, h3, h4, h5⟩ | ⟨h0, h⟩
  · exact .inl ⟨s1, n, h1, an _ _ _ (by omega) h2, h3⟩
  · exact .inr (.inl ⟨h1, t, h2, h3, h4, an _ _ _ h2 h5, h6⟩)
  · refine .inr (.inr (.inl ⟨s0, t, h1, an _ _ _ (by omega) h2, h3, h4, ?_⟩))
    rcases h5 with ⟨a1, a2, a3, a4⟩ | ⟨a1, a2, a3, a4⟩
    · exact .inl ⟨a1, a2, an _ _ _ a1 a3, a4⟩
    · exact .inr ⟨a1, a2, an _ _ _ a1 a3, a4⟩
  · refine .inr (.inr (.inr ⟨h0, ?_⟩))
    unfold jT2
    rw [ek]
    rcases h with ⟨q1, q2, q3, q4⟩ | ⟨q1, q2, q3, q4, q5, q6, f, s0, q7, q8, q9, q10, q11⟩ | h | h | ⟨q1, q2, q3, q4, q5, s1, q6, q7, qz⟩ | ⟨q1, q2, q3, q4, q5, κ, m, q6, q7, q8, q9, qz⟩
    · exact .inl ⟨q1, q2, an _ _ _ (by omega) q3, q4⟩
    · exact .inr (.inl ⟨q1, q2, q3, q4, q5, q6, f, s0, q7, q8, q9, q10, an _ _ _ q2 q11⟩)
    · exact .inr (.inr (.inl h))
    · exact .inr (.inr (.inr (.inl h)))
    · exact .inr (.inr (.inr (.inr (.inl ⟨q1, q2, q3, q4, q5, s1, q6, an _ _ _ (by omega) q7, qz⟩))))
    · exact .inr (.inr (.inr (.inr (.inr ⟨q1, q2, q3, q4, q5, κ, m, q6, q7, q8, an _ _ _ (by omega) q9, qz⟩))))
end JX2
theorem jZ.q {A : JAN} {a b : Nat} {l0 : JLY × JLY} {lx : JLY} (h : jZ A a b l0 lx) (k : Nat) (l : JLY) (k1 : a ≤ k) (k2 : k ≤ b) (e : (A k).2 = some l) : jLe l0.1 l ∧ jSz l lx := ⟨(h.2 k l k1 k2 e).1, (h.2 k l k1 k2 e).2.1⟩
theorem jZ.nil {A : JAN} {a b : Nat} {lx : JLY} (h : ∀ (k : Nat) (l : JLY), a ≤ k → k ≤ b → (A k).2 = some l → l = lx) : jZ A a b (lx, []) lx := by
  refine ⟨by dsimp only; rw [List.append_nil]; exact ⟨rfl, rfl⟩, fun k l k1 k2 e => ?_⟩
  rw [h k l k1 k2 e]
  exact ⟨jLe.rf, jSz.rf, jLe.app _ _⟩
/-- nothing made yet -/
theorem JX.rf {X : JCX} {Fc Fm : PF} {Gc Gm : PG} {mu : Nat → Nat} {A : JAN} {s : SH} (h : A (sN Fm) = (s, some X.2.2.1)) (h1 : mu (sN Fm) = wN Fc) : JX X Fc Gc Fm Gm mu A Fc Gc Fm Gm s [] [] := by
  refine ⟨mu, A, (X.2.2.1, []), by rw [h], ⟨List.nodup_nil, Nat.le_refl _, Nat.le_refl _, fun i j a b c => ?_, h1⟩, fun _ _ => ⟨rfl, rfl⟩, ⟨h, h1⟩, ⟨fun _ _ => cEq.rf, fun _ _ => rfl⟩, (fun x hx => nomatch hx), (fun x hx => nomatch hx), jZ.nil (fun k l k1 k2 el => ?_), fun k h1 h2 => absurd h2 (Nat.not_lt.mpr h1)⟩
  · have e : i = j := by omega
    rw [e]
    exact Nat.le_refl _
  · have ek : k = sN Fm := by omega
    rw [ek, h] at el
    exact (Option.some.inj el).symm
/-- one made behind the other -/
theorem JX.trl {X Y : JCX} {Fc0 Fm0 Fc Fm Fc1 Fm1 : PF} {Gc0 Gm0 Gc Gm Gc1 Gm1 : PG} {mu0 : Nat → Nat} {A0 : JAN} {s s1 : SH} {hs hs1 : List JHO} {ls ls1 : List (Nat × Nat × SH)} (u : Y.1 = X.1 ∧ Y.2.1 = X.2.1 ∧ Y.2.2.2 = X.2.2.2) (h : JX X Fc0 Gc0 Fm0 Gm0 mu0 A0 Fc Gc Fm Gm s hs ls) (h1 : ∀ (mu : Nat → Nat) (A : JAN), A (sN Fm) = (s, some X.2.2.1) → mu (sN Fm) = wN Fc → (∀ y ∈ ls, y.1 ≤ sN Fm ∧ jAn A y.1 y.2.2 X.2.2.1 ∧ mu y.1 = y.2.1) → JX Y Fc Gc Fm Gm mu A Fc1 Gc1 Fm1 Gm1 s1 hs1 ls1) : JX Y Fc0 Gc0 Fm0 Gm0 mu0 A0 Fc1 Gc1 Fm1 Gm1 s1 (hs1 ++ hs) (ls1 ++ ls) := by
  obtain ⟨mu, A, l0, e0, ⟨a0, a1, a2, a3, az⟩, a4, ⟨a5, a6⟩, ⟨a7, a8⟩, a9, a10, aZ, a11⟩ := h
  have top : jLe l0.1 X.2.2.1 := (aZ.q (sN Fm) X.2.2.1 a1 (Nat.le_refl _) (by rw [a5])).1
  obtain ⟨mu1, A1, l1, e1, ⟨b0, b1, b2, b3, bz⟩, b4, ⟨b5, b6⟩, ⟨b7, b8⟩, b9, b10, bZ, b11⟩ := h1 mu A a5 a6 (fun y hy => by
    obtain ⟨c1, c2, c3, c4⟩ := a10 y hy
    exact ⟨c2, c4 (sN Fm) X.2.2.1 c2 (Nat.le_refl _) (by rw [a5]), c3⟩)
  have el : l1.1 = X.2.2.1 := by
    rw [(b4 _ (Nat.le_refl _)).2, a5] at e1
    exact (Option.some.inj e1).symm
  have fl : l0.1 ++ (l0.2 ++ l1.2) = (l0.1 ++ l0.2) ++ l1.2 := (List.append_assoc ..).symm
  have fz : jLe (X.2.2.1 ++ l1.2) ((l0.1 ++ l0.2) ++ l1.2) := by
    have y := aZ.2 (sN Fm) X.2.2.1 a1 (Nat.le_refl _) (by rw [a5])
    exact jLe.cat y.2.2 aZ.1.1.symm aZ.1.2.symm l1.2
  have mm : jMo mu1 (sN Fm0) (sN Fm1) := by
    intro i j p q r
    rcases Nat.lt_or_ge j (sN Fm) with c | c
    · rw [(b4 i (by omega)).1, (b4 j (by omega)).1]
      exact a3 i j p q (by omega)
    · rcases Nat.lt_or_ge i (sN Fm) with d | d
      · have := a3 i (sN Fm) p (by omega) (Nat.le_refl _)
        have := b3 (sN Fm) j (Nat.le_refl _) c r
        rw [(b4 (sN Fm) (Nat.le_refl _)).1] at this
        rw [(b4 i (by omega)).1]
        omega
      · exact b3 i j d q r
  refine ⟨mu1, A1, (l0.1, l0.2 ++ l1.2), by rw [(b4 _ a1).2]; exact e0, ⟨jND.app b0 a0 (fun x hx y hy => by have := (b9 x hx).1; have := (a9 y hy).2.1; omega), by omega, by omega, mm, by rw [(b4 _ a1).1]; exact az⟩, ?_, ⟨b5, b6⟩, ⟨fun k hk => (a7 k hk).tr (b7 k (by omega)), fun j hj => (b8 j (by omega)).trans (a8 j hj)⟩, ?_, ?_, ?_, ?_⟩
  · intro k hk
    have e := b4 k (by omega)
    rw [e.1, e.2]
    exact a4 k hk
  · intro x hx
    rcases List.mem_append.mp hx with hx | hx
    · obtain ⟨c1, c2, c3⟩ := b9 x hx
      exact ⟨by omega, c2, c3⟩
    · obtain ⟨c1, c2, c3⟩ := a9 x hx
      refine ⟨c1, by omega, c3.ext (b4 _ (by omega)) (b4 _ (by omega)) (b7 _ c2) (fun j hj => b8 j ?_)⟩
      have := a3 (x.1 + 1) (sN Fm) (by omega) (by omega) (Nat.le_refl _)
      omega
  · intro y hy
    rcases List.mem_append.mp hy with hy | hy
    · obtain ⟨c1, c2, c3, c4⟩ := b10 y hy
      exact ⟨by omega, c2, c3, c4⟩
    obtain ⟨c1, c2, c3, c4⟩ := a10 y hy
    have e := b4 y.1 c2
    refine ⟨c1, by omega, by rw [e.1]; exact c3, fun k l k1 k2 ek => ?_⟩
    rcases Nat.lt_or_ge k (sN Fm) with c | c
    · rw [(b4 k (by omega)).2] at ek
      exact (c4 k l k1 (by omega) ek).ext e.2
    · have q := (bZ.q k l c k2 ek).1
      rw [el] at q
      obtain ⟨ly, q1, q2⟩ := c4 (sN Fm) X.2.2.1 c2 (Nat.le_refl _) (by rw [a5])
      exact ⟨ly, e.2.trans q1, q2.tr q⟩
  · obtain ⟨⟨ca, wa⟩, za⟩ := aZ
    obtain ⟨⟨cb, wb⟩, zb⟩ := bZ
    rw [el] at cb wb zb
    unfold jZ
    dsimp only
    rw [fl]
    refine ⟨⟨?_, ?_⟩, fun k l k1 k2 ek => ?_⟩
    · rw [jsC_app, ca, ← jsC_app]; exact cb
    · rw [jsW_app, wa, ← jsW_app]; exact wb
    · rcases Nat.lt_or_ge k (sN Fm) with c | c
      · rw [(b4 k (by omega)).2] at ek
        have q := zb (sN Fm) X.2.2.1 (Nat.le_refl _) b1 (by rw [(b4 _ (Nat.le_refl _)).2, a5])
        have z := za k l k1 (by omega) ek
        exact ⟨z.1, z.2.1.tr q.2.1, z.2.2.tr (jLe.app _ _)⟩
      · have z := zb k l c k2 ek
        exact ⟨top.tr z.1, z.2.1, z.2.2.tr fz⟩
  · intro k k1 k2
    rcases Nat.lt_or_ge k (sN Fm) with c | c
    · rcases a11 k k1 c with q | ⟨x, q, q1⟩
      · exact .inl ((q.ext ⟨k1, c⟩ a3 (Nat.le_of_eq a6) b4 b1 (fun j _ q => b7 j q) b8).ctx (X := (X.1, X.2.1, l0.1 ++ l0.2, X.2.2.2)) (Y := (Y.1, Y.2.1, l0.1 ++ (l0.2 ++ l1.2), Y.2.2.2)) u (by dsimp only; rw [fl]; exact jLe.app _ _))
      · exact .inr ⟨x, List.mem_append_right _ q, q1⟩
    · rcases b11 k c k2 with q | ⟨x, q, q1⟩
      · exact .inl (q.ctx (X := (Y.1, Y.2.1, l1.1 ++ l1.2, Y.2.2.2)) (Y := (Y.1, Y.2.1, l0.1 ++ (l0.2 ++ l1.2), Y.2.2.2)) ⟨rfl, rfl, rfl⟩ (by dsimp only; rw [fl, el]; exact fz))
      · exact .inr ⟨x, List.mem_append_left _ q, q1⟩
theorem JX.tr {X Y : JCX} {Fc0 Fm0 Fc Fm Fc1 Fm1 : PF} {Gc0 Gm0 Gc Gm Gc1 Gm1 : PG} {mu0 : Nat → Nat} {A0 : JAN} {s s1 : SH} {hs hs1 : List JHO} {ls ls1 : List (Nat × Nat × SH)} (u : Y.1 = X.1 ∧ Y.2.1 = X.2.1 ∧ Y.2.2.2 = X.2.2.2) (h : JX X Fc0 Gc0 Fm0 Gm0 mu0 A0 Fc Gc Fm Gm s hs ls) (h1 : ∀ (mu : Nat → Nat) (A : JAN), A (sN Fm) = (s, some X.2.2.1) → mu (sN Fm) = wN Fc → JX Y Fc Gc Fm Gm mu A Fc1 Gc1 Fm1 Gm1 s1 hs1 ls1) : JX Y Fc0 Gc0 Fm0 Gm0 mu0 A0 Fc1 Gc1 Fm1 Gm1 s1 (hs1 ++ hs) (ls1 ++ ls) := JX.trl u h (fun mu A a b _ => h1 mu A a b)
/-- states that differ in nothing the code knows -/
theorem JX.st {X : JCX} {Fc0 Fm0 Fc Fm Fc1 Fm1 : PF} {Gc0 Gm0 Gc Gm Gc1 Gm1 : PG} {mu0 : Nat → Nat} {A0 : JAN} {s : SH} {hs : List JHO} {ls : List (Nat × Nat × SH)} (h : JX X Fc0 Gc0 Fm0 Gm0 mu0 A0 Fc Gc Fm Gm s hs ls) (e : Fm1 60 = Fm 60) (e1 : ∀ k, 56 ≤ k → k ≤ 59 → Gm1 k = Gm k) (e2 : Fc1 6 = Fc 6) (e3 : Gc1 5 = Gc 5) : JX X Fc0 Gc0 Fm0 Gm0 mu0 A0 Fc1 Gc1 Fm1 Gm1 s hs ls := by
  have en : sN Fm1 = sN Fm := by show (Fm1 60).toNatClampNeg = _; rw [e]
  have ew : wN Fc1 = wN Fc := by show (Fc1 6).toNatClampNeg = _; rw [e2]
  have hc : ∀ k, cEq Gm Gm1 k := fun k => ⟨by rw [e1 56 (by decide) (by decide)], by rw [e1 57 (by decide) (by decide)], by rw [e1 58 (by decide) (by decide)], by rw [e1 59 (by decide) (by decide)]⟩
  obtain ⟨mu, A, l0, e0, ⟨a0, a1, a2, a3, az⟩, a4, a5, ⟨a7, a8⟩, a9, a10, aZ, a11⟩ := h
  unfold JX
  rw [en, ew]
  refine ⟨mu, A, l0, e0, ⟨a0, a1, a2, a3, az⟩, a4, a5, ⟨fun k hk => (a7 k hk).tr (hc k), fun j hj => by rw [e3]; exact a8 j hj⟩, ?_, a10, aZ, ?_⟩
  · intro x hx
    obtain ⟨c1, c2, c3⟩ := a9 x hx
    exact ⟨c1, c2, c3.ext ⟨rfl, rfl⟩ ⟨rfl, rfl⟩ (hc _) (fun j _ => by rw [e3])⟩
  · intro k k1 k2
    rcases a11 k k1 k2 with q | q
    · exact .inl (q.ext ⟨k1, k2⟩ a3 (Nat.le_refl _) (fun _ _ => ⟨rfl, rfl⟩) (Nat.le_refl _) (fun j _ _ => hc j) (fun j _ => by rw [e3]))
    · exact .inr q
/-- the first state may differ likewise -/
theorem JX.st0 {X : JCX} {Fc0 Fm0 Fc Fm Fc1 Fm1 : PF} {Gc0 Gm0 Gc Gm Gc1 Gm1 : PG} {mu0 : Nat → Nat} {A0 : JAN} {s : SH} {hs : List JHO} {ls : List (Nat × Nat × SH)} (h : JX X Fc0 Gc0 Fm0 Gm0 mu0 A0 Fc Gc Fm Gm s hs ls) (e : Fm1 60 = Fm0 60) (e1 : ∀ k, 56 ≤ k → k ≤ 59 → Gm1 k = Gm0 k) (e2 : Fc1 6 = Fc0 6) (e3 : Gc1 5 = Gc0 5) : JX X Fc1 Gc1 Fm1 Gm1 mu0 A0 Fc Gc Fm Gm s hs ls := by
  have en : sN Fm1 = sN Fm0 := by show (Fm1 60).toNatClampNeg = _; rw [e]
  have ew : wN Fc1 = wN Fc0 := by show (Fc1 6).toNatClampNeg = _; rw [e2]
  unfold JX
  rw [en, ew, e3]
  obtain ⟨mu, A, l0, e0, a0, a4, a5, ⟨a7, a8⟩, a9, a10, aZ, a11⟩ := h
  refine ⟨mu, A, l0, e0, a0, a4, a5, ⟨fun k hk => ?_, a8⟩, a9, a10, aZ, a11⟩
  have q := a7 k hk
  exact ⟨by rw [e1 56 (by decide) (by decide)]; exact q.1, by rw [e1 57 (by decide) (by decide)]; exact q.2.1, by rw [e1 58 (by decide) (by decide)]; exact q.2.2.1, by rw [e1 59 (by decide) (by decide)]; exact q.2.2.2⟩
/-- known places may be forgotten -/
theorem JX.fo {X : JCX} {Fc0 Fm0 Fc Fm : PF} {Gc0 Gm0 Gc Gm : PG} {mu0 : Nat → Nat} {A0 : JAN} {s : SH} {hs : List JHO} {ls ls1 : List (Nat × Nat × SH)} (h : JX X Fc0 Gc0 Fm0 Gm0 mu0 A0 Fc Gc Fm Gm s hs ls) (k : ∀ y ∈ ls1, y ∈ ls) : JX X Fc0 Gc0 Fm0 Gm0 mu0 A0 Fc Gc Fm Gm s hs ls1 := by
  obtain ⟨mu, A, l0, e0, a0, a4, a5, a7, a9, a10, aZ, a11⟩ := h
  exact ⟨mu, A, l0, e0, a0, a4, a5, a7, a9, fun y hy => a10 y (k y hy), aZ, a11⟩
/-- where it stands now is a known place -/
theorem JX.la {X : JCX} {Fc0 Fm0 Fc Fm : PF} {Gc0 Gm0 Gc Gm : PG} {mu0 : Nat → Nat} {A0 : JAN} {s : SH} {hs : List JHO} {ls : List (Nat × Nat × SH)} (h : JX X Fc0 Gc0 Fm0 Gm0 mu0 A0 Fc Gc Fm Gm s hs ls) : JX X Fc0 Gc0 Fm0 Gm0 mu0 A0 Fc Gc Fm Gm s hs ((sN Fm, wN Fc, s) :: ls) := by
  obtain ⟨mu, A, l0, e0, a0, a4, a5, a7, a9, a10, aZ, a11⟩ := h
  refine ⟨mu, A, l0, e0, a0, a4, a5, a7, a9, fun y hy => ?_, aZ, a11⟩
  rcases List.mem_cons.mp hy with q | q
  · rw [q]
    refine ⟨a0.2.1, Nat.le_refl _, a5.2, fun k l k1 k2 ek => ?_⟩
    have e : k = sN Fm := Nat.le_antisymm k2 k1
    rw [e, a5.1] at ek
    exact ⟨_, a5.1, by rw [Option.some.inj ek]; exact jLe.rf⟩
  · exact a10 y q
/-- less may stand from now on -/
theorem JX.wk {X Y : JCX} {Fc0 Fm0 Fc Fm : PF} {Gc0 Gm0 Gc Gm : PG} {mu0 : Nat → Nat} {A0 : JAN} {s : SH} {hs : List JHO} (u : Y.1 = X.1 ∧ Y.2.1 = X.2.1 ∧ Y.2.2.2 = X.2.2.2) (lt : sN Fm0 < sN Fm) (hl : jLe Y.2.2.1 X.2.2.1) (hs1 : jsC Y.2.2.1 = jsC X.2.2.1 ∧ jsW Y.2.2.1 = jsW X.2.2.1) (hz : ∀ l0 : JLY, (A0 (sN Fm0)).2 = some l0 → jLe l0 Y.2.2.1) (h : JX X Fc0 Gc0 Fm0 Gm0 mu0 A0 Fc Gc Fm Gm s hs []) : JX Y Fc0 Gc0 Fm0 Gm0 mu0 A0 Fc Gc Fm Gm s hs [] := by
  obtain ⟨mu, A, l0, e0, a0, a4, ⟨a5, a6⟩, a7, a9, a10, aZ, a11⟩ := h
  have ne : ∀ k, k < sN Fm → (fun z => if z = sN Fm then (s, some Y.2.2.1) else A z : JAN) k = A k := fun k hk => if_neg (by omega)
  have eq : (fun z => if z = sN Fm then (s, some Y.2.2.1) else A z : JAN) (sN Fm) = (s, some Y.2.2.1) := if_pos rfl
  generalize (fun z => if z = sN Fm then (s, some Y.2.2.1) else A z : JAN) = A1 at ne eq
  have an : ∀ (j : Nat) (s' : SH) (l' : JLY), j ≤ sN Fm → jAn A j s' l' → jAn A1 j s' l' := by
    rintro j s' l' hj ⟨lx, q1, q2⟩
    by_cases c : j = sN Fm
    · subst c
      rw [a5] at q1
      have i1 : s = s' := congrArg (fun z : SH × Option JLY => z.1) q1
      have i2 : X.2.2.1 = lx := Option.some.inj (congrArg (fun z : SH × Option JLY => z.2) q1)
      exact ⟨_, by rw [eq, i1], hl.tr (by rw [i2]; exact q2)⟩
    · exact ⟨lx, by rw [ne j (by omega)]; exact q1, q2⟩
  refine ⟨mu, A1, l0, by rw [ne _ lt]; exact e0, a0, fun k hk => ?_, ⟨eq, a6⟩, a7, fun x hx => ?_, (fun y hy => nomatch hy), ⟨⟨aZ.1.1.trans hs1.1.symm, aZ.1.2.trans hs1.2.symm⟩, fun k l k1 k2 ek => ?_⟩, fun k k1 k2 => ?_⟩
  · rw [ne k (by omega)]
    exact a4 k hk
  · obtain ⟨c1, c2, d1, d2, d3, d4, ll, d5, d6⟩ := a9 x hx
    refine ⟨c1, c2, d1, d2, d3, d4, ll, by rw [ne _ c2]; exact d5, ?_⟩
    rw [ne _ c2]
    rcases d6 with d6 | ⟨s0, f1, f2, f3⟩
    · exact .inl d6
    · exact .inr ⟨s0, f1, an _ _ _ (by omega) f2, f3⟩
  · by_cases c : k = sN Fm
    · rw [c, eq] at ek
      rw [← Option.some.inj ek]
      have z := aZ.2 (sN Fm) X.2.2.1 (by omega) (Nat.le_refl _) (by rw [a5])
      exact ⟨hz l0.1 (by rw [← (a4 _ (Nat.le_refl _)).2]; exact e0), jSz.rf, hl.tr z.2.2⟩
    · rw [ne k (by omega)] at ek
      have z := aZ.2 k l k1 k2 ek
      exact ⟨z.1, z.2.1.tr ⟨Nat.le_of_eq hs1.1.symm, Nat.le_of_eq hs1.2.symm⟩, z.2.2⟩
  · rcases a11 k k1 k2 with q | q
    · exact .inl ((q.wk k2 a5 hl ne eq).ctx (X := (X.1, X.2.1, l0.1 ++ l0.2, X.2.2.2)) (Y := (Y.1, Y.2.1, l0.1 ++ l0.2, Y.2.2.2)) u jLe.rf)
    · exact .inr q
