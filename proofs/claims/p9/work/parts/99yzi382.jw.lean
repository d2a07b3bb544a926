abbrev jXs : List Nat := [6, 9, 10, 11, 12, 13, 14, 21, 29, 30, 31, 41, 42, 43, 44, 46, 47, 50, 56, 57, 300]
abbrev jX0 : List Nat := [6, 9, 10, 11, 12, 13, 14, 21, 29, 30, 31, 42, 43, 44, 46, 47, 50, 56, 57, 300]
abbrev jYs : List Nat := [5, 20, 33, 34, 35, 36, 37, 38, 39, 40, 55]
abbrev jZs : List Nat := [14, 15, 42, 43, 44, 45, 47, 48, 49, 51, 52, 53, 54, 55, 60, 62, 63, 64, 65, 66, 70, 72]
abbrev jWs : List Nat := [16, 17, 18, 19, 20, 21, 22, 23, 56, 57, 58, 59, 67, 68, 69, 71]
abbrev jXd : List Nat := [6, 9, 10, 11, 12, 13, 14, 21, 30, 31, 43, 44, 46, 47, 56, 57, 300]
abbrev jZd : List Nat := [42, 43, 44, 45, 47, 48, 49, 54, 55, 60, 62, 63, 64, 65, 66, 70, 72]
abbrev jXv : List Nat := [6, 9, 10, 11, 12, 13, 14, 21, 29, 30, 31, 43, 44, 46, 47, 50, 56, 57, 300]
abbrev jZv : List Nat := [42, 43, 44, 45, 47, 48, 49, 51, 52, 53, 54, 55, 60, 62, 63, 64, 65, 66, 70, 72]
/-- a name that is told: a word ahead of it, a sign behind it -/
def jDc (k v : Nat → Int32) (n : Nat) : Prop := 1 ≤ n ∧ k (n - 1) = 2 ∧ (v (n - 1) = 0 ∨ v (n - 1) = 1 ∨ v (n - 1) = 2) ∧ k n = 1 ∧ k (n + 1) = 4
/-- what is told by now, and the functions, by their tokens -/
def jPl (N q nf t i : Nat) (k v : Nat → Int32) : Prop := q ≤ nf ∧ (∃ τ : Nat → Nat, (∀ j : Nat, j < t → jDc k v (τ j) ∧ τ j < i ∧ ¬ v (τ j + 1) = 22) ∧ ∀ a b : Nat, a < b → b < t → τ a < τ b) ∧ ∃ φ : Nat → Nat, (∀ f : Nat, f < nf → jDc k v (φ f) ∧ φ f < N ∧ v (φ f + 1) = 22) ∧ ∀ a b : Nat, a < b → b < nf → φ a < φ b
theorem TPF.mono {N : Nat} {k v p : Nat → Int32} (h : TPF N k v p) : ∀ (a b : Nat), a ≤ b → b ≤ N → (p a).toInt ≤ (p b).toInt := by
  intro a b
  induction b with
  | zero =>
    intro h1 _
    rw [show a = 0 by omega]
    exact Int.le_refl _
  | succ b ih =>
    intro h1 h2
    by_cases c : a = b + 1
    · rw [c]
      exact Int.le_refl _
    · have := ih (by omega) (by omega)
      have := (h b (by omega)).1
      omega
theorem jDc.four {N n : Nat} {k v p : Nat → Int32} (h : TPF N k v p) (d : jDc k v n) (hn : n < N) : (p (n - 1)).toInt + 4 ≤ (p n).toInt := by
  obtain ⟨d1, d2, d3, d4, d5⟩ := d
  have q := (h (n - 1) (by omega)).2 d2 (by rw [show n - 1 + 1 = n by omega]; exact d4)
  rw [show n - 1 + 1 = n by omega] at q
  have e : 3 ≤ tlen (k (n - 1)) (v (n - 1)) := by
    unfold tlen
    rw [d2, if_neg (by decide), if_pos rfl]
    rcases d3 with e | e | e <;> rw [e] <;> decide
  omega
theorem jDc.six {N m n : Nat} {k v p : Nat → Int32} (h : TPF N k v p) (t1 : ∀ i : Nat, i < N → 1 ≤ tlen (k i) (v i)) (d : jDc k v m) (e : jDc k v n) (mn : m < n) (hn : n < N) : (p m).toInt + 6 ≤ (p n).toInt := by
  have f := e.four h hn
  obtain ⟨d1, d2, d3, d4, d5⟩ := d
  obtain ⟨e1, e2, e3, e4, e5⟩ := e
  have n1 : n ≠ m + 1 := fun q => by rw [q, d5] at e4; exact absurd e4 (by decide)
  have n2 : n ≠ m + 2 := fun q => by
    rw [show n - 1 = m + 1 by omega, d5] at e2
    exact absurd e2 (by decide)
  have a1 := (h m (by omega)).1
  have a2 := (h (m + 1) (by omega)).1
  have a3 := t1 m (by omega)
  have a4 := t1 (m + 1) (by omega)
  have a5 := h.mono (m + 1 + 1) (n - 1) (by omega) (by omega)
  omega
theorem jPl.low {N nf t i : Nat} {k v p : Nat → Int32} (h : TPF N k v p) (t1 : ∀ i : Nat, i < N → 1 ≤ tlen (k i) (v i)) (p0 : 0 ≤ (p 0).toInt) {τ φ : Nat → Nat} (hi : i ≤ N) (a1 : ∀ j : Nat, j < t → jDc k v (τ j) ∧ τ j < i ∧ ¬ v (τ j + 1) = 22) (a2 : ∀ a b : Nat, a < b → b < t → τ a < τ b) (b1 : ∀ f : Nat, f < nf → jDc k v (φ f) ∧ φ f < N ∧ v (φ f + 1) = 22) (b2 : ∀ a b : Nat, a < b → b < nf → φ a < φ b) : ∀ (m t' q' l : Nat), t' + q' = m → t' ≤ t → q' ≤ nf → jDc k v l → l < N → (∀ j : Nat, j < t' → τ j < l) → (∀ f : Nat, f < q' → φ f < l) → 6 * (m : Int) + 4 ≤ (p l).toInt := by
  intro m
  induction m with
  | zero =>
    intro t' q' l _ _ _ d hl _ _
    have := d.four h hl
    have := h.mono 0 (l - 1) (by omega) (by omega)
    omega
  | succ m ih =>
    intro t' q' l e ht hq d hl ha hb
    have tau : 1 ≤ t' → (∀ f : Nat, f < q' → φ f < τ (t' - 1)) → 6 * ((m + 1 : Nat) : Int) + 4 ≤ (p l).toInt := by
      intro c cb
      obtain ⟨d1, d2, d3⟩ := a1 (t' - 1) (by omega)
      have g := ih (t' - 1) q' (τ (t' - 1)) (by omega) (by omega) hq d1 (by omega) (fun j hj => a2 j (t' - 1) hj (by omega)) cb
      have := jDc.six h t1 d1 d (ha (t' - 1) (by omega)) hl
      omega
    have phi : 1 ≤ q' → (∀ j : Nat, j < t' → τ j < φ (q' - 1)) → 6 * ((m + 1 : Nat) : Int) + 4 ≤ (p l).toInt := by
      intro c cb
      obtain ⟨d1, d2, d3⟩ := b1 (q' - 1) (by omega)
      have g := ih t' (q' - 1) (φ (q' - 1)) (by omega) ht (by omega) d1 (by omega) cb (fun j hj => b2 j (q' - 1) hj (by omega))
      have := jDc.six h t1 d1 d (hb (q' - 1) (by omega)) hl
      omega
    by_cases c : t' = 0
    · exact phi (by omega) (fun j hj => absurd hj (by omega))
    · by_cases c1 : q' = 0
      · exact tau (by omega) (fun j hj => absurd hj (by omega))
      · have x1 := a1 (t' - 1) (by omega)
        have x2 := b1 (q' - 1) (by omega)
        rcases Nat.lt_trichotomy (τ (t' - 1)) (φ (q' - 1)) with z | z | z
        · refine phi (by omega) (fun j hj => ?_)
          by_cases cj : j = t' - 1
          · rw [cj]
            exact z
          · have := a2 j (t' - 1) (by omega) (by omega)
            omega
        · rw [z] at x1
          exact absurd x2.2.2 x1.2.2
        · refine tau (by omega) (fun j hj => ?_)
          by_cases cj : j = q' - 1
          · rw [cj]
            exact z
          · have := b2 j (q' - 1) (by omega) (by omega)
            omega
theorem jPl.room {N q nf t i : Nat} {k v p : Nat → Int32} (P : jPl N q nf t i k v) (h : TPF N k v p) (t1 : ∀ i : Nat, i < N → 1 ≤ tlen (k i) (v i)) (p0 : 0 ≤ (p 0).toInt) (hi : i ≤ N) (pN : (p N).toInt ≤ 4000) : q + t ≤ 666 ∧ nf ≤ 666 := by
  obtain ⟨c0, ⟨τ, a1, a2⟩, φ, b1, b2⟩ := P
  have low := jPl.low (i := i) h t1 p0 hi a1 a2 b1 b2
  suffices q' : 6 * ((t + nf : Nat) : Int) ≤ 4001 by omega
  by_cases z : t + nf = 0
  · omega
  · have fin : ∀ (t' q' l : Nat), t' + q' + 1 = t + nf → t' ≤ t → q' ≤ nf → jDc k v l → l < N → (∀ j : Nat, j < t' → τ j < l) → (∀ f : Nat, f < q' → φ f < l) → 6 * ((t + nf : Nat) : Int) ≤ 4001 := by
      intro t' q' l e x1 x2 x3 x4 x5 x6
      have g := low (t' + q') t' q' l rfl x1 x2 x3 x4 x5 x6
      have := (h l x4).1
      have := t1 l x4
      have := h.mono (l + 1) N (by omega) (Nat.le_refl _)
      omega
    by_cases c : t = 0
    · obtain ⟨d1, d2, -⟩ := b1 (nf - 1) (by omega)
      exact fin 0 (nf - 1) (φ (nf - 1)) (by omega) (by omega) (by omega) d1 d2 (fun j hj => absurd hj (by omega)) (fun j hj => b2 j (nf - 1) hj (by omega))
    · by_cases c1 : nf = 0
      · obtain ⟨d1, d2, -⟩ := a1 (t - 1) (by omega)
        exact fin (t - 1) 0 (τ (t - 1)) (by omega) (by omega) (by omega) d1 (by omega) (fun j hj => a2 j (t - 1) hj (by omega)) (fun j hj => absurd hj (by omega))
      · have x1 := a1 (t - 1) (by omega)
        have x2 := b1 (nf - 1) (by omega)
        rcases Nat.lt_trichotomy (τ (t - 1)) (φ (nf - 1)) with z | z | z
        · refine fin t (nf - 1) (φ (nf - 1)) (by omega) (by omega) (by omega) x2.1 x2.2.1 (fun j hj => ?_) (fun j hj => b2 j (nf - 1) hj (by omega))
          by_cases cj : j = t - 1
          · rw [cj]
            exact z
          · have := a2 j (t - 1) (by omega) (by omega)
            omega
        · rw [z] at x1
          exact absurd x2.2.2 x1.2.2
        · refine fin (t - 1) nf (τ (t - 1)) (by omega) (by omega) (by omega) x1.1 (by omega) (fun j hj => a2 j (t - 1) hj (by omega)) (fun j hj => ?_)
          by_cases cj : j = nf - 1
          · rw [cj]
            exact z
          · have := b2 j (nf - 1) (by omega) (by omega)
            omega
theorem jPl.le {N q nf t i j : Nat} {k v : Nat → Int32} (P : jPl N q nf t i k v) (h : i ≤ j) : jPl N q nf t j k v := by
  obtain ⟨c0, ⟨τ, a1, a2⟩, c1⟩ := P
  exact ⟨c0, ⟨τ, fun x hx => ⟨(a1 x hx).1, Nat.lt_of_lt_of_le (a1 x hx).2.1 h, (a1 x hx).2.2⟩, a2⟩, c1⟩
theorem jPl.cut {N q nf t t' i : Nat} {k v : Nat → Int32} (P : jPl N q nf t i k v) (h : t' ≤ t) : jPl N q nf t' i k v := by
  obtain ⟨c0, ⟨τ, a1, a2⟩, c1⟩ := P
  exact ⟨c0, ⟨τ, fun x hx => a1 x (by omega), fun a b hab hb => a2 a b hab (by omega)⟩, c1⟩
/-- one more is told -/
theorem jPl.new {N q nf t i n j : Nat} {k v : Nat → Int32} (P : jPl N q nf t i k v) (hi : i ≤ n) (hj : n < j) (d : jDc k v n) (e : ¬ v (n + 1) = 22) : jPl N q nf (t + 1) j k v := by
  obtain ⟨c0, ⟨τ, a1, a2⟩, c1⟩ := P
  refine ⟨c0, ⟨fun x => if x < t then τ x else n, fun x hx => ?_, fun a b hab hb => ?_⟩, c1⟩
  · dsimp only
    by_cases c : x < t
    · rw [if_pos c]
      obtain ⟨y1, y2, y3⟩ := a1 x c
      exact ⟨y1, by omega, y3⟩
    · rw [if_neg c]
      exact ⟨d, hj, e⟩
  · dsimp only
    have ca : a < t := by omega
    rw [if_pos ca]
    by_cases c : b < t
    · rw [if_pos c]
      exact a2 a b hab c
    · rw [if_neg c]
      have := (a1 a ca).2.1
      omega
/-- what was told stands; what is new is told here or further in -/
def jPe (Fc : PF) (Gc : PG) (Fm : PF) (Gm : PG) (F1 : PF) (G1 : PG) (F2 : PF) (G2 : PG) : Prop :=
  ((Fm 14).toInt ≤ (F2 14).toInt ∧ ∀ (k a : Nat), (k : Int) < (Fm 14).toInt → 16 ≤ a → a ≤ 23 → G2 a k = Gm a k) ∧ ((Fc 41).toInt ≤ (F1 41).toInt ∧ ∀ (k a : Nat), (k : Int) < (Fc 41).toInt → 33 ≤ a → a ≤ 38 → G1 a k = Gc a k) ∧ (Fm 15).toInt ≤ (F2 15).toInt ∧ ∀ k : Nat, (Fm 14).toInt ≤ (k : Int) → (k : Int) < (F2 14).toInt → (Fm 15).toInt ≤ (G2 19 k).toInt
theorem KX.rg {x y : List Nat} {F F1 : PF} {G G1 : PG} (k : KX x y F G F1 G1) {l u : Nat} (e : y.any (fun a => decide (l ≤ a) && decide (a ≤ u)) = false) (a : Nat) (h1 : l ≤ a) (h2 : a ≤ u) : G1 a = G a := by
  refine k.2 a ?_
  cases c : y.contains a with
  | false => rfl
  | true =>
    have m : a ∈ y := by simpa using c
    have q := List.any_eq_false.mp e a m
    simp [h1, h2] at q
section JPE0
variable {Fc Fm F1 F2 F3 F4 : PF} {Gc Gm G1 G2 G3 G4 : PG}
/-- frames keep what is told -/
theorem jPe.of1 {x y z w : List Nat} (kc : KX x y Fc Gc F1 G1) (km : KX z w Fm Gm F2 G2) (h : (x.contains 41 || y.any (fun a => decide (33 ≤ a) && decide (a ≤ 38)) || z.contains 14 || w.any (fun a => decide (16 ≤ a) && decide (a ≤ 23))) = false) (e : (Fm 15).toInt ≤ (F2 15).toInt) : jPe Fc Gc Fm Gm F1 G1 F2 G2 := by
  simp only [Bool.or_eq_false_iff] at h
  obtain ⟨⟨⟨h1, h2⟩, h3⟩, h4⟩ := h
  have e1 := km.1 14 h3
  have e2 := kc.1 41 h1
  refine ⟨⟨by rw [e1]; exact Int.le_refl _, fun k a _ l u => congrFun (km.rg h4 a l u) k⟩, ⟨by rw [e2]; exact Int.le_refl _, fun k a _ l u => congrFun (kc.rg h2 a l u) k⟩, e, fun k k1 k2 => ?_⟩
  rw [e1] at k2
  omega
theorem jPe.of {x y z w : List Nat} (kc : KX x y Fc Gc F1 G1) (km : KX z w Fm Gm F2 G2) (h : (x.contains 41 || y.any (fun a => decide (33 ≤ a) && decide (a ≤ 38)) || z.contains 14 || w.any (fun a => decide (16 ≤ a) && decide (a ≤ 23))) = false) (e : z.contains 15 = false) : jPe Fc Gc Fm Gm F1 G1 F2 G2 := jPe.of1 kc km h (by rw [km.1 15 e]; exact Int.le_refl _)
theorem jPe.rf : jPe Fc Gc Fm Gm Fc Gc Fm Gm := jPe.of (x := []) (y := []) (z := []) (w := []) KX.rf KX.rf rfl rfl
theorem jPe.tr (h : jPe Fc Gc Fm Gm F1 G1 F2 G2) (k : jPe F1 G1 F2 G2 F3 G3 F4 G4) : jPe Fc Gc Fm Gm F3 G3 F4 G4 := by
  obtain ⟨⟨a1, a2⟩, ⟨a3, a4⟩, a5, a6⟩ := h
  obtain ⟨⟨b1, b2⟩, ⟨b3, b4⟩, b5, b6⟩ := k
  refine ⟨⟨by omega, fun k a l u v => (b2 k a (by omega) u v).trans (a2 k a l u v)⟩, ⟨by omega, fun k a l u v => (b4 k a (by omega) u v).trans (a4 k a l u v)⟩, by omega, fun k k1 k2 => ?_⟩
  by_cases c : (k : Int) < (F2 14).toInt
  · rw [b2 k 19 c (by decide) (by decide)]
    exact a6 k k1 c
  · have := b6 k (by omega) k2
    omega
end JPE0
/-- what stands in a function -/
def jL (X : JCX) (p : Int32) (N q nf t i : Nat) (Fc : PF) (Gc : PG) (Fm : PF) (Gm : PG) : Prop :=
  (X.1 = false ∧ Fm 54 = 0 ∧ jXB Fc) ∧ (Fc 29 = Fm 51 ∧ 0 ≤ (Fm 51).toInt ∧ (Fm 51).toInt ≤ i) ∧ (Fc 42 = Fm 15 ∧ 1 ≤ (Fm 15).toInt ∧ (Fm 15).toInt ≤ 4 * (i : Int) + 1) ∧
  (p = 0 → (0 ≤ (Fc 41).toInt ∧ (Fc 41).toInt ≤ 700) ∧ ∀ j : Nat, (j : Int) < (Fc 41).toInt → Gc 34 j = 0) ∧
  (p = 1 → ((Gm 33 (Fm 50).toNatClampNeg = 0 ∧ Fc 48 = 1) ∨ (¬ Gm 33 (Fm 50).toNatClampNeg = 0 ∧ Fc 48 = 0)) ∧ ((Fm 53).toInt = jsC X.2.2.1 ∧ Fc 50 = Fm 52 ∧ (Fc 49).toInt + (Fc 50).toInt = jsW X.2.2.1 ∧ 0 ≤ (Fc 49).toInt ∧ (Fc 49).toInt ≤ 8 ∧ 0 ≤ (Fm 52).toInt ∧ (Fm 52).toInt ≤ 200) ∧ jPl N q nf t i (Gm 4) (Gm 5))
/-- what a method of statements begins with -/
def jV (X : JCX) (p : Int32) (N K n q nf t i : Nat) (Fc : PF) (Gc : PG) (Fm : PF) (Gm : PG) : Prop := jIn X p N K n q nf t i Fc Gc Fm Gm ∧ jL X p N q nf t i Fc Gc Fm Gm
section JW2
variable {X Y Z : JCX} {p : Int32} {N K n q nf t i j l : Nat} {d d1 κ κ1 : Int} {s s1 s2 : SH} {hs hs1 : List JHO} {ls ls1 : List (Nat × Nat × SH)} {Fc Fm F1 F2 F3 F4 : PF} {Gc Gm G1 G2 G3 G4 : PG}
theorem jS.keepV (h : jS X p N K n q nf t Fc Gc Fm Gm) (kc : KX jXv jYk Fc Gc F1 G1) (km : KX jZv jWk Fm Gm F2 G2) (e46 : F1 46 = Fc 46) (e54 : F2 54 = Fm 54) : jS X p N K n q nf t F1 G1 F2 G2 := by
  obtain ⟨h1, h2, h3, h4, h5, h6⟩ := h
  refine ⟨h1.keep (kc.1 93 rfl) (kc.2 90 rfl) (kc.2 91 rfl) (kc.2 92 rfl) (km.1 7 rfl) (km.1 8 rfl) (km.2 4 rfl) (km.2 5 rfl) (km.2 6 rfl), h2, ?_, ?_, ?_, ?_⟩
  · rw [km.1 46 rfl, kc.1 45 rfl, kc.1 7 rfl]
    exact h3
  · rw [e54, e46]
    exact h4
  · rw [e54]
    exact h5
  · unfold jSA jSE jSU jSL jFT
    rw [e54, km.1 24 rfl, km.1 14 rfl, km.1 15 rfl, kc.1 41 rfl, kc.1 42 rfl, kc.1 74 rfl, km.2 25 rfl, km.2 26 rfl, kc.2 35 rfl, kc.2 34 rfl, kc.2 37 rfl, kc.2 33 rfl, kc.2 36 rfl, km.2 16 rfl, km.2 19 rfl, km.2 18 rfl, kc.2 38 rfl, km.2 17 rfl, km.2 20 rfl, km.2 21 rfl, km.2 22 rfl, km.2 23 rfl, kc.2 40 rfl, kc.2 39 rfl, km.2 33 rfl, kc.2 82 rfl, kc.2 77 rfl, kc.2 78 rfl, km.2 27 rfl, kc.2 83 rfl, km.2 31 rfl, km.2 34 rfl, kc.2 84 rfl]
    exact h6
theorem jL.mv (h : jL X p N q nf t i Fc Gc Fm Gm) (kc : KX jXd jYk Fc Gc F1 G1) (km : KX jZd jWk Fm Gm F2 G2) (e54 : F2 54 = 0) (xb : jXB F1) (hij : i ≤ j) : jL X p N q nf t j F1 G1 F2 G2 := by
  obtain ⟨⟨a1, a2, a3⟩, ⟨b1, b2, b3⟩, ⟨c1, c2, c3⟩, d1, d2⟩ := h
  unfold jL
  rw [kc.1 29 rfl, km.1 51 rfl, kc.1 42 rfl, km.1 15 rfl, kc.1 41 rfl, kc.2 34 rfl, km.2 33 rfl, km.1 50 rfl, kc.1 48 rfl, km.1 53 rfl, kc.1 50 rfl, km.1 52 rfl, kc.1 49 rfl, km.2 4 rfl, km.2 5 rfl]
  refine ⟨⟨a1, e54, xb⟩, ⟨b1, b2, by omega⟩, ⟨c1, c2, by omega⟩, d1, fun z => ?_⟩
  obtain ⟨y1, y2, y3⟩ := d2 z
  exact ⟨y1, y2, y3.le hij⟩
/-- to a later state where nothing more is told -/
theorem jV.mv (V : jV X p N K n q nf t i Fc Gc Fm Gm) (kc : KX jXd jYk Fc Gc F1 G1) (km : KX jZd jWk Fm Gm F2 G2) (e46 : F1 46 = 0) (e54 : F2 54 = 0) (xb : jXB F1) (D : jD N j F1 G1 F2 G2) (rm : (F1 6).toInt ≤ 2 * (Gm 6 j).toInt + 100) (hij : i ≤ j) : jV X p N K n q nf t j F1 G1 F2 G2 := by
  obtain ⟨⟨S, D0, R⟩, L⟩ := V
  have z54 := L.1.2.1
  refine ⟨⟨S.keepV (KX.tr KX.rf kc rfl rfl) (KX.tr KX.rf km rfl rfl) ?_ ?_, D, ?_⟩, L.mv kc km e54 xb hij⟩
  · rw [e46, S.2.2.2.1, z54]
  · rw [e54, z54]
  · rw [km.2 6 rfl]
    exact rm
theorem jV.x0 (V : jV X p N K n q nf t i Fc Gc Fm Gm) : Fc 46 = 0 := by
  rw [V.1.1.2.2.2.1, V.2.1.2.1]
theorem jV.al (V : jV X p N K n q nf t i Fc Gc Fm Gm) (h : jAl X p N i j d κ s s1 hs Fc Gc Fm Gm F1 G1 F2 G2) (hk : κ ≤ 0) : jV X p N K n q nf t j F1 G1 F2 G2 := by
  have k1 := h.1.1
  have k2 := h.1.2
  refine V.mv (KX.tr KX.rf k1 rfl rfl) (KX.tr KX.rf k2 rfl rfl) ?_ ?_ (V.2.1.2.2.kx k1 rfl) h.2.1 ?_ h.2.2.1.1
  · rw [k1.1 46 rfl]
    exact V.x0
  · rw [k2.1 54 rfl]
    exact V.2.1.2.1
  · have := h.2.2.2.2.2.2.1
    have := V.1.2.2
    omega
theorem jV.ak (V : jV X p N K n q nf t i Fc Gc Fm Gm) (h : jAk p N i j Fc Gc Fm Gm F1 G1 F2 G2) : jV X p N K n q nf t j F1 G1 F2 G2 := by
  obtain ⟨⟨k1, k2⟩, D, ⟨h1, h2⟩, h3, ⟨h4, h5, h6, h7, h8, h9⟩, h10, h11⟩ := h
  refine V.mv (KX.tr KX.rf k1 rfl rfl) (KX.tr KX.rf k2 rfl rfl) h4 h5 h9 D ?_ h1
  have := V.1.2.2
  omega
/-- nothing of code is made -/
theorem JX.k0 {mu : Nat → Nat} {A : JAN} (hA : A (sN Fm) = (s, some X.2.2.1)) (hM : mu (sN Fm) = wN Fc) (e60 : F2 60 = Fm 60) (e6 : F1 6 = Fc 6) (c1 : ∀ k : Nat, k < sN Fm → cEq Gm G2 k) (c2 : ∀ l : Nat, l < wN Fc → G1 5 l = Gc 5 l) : JX X Fc Gc Fm Gm mu A F1 G1 F2 G2 s [] [] := by
  have en : sN F2 = sN Fm := by show (F2 60).toNatClampNeg = _; rw [e60]
  have ew : wN F1 = wN Fc := by show (F1 6).toNatClampNeg = _; rw [e6]
  unfold JX
  rw [en, ew]
  refine ⟨mu, A, (X.2.2.1, []), by rw [hA], ⟨List.nodup_nil, Nat.le_refl _, Nat.le_refl _, fun a b x y z => ?_, hM⟩, fun _ _ => ⟨rfl, rfl⟩, ⟨hA, hM⟩, ⟨c1, c2⟩, (fun x hx => nomatch hx), (fun x hx => nomatch hx), jZ.nil (fun k l k1 k2 el => ?_), fun k h1 h2 => absurd h2 (Nat.not_lt.mpr h1)⟩
  · have e : a = b := by omega
    rw [e]
    exact Nat.le_refl _
  · have ek : k = sN Fm := Nat.le_antisymm k2 k1
    rw [ek] at el
    rw [hA] at el
    exact (Option.some.inj el).symm
def jUq (X Y : JCX) : Prop := jUp X Y ∧ Y.2.1 = X.2.1
theorem jUq.rf : jUq X X := ⟨jUp.rf, rfl⟩
theorem jUq.r3 (h : jUq X Y) : Y.1 = X.1 ∧ Y.2.1 = X.2.1 ∧ Y.2.2.2 = X.2.2.2 := ⟨h.1.1, h.2, h.1.2.2.2⟩
theorem jUq.tr (h : jUq X Y) (k : jUq Y Z) : jUq X Z := ⟨h.1.tr k.1, k.2.trans h.2⟩
/-- from one state to another by statements -/
def jW (X Y : JCX) (p : Int32) (N i j : Nat) (d κ : Int) (s s1 : SH) (hs : List JHO) (ls : List (Nat × Nat × SH)) (Fc : PF) (Gc : PG) (Fm : PF) (Gm : PG) (F1 : PF) (G1 : PG) (F2 : PF) (G2 : PG) : Prop :=
  jUq X Y ∧ (KX jXs jYs Fc Gc F1 G1 ∧ KX jZs jWs Fm Gm F2 G2) ∧ (i ≤ j ∧ (Gm 6 i).toInt ≤ (Gm 6 j).toInt) ∧ (F1 10).toInt = (Fc 10).toInt + d ∧ (F1 6).toInt + 2 * (Gm 6 i).toInt ≤ (Fc 6).toInt + 2 * (Gm 6 j).toInt + κ ∧ (p = 0 → KX jX0 jYk Fc Gc F1 G1) ∧ (p = 1 → jPe Fc Gc Fm Gm F1 G1 F2 G2) ∧ (p = 1 → ∀ (mu : Nat → Nat) (A : JAN), A (sN Fm) = (s, some X.2.2.1) → mu (sN Fm) = wN Fc → JX Y Fc Gc Fm Gm mu A F1 G1 F2 G2 s1 hs ls)
theorem jW.rf : jW X X p N i i 0 0 s s [] [] Fc Gc Fm Gm Fc Gc Fm Gm := ⟨jUq.rf, ⟨KX.rf, KX.rf⟩, ⟨Nat.le_refl _, Int.le_refl _⟩, by omega, by omega, fun _ => KX.rf, fun _ => jPe.rf, fun _ mu A h1 h2 => JX.rf h1 h2⟩
theorem jW.tr (h : jW X Y p N i j d κ s s1 hs ls Fc Gc Fm Gm F1 G1 F2 G2) (k : jW Y Z p N j l d1 κ1 s1 s2 hs1 ls1 F1 G1 F2 G2 F3 G3 F4 G4) : jW X Z p N i l (d + d1) (κ + κ1) s s2 (hs1 ++ hs) (ls1 ++ ls) Fc Gc Fm Gm F3 G3 F4 G4 := by
  obtain ⟨a0, ⟨a1, a2⟩, ⟨a4, a4'⟩, a5, a6, a7, pa, a8⟩ := h
  obtain ⟨b0, ⟨b1, b2⟩, ⟨b4, b4'⟩, b5, b6, b7, pb, b8⟩ := k
  have e6 : G2 6 = Gm 6 := a2.2 6 rfl
  rw [e6] at b4' b6
  exact ⟨a0.tr b0, ⟨KX.tr a1 b1 rfl rfl, KX.tr a2 b2 rfl rfl⟩, ⟨by omega, by omega⟩, by omega, by omega, fun z => KX.tr (a7 z) (b7 z) rfl rfl, fun z => (pa z).tr (pb z), fun z mu A h1 h2 => (a8 z mu A h1 h2).tr b0.r3 (fun mu1 A1 k1 k2 => b8 z mu1 A1 k1 k2)⟩
theorem jW.al (h : jAl X p N i j d κ s s1 hs Fc Gc Fm Gm F1 G1 F2 G2) : jW X X p N i j d κ s s1 hs [] Fc Gc Fm Gm F1 G1 F2 G2 := by
  obtain ⟨⟨a1, a2⟩, a3, a4, a5, a6, a7, a8, a9⟩ := h
  exact ⟨jUq.rf, ⟨KX.tr KX.rf a1 rfl rfl, KX.tr KX.rf a2 rfl rfl⟩, a4, a5, a8, fun _ => KX.tr KX.rf a1 rfl rfl, fun _ => jPe.of a1 a2 rfl rfl, fun z => (a9 z).2⟩
theorem jW.ak (h : jAk p N i j Fc Gc Fm Gm F1 G1 F2 G2) : jW X X p N i j 0 0 s s [] [] Fc Gc Fm Gm F1 G1 F2 G2 := by
  obtain ⟨⟨k1, k2⟩, D, h2, h3, ⟨h4, h5, h6, h7, h8, h9⟩, h10, h11⟩ := h
  exact ⟨jUq.rf, ⟨KX.tr KX.rf k1 rfl rfl, KX.tr KX.rf k2 rfl rfl⟩, h2, by omega, by omega, fun _ => KX.tr KX.rf k1 rfl rfl, fun _ => jPe.of k1 k2 rfl rfl, fun z mu A hA hM => JX.k0 hA hM h8 (h11 z).1 (h11 z).2.2.1 (h11 z).2.2.2⟩
theorem jW.la (h : jW X Y p N i j d κ s s1 hs ls Fc Gc Fm Gm F1 G1 F2 G2) : jW X Y p N i j d κ s s1 hs ((sN F2, wN F1, s1) :: ls) Fc Gc Fm Gm F1 G1 F2 G2 := by
  obtain ⟨a0, a1, a4, a5, a6, a7, pe, a8⟩ := h
  exact ⟨a0, a1, a4, a5, a6, a7, pe, fun z mu A h1 h2 => (a8 z mu A h1 h2).la⟩
theorem jW.fo (h : jW X Y p N i j d κ s s1 hs ls Fc Gc Fm Gm F1 G1 F2 G2) : jW X Y p N i j d κ s s1 hs [] Fc Gc Fm Gm F1 G1 F2 G2 := by
  obtain ⟨a0, a1, a4, a5, a6, a7, pe, a8⟩ := h
  exact ⟨a0, a1, a4, a5, a6, a7, pe, fun z mu A h1 h2 => (a8 z mu A h1 h2).fo (fun y hy => nomatch hy)⟩
theorem jW.pm (h : jW X Y p N i j d κ s s1 hs ls Fc Gc Fm Gm F1 G1 F2 G2) (e : hs.Perm hs1) : jW X Y p N i j d κ s s1 hs1 ls Fc Gc Fm Gm F1 G1 F2 G2 := by
  obtain ⟨a0, a1, a4, a5, a6, a7, pe, a8⟩ := h
  exact ⟨a0, a1, a4, a5, a6, a7, pe, fun z mu A h1 h2 => (a8 z mu A h1 h2).pm e⟩
theorem jW.ca (h : jW X Y p N i j d κ s s1 hs ls Fc Gc Fm Gm F1 G1 F2 G2) (e : d = d1) (k : κ ≤ κ1) : jW X Y p N i j d1 κ1 s s1 hs ls Fc Gc Fm Gm F1 G1 F2 G2 := by
  obtain ⟨a0, a1, a4, a5, a6, a7, a8⟩ := h
  exact ⟨a0, a1, a4, by omega, by omega, a7, a8⟩
/-- states that differ in nothing the code knows -/
theorem jW.st (h : jW X Y p N i j d κ s s1 hs ls Fc Gc Fm Gm F1 G1 F2 G2) (kc : KX jX0 jYk F1 G1 F3 G3) (km : KX jZs jWs F2 G2 F4 G4) (e10 : F3 10 = F1 10) (e6 : F3 6 = F1 6) (e5 : G3 5 = G1 5) (e60 : F4 60 = F2 60) (e56 : ∀ k : Nat, 56 ≤ k → k ≤ 59 → G4 k = G2 k) (pe1 : p = 1 → jPe F1 G1 F2 G2 F3 G3 F4 G4) : jW X Y p N i j d κ s s1 hs ls Fc Gc Fm Gm F3 G3 F4 G4 := by
  obtain ⟨a0, ⟨a1, a2⟩, a4, a5, a6, a7, pe, a8⟩ := h
  exact ⟨a0, ⟨KX.tr a1 kc rfl rfl, KX.tr a2 km rfl rfl⟩, a4, by rw [e10]; exact a5, by rw [e6]; exact a6, fun z => KX.tr (a7 z) kc rfl rfl, fun z => (pe z).tr (pe1 z), fun z mu A h1 h2 => (a8 z mu A h1 h2).st e60 e56 e6 e5⟩
/-- room for words that come now -/
theorem jW.room {m : Int} (V : jV X p N K n q nf t i Fc Gc Fm Gm) (h : jW X Y p N i j d κ s s1 hs ls Fc Gc Fm Gm F1 G1 F2 G2) (D : jD N j F1 G1 F2 G2) (hm : κ + m ≤ 290) : jRm m F1 := by
  obtain ⟨a0, ⟨a1, a2⟩, a4, a5, a6, a7, a8⟩ := h
  have S := V.1.1
  have e7 : F1 7 = Fc 7 := a1.1 7 rfl
  have e6 : G2 6 = Gm 6 := a2.2 6 rfl
  have T := S.1.keep (a1.1 93 rfl) (a1.2 90 rfl) (a1.2 91 rfl) (a1.2 92 rfl) (a2.1 7 rfl) (a2.1 8 rfl) (a2.2 4 rfl) (a2.2 5 rfl) (a2.2 6 rfl)
  have pl := (D.1.place T).2.1
  have pq := (D.1.place T).2.2
  have := V.1.2.2
  rw [pq, e6] at pl
  rcases S.2.1 with z | z
  · exact .inl (by rw [e7, S.2.2.1.2.2, z])
  · exact .inr ⟨by rw [e7, S.2.2.1.2.2, z], D.2.2.2.1, by omega⟩
theorem jW.cap (V : jV X p N K n q nf t i Fc Gc Fm Gm) (h : jW X Y p N i j d κ s s1 hs ls Fc Gc Fm Gm F1 G1 F2 G2) (D : jD N j F1 G1 F2 G2) (hm : κ ≤ 290) : (F1 6).toInt ≤ 8400 := by
  obtain ⟨a0, ⟨a1, a2⟩, a4, a5, a6, a7, a8⟩ := h
  have S := V.1.1
  have e6 : G2 6 = Gm 6 := a2.2 6 rfl
  have T := S.1.keep (a1.1 93 rfl) (a1.2 90 rfl) (a1.2 91 rfl) (a1.2 92 rfl) (a2.1 7 rfl) (a2.1 8 rfl) (a2.2 4 rfl) (a2.2 5 rfl) (a2.2 6 rfl)
  have pl := (D.1.place T).2.1
  have pq := (D.1.place T).2.2
  have := V.1.2.2
  rw [pq, e6] at pl
  omega
end JW2
