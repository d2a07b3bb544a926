/-- the code below stands -/
def jCB (Fc : PF) (Gc : PG) (Fm : PF) (Gm : PG) (F1 : PF) (G1 : PG) (F2 : PF) (G2 : PG) : Prop := (sN Fm ≤ sN F2 ∧ wN Fc ≤ wN F1) ∧ (∀ k : Nat, k < sN Fm → cEq Gm G2 k) ∧ ∀ j : Nat, j < wN Fc → G1 5 j = Gc 5 j
/-- FORMALs in a frame -/
def jFl (ks : List Nat) : JLY := ks.map (fun k => if k = 0 then (0, 1) else (k + 2, 0))
theorem jFl_app (a b : List Nat) : jFl (a ++ b) = jFl a ++ jFl b := List.map_append
/-- the kind of a FORMAL that begins at token i -/
def jKt (k v : Nat → Int32) (i : Nat) : Nat := if v i = 1 then 2 else if k (i + 2) = 4 ∧ v (i + 2) = 24 then 1 else 0
/-- the kinds of the FORMALs that begin among the m tokens from z on -/
def jKs (k v : Nat → Int32) (z : Nat) : Nat → List Nat
  | 0 => []
  | m + 1 => jKs k v z m ++ (if m = 0 ∨ (k (z + m - 1) = 4 ∧ v (z + m - 1) = 28) then [jKt k v (z + m)] else [])
/-- the FORMALs from z on have these kinds -/
def jNL (k v : Nat → Int32) (z : Nat) (L : List Nat) : Prop := ∃ m : Nat, (∀ y : Nat, y < m → ¬ (k (z + y) = 4 ∧ v (z + y) = 23)) ∧ (k (z + m) = 4 ∧ v (z + m) = 23) ∧ L = jKs k v z m
theorem jNL.one {k v : Nat → Int32} {z : Nat} {L M : List Nat} (h : jNL k v z L) (h1 : jNL k v z M) : L = M := by
  obtain ⟨m, a1, a2, a3⟩ := h
  obtain ⟨l, b1, b2, b3⟩ := h1
  have e : m = l := by
    rcases Nat.lt_trichotomy m l with w | w | w
    · exact absurd a2 (b1 m w)
    · exact w
    · exact absurd b2 (a1 l w)
  rw [a3, b3, e]
/-- one FORMAL more -/
theorem jKs.step {k v : Nat → Int32} {z m : Nat} (hs : m = 0 ∨ (k (z + m - 1) = 4 ∧ v (z + m - 1) = 28)) : ∀ d : Nat, (∀ y : Nat, m ≤ y → y < m + d → ¬ (k (z + y) = 4 ∧ v (z + y) = 28)) → jKs k v z (m + (d + 1)) = jKs k v z m ++ [jKt k v (z + m)] := by
  intro d
  induction d with
  | zero =>
    intro _
    show jKs k v z m ++ (if m = 0 ∨ (k (z + m - 1) = 4 ∧ v (z + m - 1) = 28) then [jKt k v (z + m)] else []) = _
    rw [if_pos hs]
  | succ d ih =>
    intro h
    show jKs k v z (m + (d + 1)) ++ (if m + (d + 1) = 0 ∨ (k (z + (m + (d + 1)) - 1) = 4 ∧ v (z + (m + (d + 1)) - 1) = 28) then [jKt k v (z + (m + (d + 1)))] else []) = _
    rw [ih (fun y y1 y2 => h y y1 (by omega)), if_neg, List.append_nil]
    rintro (w | w)
    · omega
    · refine h (m + d) (by omega) (by omega) ?_
      rw [show z + (m + d) = z + (m + (d + 1)) - 1 by omega]
      exact w
/-- the code of function g, in both -/
def jFC (gl : JLY) (K : Nat → List Nat) (g B WB : Nat) (Gc Gm : PG) : Prop :=
  ∃ (a b : Nat) (mu : Nat → Nat) (A : JAN) (le : JLY), (Gm 30 g = nI a ∧ a < b ∧ b ≤ B) ∧ (Gc 80 g = nI (mu a) ∧ mu b ≤ WB ∧ jMo mu a b) ∧ (A a = ([], some (jFl (K g))) ∧ (A b).1 = [8]) ∧ (Gm 28 g = nI (4 + jsW le) ∧ Gm 29 g = nI (jsC le) ∧ jsW le ≤ 208) ∧ (∀ (k : Nat) (l : JLY), a ≤ k → k ≤ b → (A k).2 = some l → jLe l le) ∧ ∀ k : Nat, a ≤ k → k < b → jT (false, gl, le, K) Gm Gc mu A b k
/-- the code of a function's body, and its end -/
def jBd (X : JCX) (f : Nat) (F1 : PF) (G1 : PG) (F2 : PF) (G2 : PG) (F3 : PF) (G3 : PG) (F4 : PF) (G4 : PG) : Prop :=
  jCB F1 G1 F2 G2 F3 G3 F4 G4 ∧ (∀ y : Nat, y ≠ f → G4 29 y = G2 29 y ∧ G4 30 y = G2 30 y) ∧ G4 30 f = F2 60 ∧ ∃ (mu : Nat → Nat) (A : JAN) (le : JLY), sN F2 < sN F4 ∧ mu (sN F2) = wN F1 ∧ mu (sN F4) = wN F3 ∧ jMo mu (sN F2) (sN F4) ∧ (A (sN F2) = ([], some X.2.2.1) ∧ (A (sN F4)).1 = [8]) ∧ (G4 28 f = nI (4 + jsW le) ∧ G4 29 f = nI (jsC le) ∧ jsW le ≤ 208) ∧ (∀ (k : Nat) (l : JLY), sN F2 ≤ k → k ≤ sN F4 → (A k).2 = some l → jLe l le) ∧ ∀ k : Nat, sN F2 ≤ k → k < sN F4 → jT (false, X.2.1, le, X.2.2.2) G4 G3 mu A (sN F4) k
section JV0
variable {X Y : JCX} {p : Int32} {N i j g m : Nat} {d κ : Int} {s s1 : SH} {hs : List JHO} {ls : List (Nat × Nat × SH)} {Fc Fm F1 F2 F3 F4 : PF} {Gc Gm G1 G2 G3 G4 : PG}
theorem jCB.rf : jCB Fc Gc Fm Gm Fc Gc Fm Gm := ⟨⟨Nat.le_refl _, Nat.le_refl _⟩, fun _ _ => cEq.rf, fun _ _ => rfl⟩
theorem jCB.tr (h : jCB Fc Gc Fm Gm F1 G1 F2 G2) (k : jCB F1 G1 F2 G2 F3 G3 F4 G4) : jCB Fc Gc Fm Gm F3 G3 F4 G4 := by
  obtain ⟨⟨a1, a2⟩, a3, a4⟩ := h
  obtain ⟨⟨b1, b2⟩, b3, b4⟩ := k
  exact ⟨⟨by omega, by omega⟩, fun k hk => (a3 k hk).tr (b3 k (by omega)), fun j hj => (b4 j (by omega)).trans (a4 j hj)⟩
theorem jCB.of (e60 : F2 60 = Fm 60) (e6 : F1 6 = Fc 6) (g5 : G1 5 = Gc 5) (gm : ∀ k : Nat, 56 ≤ k → k ≤ 59 → G2 k = Gm k) : jCB Fc Gc Fm Gm F1 G1 F2 G2 := by
  have en : sN F2 = sN Fm := by show (F2 60).toNatClampNeg = _; rw [e60]
  have ew : wN F1 = wN Fc := by show (F1 6).toNatClampNeg = _; rw [e6]
  exact ⟨⟨Nat.le_of_eq en.symm, Nat.le_of_eq ew.symm⟩, fun k _ => ⟨by rw [gm 56 (by decide) (by decide)], by rw [gm 57 (by decide) (by decide)], by rw [gm 58 (by decide) (by decide)], by rw [gm 59 (by decide) (by decide)]⟩, fun j _ => by rw [g5]⟩
theorem JX.cb {mu : Nat → Nat} {A : JAN} (h : JX X Fc Gc Fm Gm mu A F1 G1 F2 G2 s hs ls) : jCB Fc Gc Fm Gm F1 G1 F2 G2 := by
  obtain ⟨mu, A, l0, -, ⟨-, a1, a2, -⟩, -, -, ⟨a7, a8⟩, -⟩ := h
  exact ⟨⟨a1, a2⟩, a7, a8⟩
theorem jAl.cb (h : jAl X p N i j d κ s s1 hs Fc Gc Fm Gm F1 G1 F2 G2) (hp : p = 1) : jCB Fc Gc Fm Gm F1 G1 F2 G2 := ((h.2.2.2.2.2.2.2 hp).2 (fun _ => wN Fc) (fun _ => (s, some X.2.2.1)) rfl rfl).cb
theorem jW.cb (h : jW X Y p N i j d κ s s1 hs ls Fc Gc Fm Gm F1 G1 F2 G2) (hp : p = 1) : jCB Fc Gc Fm Gm F1 G1 F2 G2 := (h.2.2.2.2.2.2.2 hp (fun _ => wN Fc) (fun _ => (s, some X.2.2.1)) rfl rfl).cb
theorem jAk.cb (h : jAk p N i j Fc Gc Fm Gm F1 G1 F2 G2) (hp : p = 1) : jCB Fc Gc Fm Gm F1 G1 F2 G2 := by
  obtain ⟨-, -, -, -, ⟨-, -, -, -, e60, -⟩, -, e⟩ := h
  obtain ⟨e6, -, e1, e2⟩ := e hp
  have en : sN F2 = sN Fm := by show (F2 60).toNatClampNeg = _; rw [e60]
  have ew : wN F1 = wN Fc := by show (F1 6).toNatClampNeg = _; rw [e6]
  exact ⟨⟨Nat.le_of_eq en.symm, Nat.le_of_eq ew.symm⟩, e1, e2⟩
theorem jT.gl {mu : Nat → Nat} {A : JAN} {B k : Nat} (u : Y.1 = X.1 ∧ (∃ m, Y.2.1 = X.2.1 ++ m) ∧ Y.2.2.2 = X.2.2.2) (ul : Y.2.2.1 = X.2.2.1) (h : jT X Gm Gc mu A B k) : jT Y Gm Gc mu A B k := by
  rcases h with h | ⟨ll, hl, h⟩
  · exact .inl h
  refine .inr ⟨ll, hl, ?_⟩
  rcases h with ⟨s1, n, h1, h2⟩ | h | ⟨s0, t, h1, h2, h3, h4, h5⟩ | ⟨h0, h⟩
  · exact .inl ⟨s1, n, jO.up (X := (X.1, X.2.1, ll, X.2.2.2)) (Y := (Y.1, Y.2.1, ll, Y.2.2.2)) ⟨u.1, u.2.1, ⟨[], (List.append_nil _).symm⟩, u.2.2⟩ h1, h2⟩
  · exact .inr (.inl (by rw [u.1]; exact h))
  · refine .inr (.inr (.inl ⟨s0, t, h1, h2, h3, h4, ?_⟩))
    unfold jCo at h5 ⊢
    rw [u.1]
    exact h5
  · refine .inr (.inr (.inr ⟨by rw [u.1]; exact h0, ?_⟩))
    unfold jT2 at h ⊢
    rw [u.2.2, ul]
    exact h
/-- the code of a function stands -/
theorem jFC.ext {gl ml : JLY} {K : Nat → List Nat} (h : jFC gl K g (sN Fm) (wN Fc) Gc Gm) (cb : jCB Fc Gc Fm Gm F1 G1 F2 G2) (e28 : G2 28 g = Gm 28 g) (e29 : G2 29 g = Gm 29 g) (e30 : G2 30 g = Gm 30 g) (e80 : G1 80 g = Gc 80 g) : jFC (gl ++ ml) K g (sN F2) (wN F1) G1 G2 := by
  obtain ⟨a, b, mu, A, le, ⟨a1, a2, a3⟩, ⟨a4, a5, a6⟩, a7, ⟨a8, a9, a10⟩, a11, a12⟩ := h
  obtain ⟨⟨c1, c2⟩, c3, c4⟩ := cb
  refine ⟨a, b, mu, A, le, ⟨by rw [e30]; exact a1, a2, by omega⟩, ⟨by rw [e80]; exact a4, by omega, a6⟩, a7, ⟨by rw [e28]; exact a8, by rw [e29]; exact a9, a10⟩, a11, fun k k1 k2 => ?_⟩
  exact jT.gl (X := (false, gl, le, K)) ⟨rfl, ⟨ml, rfl⟩, rfl⟩ rfl ((a12 k k1 k2).ext (C := wN Fc) ⟨k1, k2⟩ a6 a5 (fun _ _ => ⟨rfl, rfl⟩) (Nat.le_refl _) (fun j _ q => c3 j (by omega)) c4)
end JV0
