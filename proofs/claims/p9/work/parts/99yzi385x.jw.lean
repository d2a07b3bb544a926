section JW5X
variable {fu : Nat} {X Y Z : JCX} {p : Int32} {N K n q nf t t1 i j : Nat} {d κ : Int} {s s0 s1 : SH} {hs : List JHO} {Fc Fm F1 F2 F3 F4 : PF} {Gc Gm G1 G2 G3 G4 : PG}
/-- what a scope told is told no more -/
def jCol (X Y Z : JCX) : Prop := (Z = Y ∧ Y.2.2.1 = X.2.2.1) ∨ ∃ m : JLY, m ≠ [] ∧ Y.2.2.1 = X.2.2.1 ++ m ∧ Z = (Y.1, Y.2.1, X.2.2.1 ++ [jDd m], Y.2.2.2)
theorem jCol.ex (u : jUq X Y) : ∃ Z : JCX, jCol X Y Z := by
  obtain ⟨⟨-, -, ⟨m, e⟩, -⟩, -⟩ := u
  by_cases c : m = []
  · exact ⟨Y, .inl ⟨rfl, by rw [e, c, List.append_nil]⟩⟩
  · exact ⟨_, .inr ⟨m, c, e, rfl⟩⟩
theorem jCol.le (c : jCol X Y Z) : jLe Z.2.2.1 X.2.2.1 := by
  rcases c with ⟨e1, e⟩ | ⟨m, -, -, e1⟩
  · rw [e1, e]
    exact jLe.rf
  · rw [e1]
    exact jLe.dd _ _
theorem jCol.r3 (c : jCol X Y Z) : Z.1 = Y.1 ∧ Z.2.1 = Y.2.1 ∧ Z.2.2.2 = Y.2.2.2 := by
  rcases c with ⟨e1, -⟩ | ⟨m, -, -, e1⟩
  · rw [e1]
    exact ⟨rfl, rfl, rfl⟩
  · rw [e1]
    exact ⟨rfl, rfl, rfl⟩
theorem jCol.uq (u : jUq X Y) (c : jCol X Y Z) : jUq X Z := by
  rcases c with ⟨e1, -⟩ | ⟨m, -, -, e1⟩
  · rw [e1]
    exact u
  · rw [e1]
    exact ⟨⟨u.1.1, u.1.2.1, ⟨[jDd m], rfl⟩, u.1.2.2.2⟩, u.2⟩
theorem jCol.sz (c : jCol X Y Z) (h : jsC Y.2.2.1 < 10000) : jsC Z.2.2.1 = jsC Y.2.2.1 ∧ jsW Z.2.2.1 = jsW Y.2.2.1 := by
  rcases c with ⟨e1, -⟩ | ⟨m, -, e, e1⟩
  · rw [e1]
    exact ⟨rfl, rfl⟩
  · rw [e, jsC_app] at h
    obtain ⟨a, b⟩ := jDd.sz (m := m) (by omega)
    rw [e1, e]
    show jsC (X.2.2.1 ++ [jDd m]) = jsC (X.2.2.1 ++ m) ∧ jsW (X.2.2.1 ++ [jDd m]) = jsW (X.2.2.1 ++ m)
    rw [jsC_app, jsC_app, jsW_app, jsW_app]
    show jsC X.2.2.1 + (joC (jDd m) + 0) = _ ∧ jsW X.2.2.1 + (joW (jDd m) + 0) = _
    rw [a, b]
    exact ⟨rfl, rfl⟩
theorem JX.col {mu0 : Nat → Nat} {A0 : JAN} (b : jsC Y.2.2.1 < 10000) (c : jCol X Y Z) (h0 : A0 (sN Fm) = (s0, some X.2.2.1)) (h : JX Y Fc Gc Fm Gm mu0 A0 F1 G1 F2 G2 s1 hs []) : JX Z Fc Gc Fm Gm mu0 A0 F1 G1 F2 G2 s1 hs [] := by
  have sz := c.sz b
  rcases c with ⟨e1, -⟩ | ⟨m, hm, e, e1⟩
  · rw [e1]
    exact h
  · rw [e1] at sz ⊢
    refine JX.wk (X := Y) ⟨rfl, rfl, rfl⟩ ?_ ?_ sz ?_ h
    · rcases Nat.lt_or_ge (sN Fm) (sN F2) with z | z
      · exact z
      · exfalso
        obtain ⟨mu, A, l0, e0, ⟨a0, a1, -⟩, a4, ⟨a5, -⟩, -⟩ := h
        have ee : sN F2 = sN Fm := Nat.le_antisymm z a1
        rw [ee, (a4 _ (Nat.le_refl _)).2, h0] at a5
        have q : X.2.2.1 = Y.2.2.1 := Option.some.inj (congrArg (fun z : SH × Option JLY => z.2) a5)
        rw [e] at q
        have q1 := congrArg List.length q
        rw [List.length_append] at q1
        exact hm (List.eq_nil_of_length_eq_zero (by omega))
    · show jLe (X.2.2.1 ++ [jDd m]) Y.2.2.1
      rw [e]
      exact (jLe.dd _ _).tr (jLe.app _ _)
    · intro l0 el
      rw [h0] at el
      have q : X.2.2.1 = l0 := Option.some.inj el
      rw [← q]
      exact jLe.app _ _
theorem jW.col (b : p = 1 → jsC Y.2.2.1 < 10000) (c : jCol X Y Z) (h : jW X Y p N i j d κ s s1 hs [] Fc Gc Fm Gm F1 G1 F2 G2) : jW X Z p N i j d κ s s1 hs [] Fc Gc Fm Gm F1 G1 F2 G2 := by
  obtain ⟨a0, a1, a4, a5, a6, a7, pe, a8⟩ := h
  exact ⟨c.uq a0, a1, a4, a5, a6, a7, pe, fun z mu A h1 h2 => JX.col (b z) c h1 (a8 z mu A h1 h2)⟩
theorem jV.sz (V : jV Y p N K n q nf t1 j F3 G3 F4 G4) (hp : p = 1) : jsC Y.2.2.1 < 10000 := by
  obtain ⟨-, ⟨w1, w2, w3, w4, w5, w6, w7⟩, -⟩ := V.2.2.2.2.2 hp
  have q4 := jsC4 Y.2.2.1
  rw [w2] at w3
  omega
theorem jV.col (c : jCol X Y Z) (u : jUq X Y) (V0 : jV X p N K n q nf t i Fc Gc Fm Gm) (V : jV Y p N K n q nf t1 j F3 G3 F4 G4) (ht : p = 1 → t1 = t) (tm : p = 1 → ∀ (k a : Nat), k < t → 16 ≤ a → a ≤ 23 → G4 a k = Gm a k) (tc : p = 1 → ∀ (k a : Nat), k < q + t → 33 ≤ a → a ≤ 38 → G3 a k = Gc a k) : jV Z p N K n q nf t1 j F3 G3 F4 G4 := by
  have c0 := c
  rcases c with ⟨e1, -⟩ | ⟨m, hm, e, e1⟩
  · rw [e1]
    exact V
  obtain ⟨⟨⟨h1, h2, h3, h4, h5, h6⟩, D, R⟩, ⟨A1, B1, C1, d1, d2⟩⟩ := V
  rw [e1] at c0 ⊢
  refine ⟨⟨⟨h1, h2, h3, h4, h5, fun z => ?_⟩, D, R⟩, ⟨A1, B1, C1, d1, fun z => ?_⟩⟩
  · obtain ⟨g1, g2, ⟨b1, b2, b3, b4, b5, b6⟩, g4, g5, g6⟩ := h6 z
    obtain ⟨-, -, f3, -⟩ := V0.1.1.2.2.2.2.2 z
    refine ⟨g1, g2, ⟨b1, b2, b3, b4, b5, fun k hk => ?_⟩, g4, g5, g6⟩
    obtain ⟨r1, r2, r3, r4, r5, -⟩ := b6 k hk
    refine ⟨r1, r2, r3, r4, r5, ?_⟩
    have hk := ht z ▸ hk
    obtain ⟨-, -, -, -, -, o6⟩ := f3.2.2.2.2.2 k hk
    have o7 := o6.up (m1 := []) (m2 := [jDd m])
    rw [List.append_nil] at o7
    show jEN Y.2.1 (X.2.2.1 ++ [jDd m]) _ _ _ _ _ _ _ _ _
    rw [tm z k 17 hk (by decide) (by decide), tm z k 19 hk (by decide) (by decide), tm z k 20 hk (by decide) (by decide), tm z k 21 hk (by decide) (by decide), tm z k 22 hk (by decide) (by decide), tm z k 23 hk (by decide) (by decide), tc z (q + k) 35 (by omega) (by decide) (by decide), tc z (q + k) 37 (by omega) (by decide) (by decide), tc z (q + k) 38 (by omega) (by decide) (by decide), u.2]
    exact o7
  · obtain ⟨y1, ⟨w1, w2, w3, w4, w5, w6, w7⟩, y3⟩ := d2 z
    have q4 := jsC4 Y.2.2.1
    have w3' := w3
    rw [w2] at w3'
    obtain ⟨s1, s2⟩ := c0.sz (by omega)
    exact ⟨y1, ⟨w1.trans (congrArg (fun z : Nat => (z : Int)) s1.symm), w2, w3.trans (congrArg (fun z : Nat => (z : Int)) s2.symm), w4, w5, w6, w7⟩, y3⟩
/-- a scope ends: what it told is told no more -/
theorem jl_out {x1 : Int32} (V0 : jV X p N K n q nf t i Fc Gc Fm Gm) (h15 : (Fm 15).toInt ≤ 4 * (i : Int)) (hx : x1 = Fm 15) (V : jV Y p N K n q nf t1 j F1 G1 F2 G2) (g15 : F2 15 = Fm 15 + 1) (u : jUq X Y) (pe : p = 1 → jPe Fc Gc Fm Gm F1 G1 F2 G2) (hn : p = 1 → ∀ k : Nat, (Fm 14).toInt ≤ (k : Int) → (k : Int) < (F2 14).toInt → (Fm 15).toInt < (G2 19 k).toInt) : JP (cf_X5_leave fu F1 G1) (mf_ends fu x1 F2 G2) (fun _ F3 G3 _ F4 G4 => ∃ (t2 : Nat) (Z : JCX), jV Z p N K n q nf t2 j F3 G3 F4 G4 ∧ jCol X Y Z ∧ (KX [41, 42] [40] F1 G1 F3 G3 ∧ (p = 0 → KX [42] [] F1 G1 F3 G3)) ∧ (KX [14, 15] [] F2 G2 F4 G4 ∧ F4 15 = x1) ∧ (p = 1 → jPe Fc Gc Fm Gm F3 G3 F4 G4)) := by
  have c2 := V0.2.2.2.1.2.1
  have i4 : (i : Int) ≤ 4000 := by
    have := V0.1.2.1.1.1
    have := V0.1.1.1.1
    omega
  have ea : (Fm 15 + 1).toInt = (Fm 15).toInt + 1 := i_addn _ rfl (by omega) (by omega)
  obtain ⟨Z, c⟩ := jCol.ex u
  refine JP.mono (jl_leave V (x1 := x1) (by rw [hx, g15, i_as]) (by rw [g15]; omega)) ?_
  rintro r1 F3 G3 r2 F4 G4 ⟨t2, V2, ⟨k1, k2⟩, ⟨k3, k4⟩, k5⟩
  have key : p = 1 → t2 = t := by
    intro z
    obtain ⟨-, -, f3, -⟩ := V0.1.1.2.2.2.2.2 z
    obtain ⟨-, -, g3, -⟩ := V.1.1.2.2.2.2.2 z
    obtain ⟨q1, q2, q3⟩ := k5 z
    obtain ⟨⟨p1, p2⟩, -⟩ := pe z
    have e1 := f3.1
    have e2 := g3.1
    rcases Nat.lt_trichotomy t2 t with y | y | y
    · have a := q2 t2 (Nat.le_refl _) (by omega)
      have b := (f3.2.2.2.2.2 t2 y).2.2.2.2.1.2
      rw [p2 t2 19 (by omega) (by decide) (by decide), hx] at a
      omega
    · exact y
    · rcases q3 with w | w
      · omega
      · have := hn z (t2 - 1) (by omega) (by omega)
        rw [hx] at w
        omega
  refine ⟨t2, Z, jV.col c u V0 V2 key (fun z k a hk l r => ?_) (fun z k a hk l r => ?_), c, ⟨k1, k2⟩, ⟨k3, k4⟩, fun z => ?_⟩
  · obtain ⟨-, -, f3, -⟩ := V0.1.1.2.2.2.2.2 z
    rw [k3.2 a rfl]
    exact (pe z).1.2 k a (by have := f3.1; omega) l r
  · obtain ⟨-, -, f3, -⟩ := V0.1.1.2.2.2.2.2 z
    rw [k1.rg (l := 33) (u := 38) rfl a l r]
    exact (pe z).2.1.2 k a (by have := f3.2.1; omega) l r
  · obtain ⟨-, -, f3, -⟩ := V0.1.1.2.2.2.2.2 z
    obtain ⟨-, -, h3, -⟩ := V2.1.1.2.2.2.2.2 z
    have a1 := f3.1
    have a2 := f3.2.1
    have b1 := h3.1
    have b2 := h3.2.1
    have e := key z
    refine ⟨⟨by omega, fun k a hk l r => ?_⟩, ⟨by omega, fun k a hk l r => ?_⟩, by rw [k4, hx]; exact Int.le_refl _, fun k h1 h2 => ?_⟩
    · rw [k3.2 a rfl]
      exact (pe z).1.2 k a hk l r
    · rw [k1.rg (l := 33) (u := 38) rfl a l r]
      exact (pe z).2.1.2 k a hk l r
    · omega
end JW5X
