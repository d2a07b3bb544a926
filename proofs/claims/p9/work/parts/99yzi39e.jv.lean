theorem jEN.ll0 {gl ll : JLY} {ck cv cz lv mk mc mz mb ml : Int32} (h0 : lv = 0) (h : jEN gl ll ck cv cz lv mk mc mz mb ml) : jEN gl [] ck cv cz lv mk mc mz mb ml := by
  rcases h with h | ⟨a1, a2, a3, a4⟩ | ⟨κ, a1, a2, a3, a4, a5⟩
  · exact .inl h
  · refine .inr (.inl ⟨a1, a2, a3, ?_⟩)
    rcases a4 with a4 | ⟨a4, -⟩
    · exact .inl a4
    · exact absurd h0 a4
  · refine .inr (.inr ⟨κ, a1, a2, a3, a4, ?_⟩)
    rcases a5 with ⟨a5, -⟩ | ⟨m, b1, b2, b3, b4, b5⟩
    · exact absurd h0 a5
    · refine .inr ⟨m, b1, b2, b3, b4, ?_⟩
      rcases b5 with b5 | ⟨b5, -⟩
      · exact .inl b5
      · exact absurd h0 b5
section JVE
variable {fu : Nat} {X : JCX} {p : Int32} {N K n q nf t i j : Nat} {Fc Fm F1 F2 F3 F4 : PF} {Gc Gm G1 G2 G3 G4 : PG}
/-- a function is left -/
theorem jl_leave1 (V : jV X p N K n q nf t i Fc Gc Fm Gm) (h15 : Fm 15 = 1) : JP (cf_X5_leave fu Fc Gc) (mf_ends fu 0 Fm Gm) (fun _ F1 G1 _ F2 G2 => ∃ t1 : Nat, jIn (X.1, X.2.1, [], X.2.2.2) p N K n q nf t1 i F1 G1 F2 G2 ∧ (KX [41, 42] [40] Fc Gc F1 G1 ∧ (p = 0 → KX [42] [] Fc Gc F1 G1)) ∧ KX [14, 15] [] Fm Gm F2 G2 ∧ (F1 42 = 0 ∧ F2 15 = 0) ∧ t1 ≤ t) := by
  obtain ⟨⟨S, D, R⟩, ⟨⟨a1, a2, a3⟩, ⟨b1, b2, b3⟩, ⟨c1, c2, c3⟩, d1, d2⟩⟩ := V
  have l0 : (0 : Int32).toInt = 0 := rfl
  have hx : (0 : Int32) = Fm 15 - 1 := by rw [h15]; decide
  have e42' : Fc 42 - 1 = 0 := by rw [c1, h15]; decide
  -- what both leave alone
  have fin : ∀ (F1 : PF) (G1 : PG) (F2 : PF) (G2 : PG) (t1 : Nat), KX [41, 42] [40] Fc Gc F1 G1 → (p = 0 → KX [42] [] Fc Gc F1 G1) → Gm = G2 → KX [14, 15] [] Fm Gm F2 G2 → F1 42 = Fc 42 - 1 → F2 15 = 0 → t1 ≤ t → (p = 1 → jSA K q nf F1 G1 F2 G2 ∧ jSE X.2.1 X.2.2.1 K q t1 F1 G1 F2 G2 ∧ jSU nf t1 G2 ∧ jSL K (q + t1) G1) → ∃ t1 : Nat, jIn (X.1, X.2.1, [], X.2.2.2) p N K n q nf t1 i F1 G1 F2 G2 ∧ (KX [41, 42] [40] Fc Gc F1 G1 ∧ (p = 0 → KX [42] [] Fc Gc F1 G1)) ∧ KX [14, 15] [] Fm Gm F2 G2 ∧ (F1 42 = 0 ∧ F2 15 = 0) ∧ t1 ≤ t := by
    intro F1 G1 F2 G2 t1 kc kc0 hG km e42 e15 ht new
    subst hG
    obtain ⟨h1, h2, h3, h4, h5, h6⟩ := S
    refine ⟨t1, ⟨⟨h1.keep (kc.1 93 rfl) (kc.2 90 rfl) (kc.2 91 rfl) (kc.2 92 rfl) (km.1 7 rfl) (km.1 8 rfl) rfl rfl rfl, h2, ?_, ?_, ?_, fun z => ?_⟩, ?_, ?_⟩, ⟨kc, kc0⟩, km, ⟨e42.trans e42', e15⟩, ht⟩
    · rw [km.1 46 rfl, kc.1 45 rfl, kc.1 7 rfl]
      exact h3
    · rw [km.1 54 rfl, kc.1 46 rfl]
      exact h4
    · rw [km.1 54 rfl]
      exact h5
    · obtain ⟨g1, -, -, -, -, g11⟩ := h6 z
      obtain ⟨n1, ⟨m1, m2, m3, m4, m5, m6⟩, n3, n4⟩ := new z
      refine ⟨by rw [km.1 54 rfl]; exact g1, n1, ⟨m1, m2, m3, m4, m5, fun k hk => ?_⟩, n3, n4, ?_⟩
      · obtain ⟨u1, u2, u3, u4, u5, u6⟩ := m6 k hk
        refine ⟨u1, u2, u3, u4, u5, jEN.ll0 ?_ u6⟩
        refine i_eq.mpr ?_
        rw [e15, l0] at u5
        rw [l0]
        omega
      · unfold jFT at g11 ⊢
        rw [kc.1 74 rfl, kc.2 82 rfl, kc.2 77 rfl, kc.2 78 rfl, kc.2 83 rfl, kc.2 84 rfl]
        exact g11
    · obtain ⟨D1, ⟨D2, D3, D4⟩, D5, D7, D8, D9⟩ := D
      refine ⟨?_, ⟨?_, ?_, ?_⟩, ?_, ?_, ?_, ?_⟩
      · unfold CU at D1 ⊢
        rw [kc.1 9 rfl, km.1 42 rfl, kc.1 10 rfl, km.1 43 rfl, kc.1 14 rfl, km.1 44 rfl, kc.1 11 rfl, kc.1 12 rfl, kc.1 13 rfl, kc.2 90 rfl, kc.2 91 rfl, kc.2 92 rfl]
        exact D1
      · rw [km.1 47 rfl]; exact D2
      · rw [kc.1 43 rfl]; exact D3
      · rw [kc.1 47 rfl]; exact D4
      · rw [kc.1 21 rfl]; exact D5
      · rw [kc.1 6 rfl]; exact D7
      · rw [km.1 60 rfl]; exact D8
      · rw [km.1 70 rfl]; exact D9
    · rw [kc.1 6 rfl]
      exact R
  rcases S.2.1 with z | z
  · obtain ⟨⟨y1, y2⟩, y3⟩ := d1 z
    refine JP.pp (cp_leave0 y1 y2 (fun j hj w => ?_)) (show PP (mf_ends fu 0 Fm Gm) _ from mp_endsA fu Fm) ?_
    · rw [y3 j hj, c1] at w
      rw [← w] at c2
      exact absurd c2 (by decide)
    · rintro r1 _ _ r2 F2 G2 ⟨rfl, rfl⟩ ⟨k0, k1, k2⟩
      refine fin _ _ _ _ t (KX.f rfl KX.rf) (fun _ => KX.f rfl KX.rf) k0 k1 fup_s k2 (Nat.le_refl _) (fun y => ?_)
      rw [z] at y
      exact absurd y (by decide)
  · obtain ⟨-, g2, g3, g4, g5, -⟩ := S.2.2.2.2.2 z
    have q6 := g3.2.2.1
    refine JP.pp (cp_leave (c := q + t) (by have := g3.2.1; omega) (by omega) g5 (jSE.rng g2 g3)) (mp_endsL g3.1 (by omega)) ?_
    rintro r1 F1 G1 r2 F2 G2 ⟨k1, k2, cc, k3, k4, k5, k6, k7⟩ ⟨rfl, l1, l2, t1, l3, l4, l5, l6⟩
    refine fin F1 G1 F2 Gm t1 k1 (fun y => ?_) rfl l1 k2 l2 l3 (fun _ => jLv g2 g3 g4 (by omega) hx k1 k2 k3 k4 k5 k6 k7 l1 l2 l3 l4 l5 l6)
    rw [z] at y
    exact absurd y (by decide)
/-- entries of code, and in the first pass numbers of FORMALs, may be written -/
theorem jV.g30 (V : jV X p N K n q nf t i Fc Gc Fm Gm) (km : KX [] [30] Fm Gm Fm G2) : jV X p N K n q nf t i Fc Gc Fm G2 := by
  obtain ⟨⟨⟨h1, h2, h3, h4, h5, h6⟩, D, R⟩, ⟨⟨a1, a2, a3⟩, b, c, d1, d2⟩⟩ := V
  refine ⟨⟨⟨h1.keep rfl rfl rfl rfl rfl rfl (km.2 4 rfl) (km.2 5 rfl) (km.2 6 rfl), h2, h3, h4, h5, fun z => ?_⟩, ?_, ?_⟩, ⟨⟨a1, a2, a3⟩, b, c, d1, fun z => ?_⟩⟩
  · have := h6 z
    unfold jSA jSE jSU jFT at this ⊢
    rw [km.2 25 rfl, km.2 26 rfl, km.2 16 rfl, km.2 19 rfl, km.2 18 rfl, km.2 17 rfl, km.2 20 rfl, km.2 21 rfl, km.2 22 rfl, km.2 23 rfl, km.2 33 rfl, km.2 27 rfl, km.2 31 rfl, km.2 34 rfl]
    exact this
  · unfold jD CU at D ⊢
    rw [km.2 6 rfl]
    exact D
  · rw [km.2 6 rfl]; exact R
  · have := d2 z
    rw [km.2 33 rfl, km.2 4 rfl, km.2 5 rfl]
    exact this
theorem jV.g27 (V : jV X 0 N K n q nf t i Fc Gc Fm Gm) (km : KX [] [27] Fm Gm Fm G2) : jV X 0 N K n q nf t i Fc Gc Fm G2 := by
  obtain ⟨⟨⟨h1, h2, h3, h4, h5, h6⟩, D, R⟩, ⟨⟨a1, a2, a3⟩, b, c, d1, d2⟩⟩ := V
  refine ⟨⟨⟨h1.keep rfl rfl rfl rfl rfl rfl (km.2 4 rfl) (km.2 5 rfl) (km.2 6 rfl), h2, h3, h4, h5, fun z => absurd z (by decide)⟩, ?_, ?_⟩, ⟨⟨a1, a2, a3⟩, b, c, d1, fun z => absurd z (by decide)⟩⟩
  · unfold jD CU at D ⊢
    rw [km.2 6 rfl]
    exact D
  · rw [km.2 6 rfl]; exact R
end JVE
