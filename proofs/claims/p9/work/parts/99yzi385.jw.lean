theorem jEN.up {gl ll m1 m2 : JLY} {ck cv cz lv mk mc mz mb ml : Int32} (h : jEN gl ll ck cv cz lv mk mc mz mb ml) : jEN (gl ++ m1) (ll ++ m2) ck cv cz lv mk mc mz mb ml := by
  rcases h with h | ⟨h1, h2, h3, ⟨h4, h5, p, o, h6, h7⟩ | ⟨h4, h5, p, o, h6, h7⟩⟩ | ⟨κ, h1, h2, h3, h4, ⟨h5, h6, h7, h8, p, o, h9, h10⟩ | ⟨n, h5, h6, h7, h8, ⟨h9, h10, p, o, h11, h12⟩ | ⟨h9, h10, p, o, h11, h12⟩⟩⟩
  · exact .inl h
  · exact .inr (.inl ⟨h1, h2, h3, .inl ⟨h4, h5, p, o, h6.up m1, h7⟩⟩)
  · exact .inr (.inl ⟨h1, h2, h3, .inr ⟨h4, h5, p, o, h6.up m2, h7⟩⟩)
  · exact .inr (.inr ⟨κ, h1, h2, h3, h4, .inl ⟨h5, h6, h7, h8, p, o, h9.up m2, h10⟩⟩)
  · exact .inr (.inr ⟨κ, h1, h2, h3, h4, .inr ⟨n, h5, h6, h7, h8, .inl ⟨h9, h10, p, o, h11.up m1, h12⟩⟩⟩)
  · exact .inr (.inr ⟨κ, h1, h2, h3, h4, .inr ⟨n, h5, h6, h7, h8, .inr ⟨h9, h10, p, o, h11.up m2, h12⟩⟩⟩)
theorem jEN.no4 {gl ll : JLY} {ck cv cz lv mk mc mz mb ml : Int32} (h : jEN gl ll ck cv cz lv mk mc mz mb ml) : ¬ ck = 4 := by
  rcases h with ⟨h, -⟩ | ⟨h, -⟩ | ⟨κ, h1, h2, -⟩
  · rw [h]
    decide
  · rw [h]
    decide
  · rcases h1 with e | e
    · rw [h2, e]
      decide
    · rw [h2, e]
      decide
/-- names of symbols are in range -/
theorem jSE.rng {gl ll : JLY} {K q nf t : Nat} {Fc Fm : PF} {Gc Gm : PG} (a : jSA K q nf Fc Gc Fm Gm) (e : jSE gl ll K q t Fc Gc Fm Gm) : ∀ j : Nat, j < q + t → 0 ≤ (Gc 33 j).toInt ∧ (Gc 33 j).toInt < K := by
  intro j hj
  rcases Nat.lt_or_ge j q with c | c
  · obtain ⟨-, -, f, f1, -, f3, -⟩ := a.2.2.2.1 j c
    rw [f3]
    exact a.2.1 f f1
  · obtain ⟨b1, -, -, b4, -⟩ := e.2.2.2.2.2 (j - q) (by omega)
    rw [show q + (j - q) = j by omega] at b1
    rw [b1]
    exact b4
/-- one more is told, in both -/
theorem jNew {X Y : JCX} (u : jUp X Y) {K q nf t : Nat} {Fc Fm F1 F2 : PF} {Gc Gm G1 G2 : PG} {x1 cid pl ck cv cz mk b3 mc mz b6 : Int32} (a : jSA K q nf Fc Gc Fm Gm) (e : jSE X.2.1 X.2.2.1 K q t Fc Gc Fm Gm) (su : jSU nf t Gm) (sl : jSL K (q + t) Gc) (ins : jIns (q + t) cid pl ck cv cz Fc Gc F1 G1) (de : jDe t x1 mk b3 mc mz b6 Fm Gm F2 G2) (hid : cid = Gm 5 x1.toNatClampNeg) (hpl : pl = Gm 6 x1.toNatClampNeg) (id0 : 0 ≤ cid.toInt) (id1 : cid.toInt < K) (rm : q + t < 690) (nt : ¬ jTw nf t x1 Fm Gm) (f0 : Fm 15 = 0 → ∀ f : Nat, f < nf → Gm 25 f = cid → ¬ Gm 26 f = pl) (en : jEN Y.2.1 Y.2.2.1 ck cv cz (Fm 15) mk mc mz (vp_nar .boolean b3) (vp_nar .boolean b6)) : jSA K q nf F1 G1 F2 G2 ∧ jSE Y.2.1 Y.2.2.1 K q (t + 1) F1 G1 F2 G2 ∧ jSU nf (t + 1) G2 ∧ jSL K (q + (t + 1)) G1 := by
  obtain ⟨-, ⟨m1, u1⟩, ⟨m2, u2⟩, -⟩ := u
  obtain ⟨k1, k2, k3, ⟨c1, c2, c3, c4, c5, c6, c7⟩, c8, c9⟩ := ins
  obtain ⟨l1, l2, l3, ⟨d1, d2, d3, d4, d5, d6, d7, d8⟩⟩ := de
  obtain ⟨a1, a2, a3, a4, a5⟩ := a
  obtain ⟨e1, e2, e3, e4, e5, e6⟩ := e
  obtain ⟨s1, s2, s3⟩ := su
  have g25 : G2 25 = Gm 25 := l1.2 25 rfl
  have g26 : G2 26 = Gm 26 := l1.2 26 rfl
  refine ⟨⟨by rw [l1.1 24 rfl]; exact a1, by rw [g25]; exact a2, by rw [g26]; exact a3, fun j hj => ?_, fun f hf => ?_⟩, ⟨by omega, by omega, by omega, ?_, ?_, fun k hk => ?_⟩, ⟨fun i j ij hj => ?_, fun i j ij hj => ?_, fun k hk h0 f hf => ?_⟩, ?_⟩
  · obtain ⟨z1, z2, z3, z4, z5, z6, z7⟩ := k3 j (by omega)
    rw [z3, z2, z5, z1, z4, g25, g26]
    exact a4 j hj
  · obtain ⟨j, j1, j2⟩ := a5 f hf
    exact ⟨j, j1, by rw [(k3 j (by omega)).1, g25]; exact j2⟩
  · rw [k1.1 42 rfl, l1.1 15 rfl]
    exact e4
  · rw [l1.1 15 rfl]
    exact e5
  · by_cases c : k = t
    · rw [c, c1, c2, c3, c4, c5, c6, d1, d2, d3, d4, d5, d6, d7, d8, l1.1 15 rfl]
      exact ⟨hid, e4, hpl, ⟨by rw [← hid]; exact id0, by rw [← hid]; exact id1⟩, ⟨e5, Int.le_refl _⟩, en⟩
    · obtain ⟨z1, z2, z3, z4, z5, z6, z7⟩ := k3 (q + k) (by omega)
      obtain ⟨y1, y2, y3, y4, y5, y6, y7, y8⟩ := l3 k c
      obtain ⟨x1', x2, x3, x4, x5, x6⟩ := e6 k (by omega)
      rw [z1, z2, z3, z4, z5, z6, y1, y2, y3, y4, y5, y6, y7, y8, l1.1 15 rfl]
      refine ⟨x1', x2, x3, x4, x5, ?_⟩
      rw [u1, u2]
      exact x6.up
  · by_cases cj : j = t
    · rw [cj, d4]
      by_cases ci : i = t
      · rw [ci, d4]
        exact Int.le_refl _
      · rw [(l3 i ci).2.2.2.1]
        exact (e6 i (by omega)).2.2.2.2.1.2
    · rw [(l3 j cj).2.2.2.1, (l3 i (by omega)).2.2.2.1]
      exact s1 i j ij (by omega)
  · by_cases cj : j = t
    · have ci : i ≠ t := by omega
      rw [cj, d4, d1, (l3 i ci).2.2.2.1, (l3 i ci).1]
      exact fun z w => nt (.inl ⟨i, by omega, z, w⟩)
    · rw [(l3 j cj).2.2.2.1, (l3 i (by omega)).2.2.2.1, (l3 j cj).1, (l3 i (by omega)).1]
      exact s2 i j ij (by omega)
  · rw [g25, g26]
    by_cases ck : k = t
    · rw [ck, d4] at h0
      rw [ck, d1, d3]
      intro w
      have n1 : ¬ (Gm 26 f).toInt < (Gm 6 x1.toNatClampNeg).toInt := fun z => nt (.inr ⟨h0, f, hf, w, z⟩)
      have n2 : ¬ (Gm 26 f).toInt = (Gm 6 x1.toNatClampNeg).toInt := fun z => f0 h0 f hf (by rw [hid]; exact w) (by rw [hpl]; exact i_eq.mpr z)
      omega
    · rw [(l3 k ck).2.2.2.1] at h0
      rw [(l3 k ck).1, (l3 k ck).2.2.1]
      exact s3 k (by omega) h0 f hf
  · rw [show q + (t + 1) = q + t + 1 by omega]
    exact sl.psh id0 (fun j hj => (k3 j (by omega)).1) c1 (fun j hj => (k3 j (by omega)).2.2.2.2.2.2) c7 c9 c8 id1
/-- a scope is over, in both -/
theorem jLv {X : JCX} {K q nf t c1 t1 : Nat} {Fc Fm F1 F2 : PF} {Gc Gm G1 : PG} {x1 : Int32} (a : jSA K q nf Fc Gc Fm Gm) (e : jSE X.2.1 X.2.2.1 K q t Fc Gc Fm Gm) (su : jSU nf t Gm) (h1 : 1 ≤ (Fm 15).toInt) (hx : x1 = Fm 15 - 1) (kc : KX [41, 42] [40] Fc Gc F1 G1) (k42 : F1 42 = Fc 42 - 1) (b1 : c1 ≤ q + t) (b2 : (F1 41).toInt = c1) (b3 : jSL K c1 G1) (b4 : ∀ j : Nat, c1 ≤ j → j < q + t → Gc 34 j = Fc 42) (b5 : c1 = 0 ∨ ¬ Gc 34 (c1 - 1) = Fc 42) (km : KX [14, 15] [] Fm Gm F2 Gm) (k15 : F2 15 = x1) (d1 : t1 ≤ t) (d2 : (F2 14).toInt = t1) (d3 : ∀ k : Nat, t1 ≤ k → k < t → x1.toInt < (Gm 19 k).toInt) (d4 : t1 = 0 ∨ (Gm 19 (t1 - 1)).toInt ≤ x1.toInt) : jSA K q nf F1 G1 F2 Gm ∧ jSE X.2.1 X.2.2.1 K q t1 F1 G1 F2 Gm ∧ jSU nf t1 Gm ∧ jSL K (q + t1) G1 := by
  obtain ⟨a1, a2, a3, a4, a5⟩ := a
  obtain ⟨e1, e2, e3, e4, e5, e6⟩ := e
  obtain ⟨s1, s2, s3⟩ := su
  have ex : x1.toInt = (Fm 15).toInt - 1 := by
    rw [hx]
    exact i_dec (by omega)
  have qc : q ≤ c1 := by
    rcases Nat.lt_or_ge c1 q with z | z
    · have z1 := b4 c1 (Nat.le_refl _) (by omega)
      have z2 := (a4 c1 z).2.1
      rw [z2, e4] at z1
      rw [← z1] at h1
      exact absurd h1 (by decide)
    · exact z
  have hi : ∀ k : Nat, c1 ≤ q + k → k < t → x1.toInt < (Gm 19 k).toInt := fun k z1 z2 => by
    have z := b4 (q + k) z1 (by omega)
    rw [(e6 k z2).2.1, e4] at z
    rw [z]
    omega
  have lo : ∀ k : Nat, q + k < c1 → k < t → (Gm 19 k).toInt ≤ x1.toInt := fun k z1 z2 => by
    rcases b5 with z | z
    · omega
    · have w := e6 (c1 - 1 - q) (by omega)
      rw [show q + (c1 - 1 - q) = c1 - 1 by omega] at w
      rw [w.2.1, e4] at z
      have z' := mt i_eq.mpr z
      have y := s1 k (c1 - 1 - q) (by omega) (by omega)
      have x := w.2.2.2.2.1.2
      omega
  have lo1 : ∀ k : Nat, k < t1 → (Gm 19 k).toInt ≤ x1.toInt := fun k z => by
    rcases d4 with w | w
    · omega
    · have := s1 k (t1 - 1) (by omega) (by omega)
      omega
  have ec : c1 = q + t1 := by
    rcases Nat.lt_trichotomy c1 (q + t1) with z | z | z
    · have y1 := hi (c1 - q) (by omega) (by omega)
      have y2 := lo1 (c1 - q) (by omega)
      omega
    · exact z
    · have y1 := lo t1 (by omega) (by omega)
      have y2 := d3 t1 (Nat.le_refl _) (by omega)
      omega
  refine ⟨⟨by rw [km.1 24 rfl]; exact a1, a2, a3, fun j hj => ?_, fun f hf => ?_⟩, ⟨d2, by omega, by omega, ?_, by rw [k15]; omega, fun k hk => ?_⟩, ⟨fun i j ij hj => s1 i j ij (by omega), fun i j ij hj => s2 i j ij (by omega), fun k hk => s3 k (by omega)⟩, ?_⟩
  · rw [kc.2 35 rfl, kc.2 34 rfl, kc.2 37 rfl, kc.2 33 rfl, kc.2 36 rfl]
    exact a4 j hj
  · rw [kc.2 33 rfl]
    exact a5 f hf
  · rw [k42, k15, hx, e4]
  · obtain ⟨y1, y2, y3, y4, y5, y6⟩ := e6 k (by omega)
    rw [kc.2 33 rfl, kc.2 34 rfl, kc.2 36 rfl, kc.2 35 rfl, kc.2 37 rfl, kc.2 38 rfl, k15]
    exact ⟨y1, y2, y3, y4, ⟨y5.1, lo1 k hk⟩, y6⟩
  · rw [← ec]
    exact b3
section JW5
variable {fu : Nat} {X : JCX} {p : Int32} {N K n q nf t i : Nat} {Fc Fm : PF} {Gc Gm : PG}
theorem jS.p0t (S : jS X p N K n q nf t Fc Gc Fm Gm) : 0 ≤ (Gm 6 0).toInt := by
  obtain ⟨⟨h1, h2, h3⟩, h4, h5, h6, h7, h8, h9⟩ := S.1
  by_cases z : N = 0
  · rw [← z, h8]
    omega
  · exact (h6 0 (by omega)).2.2.1
/-- both enter a scope -/
theorem jV.ent (V : jV X p N K n q nf t i Fc Gc Fm Gm) (h : (Fm 15).toInt ≤ 4 * (i : Int)) : jV X p N K n q nf t i (fup Fc 42 (Fc 42 + 1)) Gc (fup Fm 15 (Fm 15 + 1)) Gm := by
  obtain ⟨⟨S, D, R⟩, ⟨⟨a1, a2, a3⟩, ⟨b1, b2, b3⟩, ⟨c1, c2, c3⟩, d1, d2⟩⟩ := V
  have kc : KX [42] [] Fc Gc (fup Fc 42 (Fc 42 + 1)) Gc := KX.f rfl KX.rf
  have km : KX [15] [] Fm Gm (fup Fm 15 (Fm 15 + 1)) Gm := KX.f rfl KX.rf
  have i4 : (i : Int) ≤ 4000 := by
    have := D.1.1
    have := S.1.1
    omega
  have e42 : fup Fc 42 (Fc 42 + 1) 42 = Fc 42 + 1 := fup_s
  have e15 : fup Fm 15 (Fm 15 + 1) 15 = Fm 15 + 1 := fup_s
  have ea : (Fm 15 + 1).toInt = (Fm 15).toInt + 1 := i_addn _ rfl (by omega) (by omega)
  generalize fup Fc 42 (Fc 42 + 1) = F1 at kc e42 ⊢
  generalize fup Fm 15 (Fm 15 + 1) = F2 at km e15 ⊢
  obtain ⟨h1, h2, h3, h4, h5, h6⟩ := S
  refine ⟨⟨⟨h1.keep (kc.1 93 rfl) rfl rfl rfl (km.1 7 rfl) (km.1 8 rfl) rfl rfl rfl, h2, ?_, ?_, ?_, fun z => ?_⟩, ?_, ?_⟩, ⟨⟨a1, ?_, a3.kx kc rfl⟩, ?_, ?_, ?_, fun z => ?_⟩⟩
  · rw [km.1 46 rfl, kc.1 45 rfl, kc.1 7 rfl]
    exact h3
  · rw [km.1 54 rfl, kc.1 46 rfl]
    exact h4
  · rw [km.1 54 rfl]
    exact h5
  · obtain ⟨g1, g2, ⟨g3, g4, g5, g6, g7, g8⟩, g9, g10, g11⟩ := h6 z
    refine ⟨by rw [km.1 54 rfl]; exact g1, ?_, ⟨by rw [km.1 14 rfl]; exact g3, by rw [kc.1 41 rfl]; exact g4, g5, by rw [e42, e15, g6], by rw [e15]; omega, fun k hk => ?_⟩, g9, g10, ?_⟩
    · unfold jSA at g2 ⊢
      rw [km.1 24 rfl]
      exact g2
    · obtain ⟨y1, y2, y3, y4, y5, y6⟩ := g8 k hk
      exact ⟨y1, y2, y3, y4, ⟨y5.1, by rw [e15]; omega⟩, y6⟩
    · unfold jFT at g11 ⊢
      rw [kc.1 74 rfl]
      exact g11
  · obtain ⟨D1, ⟨D2, D3, D4⟩, D5, D7, D8, D9⟩ := D
    refine ⟨?_, ⟨?_, ?_, ?_⟩, ?_, ?_, ?_, ?_⟩
    · unfold CU at D1 ⊢
      rw [kc.1 9 rfl, km.1 42 rfl, kc.1 10 rfl, km.1 43 rfl, kc.1 14 rfl, km.1 44 rfl, kc.1 11 rfl, kc.1 12 rfl, kc.1 13 rfl]
      exact D1
    · rw [km.1 47 rfl]; exact D2
    · rw [kc.1 43 rfl]; exact D3
    · rw [kc.1 47 rfl]; exact D4
    · rw [kc.1 21 rfl]; exact D5
    · rw [kc.1 6 rfl]; exact D7
    · rw [km.1 60 rfl]; exact D8
    · rw [km.1 70 rfl]; exact D9
  · rw [kc.1 6 rfl]
    exact R
  · rw [km.1 54 rfl]
    exact a2
  · rw [kc.1 29 rfl, km.1 51 rfl]
    exact ⟨b1, b2, b3⟩
  · rw [e42, e15, c1]
    exact ⟨rfl, by omega, by omega⟩
  · rw [kc.1 41 rfl]
    exact d1
  · obtain ⟨y1, y2, y3⟩ := d2 z
    rw [km.1 50 rfl, kc.1 48 rfl, km.1 53 rfl, kc.1 50 rfl, km.1 52 rfl, kc.1 49 rfl]
    exact ⟨y1, y2, y3⟩
/-- both leave a scope -/
theorem jl_leave {x1 : Int32} (V : jV X p N K n q nf t i Fc Gc Fm Gm) (hx : x1 = Fm 15 - 1) (h2 : 2 ≤ (Fm 15).toInt) : JP (cf_X5_leave fu Fc Gc) (mf_ends fu x1 Fm Gm) (fun _ F1 G1 _ F2 G2 => ∃ t1 : Nat, jV X p N K n q nf t1 i F1 G1 F2 G2 ∧ (KX [41, 42] [40] Fc Gc F1 G1 ∧ (p = 0 → KX [42] [] Fc Gc F1 G1)) ∧ (KX [14, 15] [] Fm Gm F2 G2 ∧ F2 15 = x1) ∧ (p = 1 → t1 ≤ t ∧ (∀ k : Nat, t1 ≤ k → k < t → x1.toInt < (Gm 19 k).toInt) ∧ (t1 = 0 ∨ (Gm 19 (t1 - 1)).toInt ≤ x1.toInt))) := by
  obtain ⟨⟨S, D, R⟩, ⟨⟨a1, a2, a3⟩, ⟨b1, b2, b3⟩, ⟨c1, c2, c3⟩, d1, d2⟩⟩ := V
  have ex : x1.toInt = (Fm 15).toInt - 1 := by
    rw [hx]
    exact i_dec (by omega)
  have l0 : (0 : Int32).toInt = 0 := rfl
  -- what both leave alone
  have fin : ∀ (F1 : PF) (G1 : PG) (F2 : PF) (G2 : PG) (t1 : Nat), KX [41, 42] [40] Fc Gc F1 G1 → (p = 0 → KX [42] [] Fc Gc F1 G1) → Gm = G2 → KX [14, 15] [] Fm Gm F2 G2 → F1 42 = Fc 42 - 1 → F2 15 = x1 → t1 ≤ t → (p = 1 → jSA K q nf F1 G1 F2 G2 ∧ jSE X.2.1 X.2.2.1 K q t1 F1 G1 F2 G2 ∧ jSU nf t1 G2 ∧ jSL K (q + t1) G1) → (p = 1 → t1 ≤ t ∧ (∀ k : Nat, t1 ≤ k → k < t → x1.toInt < (Gm 19 k).toInt) ∧ (t1 = 0 ∨ (Gm 19 (t1 - 1)).toInt ≤ x1.toInt)) → ∃ t1 : Nat, jV X p N K n q nf t1 i F1 G1 F2 G2 ∧ (KX [41, 42] [40] Fc Gc F1 G1 ∧ (p = 0 → KX [42] [] Fc Gc F1 G1)) ∧ (KX [14, 15] [] Fm Gm F2 G2 ∧ F2 15 = x1) ∧ (p = 1 → t1 ≤ t ∧ (∀ k : Nat, t1 ≤ k → k < t → x1.toInt < (Gm 19 k).toInt) ∧ (t1 = 0 ∨ (Gm 19 (t1 - 1)).toInt ≤ x1.toInt)) := by
    intro F1 G1 F2 G2 t1 kc kc0 hG km e42 e15 ht new lv
    subst hG
    obtain ⟨h1, h2, h3, h4, h5, h6⟩ := S
    refine ⟨t1, ⟨⟨⟨h1.keep (kc.1 93 rfl) (kc.2 90 rfl) (kc.2 91 rfl) (kc.2 92 rfl) (km.1 7 rfl) (km.1 8 rfl) rfl rfl rfl, h2, ?_, ?_, ?_, fun z => ?_⟩, ?_, ?_⟩, ⟨⟨a1, ?_, a3.kx kc rfl⟩, ?_, ?_, fun z => ?_, fun z => ?_⟩⟩, ⟨kc, kc0⟩, ⟨km, e15⟩, lv⟩
    · rw [km.1 46 rfl, kc.1 45 rfl, kc.1 7 rfl]
      exact h3
    · rw [km.1 54 rfl, kc.1 46 rfl]
      exact h4
    · rw [km.1 54 rfl]
      exact h5
    · obtain ⟨g1, -, -, -, -, g11⟩ := h6 z
      obtain ⟨n1, n2, n3, n4⟩ := new z
      refine ⟨by rw [km.1 54 rfl]; exact g1, n1, n2, n3, n4, ?_⟩
      unfold jFT at g11 ⊢
      rw [kc.1 74 rfl, kc.2 82 rfl, kc.2 77 rfl, kc.2 78 rfl, kc.2 83 rfl, kc.2 84 rfl]
      exact g11
    · obtain ⟨D1, ⟨D2, D3, D4⟩, D5, D7, D8, D9⟩ := D
      refine ⟨?_, ⟨?_, ?_, ?_⟩, ?_, ?_, ?_, ?_⟩
      · unfold CU at D1 ⊢
        rw [kc.1 9 rfl, km.1 42 rfl, kc.1 10 rfl, km.1 43 rfl, kc.1 14 rfl, km.1 44 rfl, kc.1 11 rfl, kc.1 12 rfl, kc.1 13 rfl, kc.2 90 rfl, kc.2 91 rfl, kc.2 92 rfl]
        exact D1
      · rw [km.1 47 rfl]; exact D2
      · rw [kc.1 43 rfl]; exact D3
      · rw [kc.1 47 rfl]; exact D4
      · rw [kc.1 21 rfl]; exact D5
      · rw [kc.1 6 rfl]; exact D7
      · rw [km.1 60 rfl]; exact D8
      · rw [km.1 70 rfl]; exact D9
    · rw [kc.1 6 rfl]
      exact R
    · rw [km.1 54 rfl]
      exact a2
    · rw [kc.1 29 rfl, km.1 51 rfl]
      exact ⟨b1, b2, b3⟩
    · rw [e42, e15, hx, c1]
      exact ⟨rfl, by rw [← hx]; omega, by rw [← hx]; omega⟩
    · have k0 := kc0 z
      rw [k0.1 41 rfl, k0.2 34 rfl]
      exact d1 z
    · obtain ⟨y1, y2, y3⟩ := d2 z
      rw [km.1 50 rfl, kc.1 48 rfl, km.1 53 rfl, kc.1 50 rfl, km.1 52 rfl, kc.1 49 rfl]
      exact ⟨y1, y2, y3.cut ht⟩
  rcases S.2.1 with z | z
  · obtain ⟨⟨y1, y2⟩, y3⟩ := d1 z
    refine JP.pp (cp_leave0 y1 y2 (fun j hj w => ?_)) (show PP (mf_ends fu x1 Fm Gm) _ from mp_endsA fu Fm) ?_
    · rw [y3 j hj, c1] at w
      rw [← w] at c2
      exact absurd c2 (by decide)
    · rintro r1 _ _ r2 F2 G2 ⟨rfl, rfl⟩ ⟨k0, k1, k2⟩
      refine fin _ _ _ _ t (KX.f rfl KX.rf) (fun _ => KX.f rfl KX.rf) k0 k1 fup_s k2 (Nat.le_refl _) (fun y => ?_) (fun y => ?_)
      · rw [z] at y
        exact absurd y (by decide)
      · rw [z] at y
        exact absurd y (by decide)
  · obtain ⟨-, g2, g3, g4, g5, -⟩ := S.2.2.2.2.2 z
    have q6 := g3.2.2.1
    refine JP.pp (cp_leave (c := q + t) (by have := g3.2.1; omega) (by omega) g5 (jSE.rng g2 g3)) (mp_endsL g3.1 (by omega)) ?_
    rintro r1 F1 G1 r2 F2 G2 ⟨k1, k2, cc, k3, k4, k5, k6, k7⟩ ⟨rfl, l1, l2, t1, l3, l4, l5, l6⟩
    refine fin F1 G1 F2 Gm t1 k1 (fun y => ?_) rfl l1 k2 l2 l3 (fun _ => jLv g2 g3 g4 (by omega) hx k1 k2 k3 k4 k5 k6 k7 l1 l2 l3 l4 l5 l6) (fun _ => ⟨l3, l5, l6⟩)
    rw [z] at y
    exact absurd y (by decide)
end JW5
