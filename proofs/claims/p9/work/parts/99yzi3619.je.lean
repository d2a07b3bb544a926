theorem cE_t {G G1 G2 : PG} {k : Nat} (a : cEq G G1 k) (b : cEq G1 G2 k) : cEq G G2 k := ⟨b.1.trans a.1, b.2.1.trans a.2.1, b.2.2.1.trans a.2.2.1, b.2.2.2.trans a.2.2.2⟩
theorem cE_g {G : PG} {h k : Nat} {v : Int32} (hk : k ≠ h) : cEq G (gup G 57 h v) k := ⟨gup_ne hk, gup_ne hk, gup_ne hk, gup_ne hk⟩
theorem g57_o {G : PG} {h k a : Nat} {v : Int32} (ha : a ≠ 57) : gup G 57 h v a k = G a k := by rw [gup_o ha]
section JE19
variable {fu : Nat}
theorem mp_bind1 {F : PF} {G : PG} (h : 1 < (G 68 (F 70 - 1).toNatClampNeg).toInt) : PP (mf_binds fu F G) (fun _ F' G' => EMM 10 (G 67 (F 70 - 1).toNatClampNeg) 0 (fup F 70 (F 70 - 1)) G F' G') := by
  have l1 : (1 : Int32).toInt = 1 := rfl
  unfold mf_binds mb_binds_0 mb_binds_10
  rw [fup_s]
  refine PP.ix (fun _ => ?_)
  rw [if_neg (show ¬ G 68 (F 70 - 1).toNatClampNeg ≤ 1 from fun z => absurd (i_le.mp z) (by omega))]
  unfold mb_binds_25
  rw [fup_s]
  refine PP.ix (fun _ => PP.bind (mp_em 10 _ 0 _ G) ?_)
  rintro r F' G' ⟨m0, m1, m2, m3⟩
  dsimp only
  unfold mb_binds_41
  exact PP.ret m2
theorem mp_bind2 {F : PF} {G : PG} {hh : Nat} (h : (G 68 (F 70 - 1).toNatClampNeg).toInt ≤ 1) (h69 : G 69 (F 70 - 1).toNatClampNeg = nI hh) (h9 : hh < 9000) : PP (mf_binds fu F G) (fun _ F' G' => KX [60] [56, 57, 58, 59] (fup F 70 (F 70 - 1)) G F' G' ∧ (F' 60).toInt = (F 60).toInt + 3 ∧ (hh < sN F → (∀ k : Nat, k < sN F → k ≠ hh → cEq G G' k) ∧ (G' 56 hh = G 56 hh ∧ G' 57 hh = nI (sN F + 2) ∧ G' 58 hh = G 58 hh ∧ G' 59 hh = G 59 hh) ∧ G' 56 (sN F) = 23 ∧ G' 56 (sN F + 1) = 12 ∧ G' 57 (sN F + 1) = nI (sN F + 3) ∧ G' 56 (sN F + 2) = 0 ∧ G' 57 (sN F + 2) = 1 - G 68 (F 70 - 1).toNatClampNeg)) := by
  have l1 : (1 : Int32).toInt = 1 := rfl
  have hn : (nI hh).toNatClampNeg = hh := by
    show (nI hh).toInt.toNat = hh
    rw [nI_toInt (by omega)]
    omega
  unfold mf_binds mb_binds_0 mb_binds_10
  rw [fup_s]
  refine PP.ix (fun _ => ?_)
  rw [if_pos (show G 68 (F 70 - 1).toNatClampNeg ≤ 1 from i_le.mpr (by omega))]
  unfold mb_binds_43
  refine PP.bind (mp_em 23 0 0 _ G) ?_
  rintro r1 F1 G1 ⟨-, ⟨-, z0⟩, m1, -⟩
  dsimp only
  unfold mb_binds_51
  refine PP.bind (mp_em 12 0 0 F1 G1) ?_
  rintro r2 F2 G2 ⟨e2, ⟨-, z1⟩, m2, -⟩
  dsimp only
  unfold mb_binds_60
  refine PP.ix (fun _ => PP.ix (fun _ => ?_))
  have f70 : F2 70 = F 70 - 1 := by rw [m2.1.1 70 rfl, m1.1.1 70 rfl, fup_s]
  have g69 : G2 69 (F2 70).toNatClampNeg = nI hh := by rw [f70, m2.1.2 69 rfl, m1.1.2 69 rfl]; exact h69
  rw [g69, hn]
  unfold mb_binds_79
  refine PP.bind (mp_em 0 _ 0 F2 _) ?_
  rintro r4 F4 G4 ⟨-, ⟨-, z2⟩, m4, -⟩
  dsimp only
  unfold mb_binds_88 mb_binds_99
  refine PP.ix (fun _ => ?_)
  have f60 : fup F 70 (F 70 - 1) 60 = F 60 := fup_n (by decide)
  have s0 : sN (fup F 70 (F 70 - 1)) = sN F := by show (fup F 70 (F 70 - 1) 60).toNatClampNeg = _; rw [f60]
  have s1 : sN F1 = sN F + 1 := by rw [m1.sn z0, s0]
  have s2 : sN F2 = sN F + 2 := by rw [m2.sn z1, s1]
  have s4 : sN F4 = sN F + 3 := by rw [m4.sn z2, s2]
  have t1 := m1.2.1
  rw [f60] at t1
  have t2 := m2.2.1
  have t4 := m4.2.1
  rw [show r2.toNatClampNeg = sN F + 1 by rw [e2]; exact s1]
  have n2 : F2 60 = nI (sN F + 2) := by rw [← s2]; exact (jnI z2).symm
  have n4 : F4 60 = nI (sN F + 3) := by rw [← s4]; exact (jnI (by omega)).symm
  refine PP.ret ⟨?_, by omega, fun hl => ?_⟩
  · refine KX.g rfl (KX.tr (KX.g rfl (KX.tr (KX.tr KX.rf m1.1 rfl rfl) m2.1 rfl rfl)) m4.1 rfl rfl)
  · obtain ⟨-, -, a1, a2, a3, a4⟩ := m1
    obtain ⟨-, -, b1, b2, b3, b4⟩ := m2
    obtain ⟨-, -, c1, c2, c3, c4⟩ := m4
    rw [s0] at a1 a2 a3 a4
    rw [s1] at b1 b2 b3 b4
    rw [s2] at c1 c2 c3 c4
    have low : ∀ k : Nat, k < sN F → k ≠ hh → cEq G (gup G4 57 (sN F + 1) (F4 60)) k := fun k hk kh => cE_t (cE_t (cE_t (cE_t (a1 k (by omega)) (b1 k (by omega))) (cE_g kh)) (c1 k (by omega))) (cE_g (by omega))
    have ch := c1 hh (by omega)
    have bh := cE_t (a1 hh (by omega)) (b1 hh (by omega))
    refine ⟨low, ⟨?_, ?_, ?_, ?_⟩, ?_, ?_, ?_, ?_, ?_⟩
    · rw [g57_o (by decide), ch.1, g57_o (by decide)]
      exact bh.1
    · rw [gup_x (show hh ≠ sN F + 1 by omega), ch.2.1, gup_i]
      exact n2
    · rw [g57_o (by decide), ch.2.2.1, g57_o (by decide)]
      exact bh.2.2.1
    · rw [g57_o (by decide), ch.2.2.2, g57_o (by decide)]
      exact bh.2.2.2
    · rw [g57_o (by decide), (c1 (sN F) (by omega)).1, g57_o (by decide), (b1 (sN F) (by omega)).1]
      exact a2
    · rw [g57_o (by decide), (c1 (sN F + 1) (by omega)).1, g57_o (by decide)]
      exact b2
    · rw [gup_i]
      exact n4
    · rw [g57_o (by decide)]
      exact c2
    · rw [gup_x (show sN F + 2 ≠ sN F + 1 by omega)]
      exact c3
end JE19
section JE19b
variable {X : JCX} {p : Int32} {N K n q nf t i j : Nat} {d κ : Int} {s s1 : SH} {hs : List JHO} {Fc Fm F1 F2 F3 F4 : PF} {Gc Gm G1 G2 G3 G4 G5 : PG}
/-- || and && come to their end -/
theorem jAl.lg {x : JHO} {v : Int32} (hp : p = 0 ∨ p = 1) (h7 : F1 7 = 0 ∨ F1 7 = 1) (hp1 : p = 1 → F1 7 = 1) (h : jAl X p N i j d κ s (0 :: s1) (x :: hs) Fc Gc Fm Gm F1 G1 F2 G2) (c : EMC [65] F1 G1 F3 G3) (g0 : p = 0 → G3 = G5) (g1 : p = 1 → G5 = gup G3 5 x.2.1 (F3 6)) (hx : x.2.2.1 = 0 :: s1) (ty : (x.2.2.2.1 = 2 ∧ v = 1) ∨ (x.2.2.2.1 = 3 ∧ v = 0)) (hy : x.2.2.2.2.1 = 0) (m1 : KX [60] [56, 57, 58, 59] F2 G2 F4 G4) (m2 : (F4 60).toInt = (F2 60).toInt + 3) (m3 : x.1 < sN F2 → (∀ k : Nat, k < sN F2 → k ≠ x.1 → cEq G2 G4 k) ∧ (G4 56 x.1 = G2 56 x.1 ∧ G4 57 x.1 = nI (sN F2 + 2) ∧ G4 58 x.1 = G2 58 x.1 ∧ G4 59 x.1 = G2 59 x.1) ∧ G4 56 (sN F2) = 23 ∧ G4 56 (sN F2 + 1) = 12 ∧ G4 57 (sN F2 + 1) = nI (sN F2 + 3) ∧ G4 56 (sN F2 + 2) = 0 ∧ G4 57 (sN F2 + 2) = v) : jAl X p N i j d (κ + 1) s (0 :: s1) hs Fc Gc Fm Gm F3 G5 F4 G4 := by
  obtain ⟨⟨k1, k2⟩, ⟨D1, ⟨D2, D3, D4⟩, ⟨D5, D6⟩, D7, D8, D9⟩, a4, a5, ⟨a6, a6'⟩, ⟨a7, a7'⟩, a8, a9⟩ := id h
  obtain ⟨x1, x2, x3⟩ := id c
  have kc : KX [6] [5] F1 G1 F3 G5 := by
    rcases hp with z | z
    · rw [← g0 z]
      exact x1
    · rw [g1 z]
      exact KX.g rfl x1
  have c6 : 0 ≤ (F3 6).toInt ∧ (F3 6).toInt ≤ (F1 6).toInt + 1 := by
    rcases h7 with z | z
    · rw [(x2 z).1]
      omega
    · have : (F3 6).toInt = (F1 6).toInt + ((1 : Nat) : Int) := (x3 z).1
      omega
  refine ⟨⟨KX.tr k1 kc rfl rfl, KX.tr k2 m1 rfl rfl⟩, ⟨?_, ⟨?_, ?_, ?_⟩, ⟨?_, ?_⟩, c6.1, by omega, ?_⟩, a4, ?_, ⟨?_, ?_⟩, ⟨?_, ?_⟩, by omega, fun q => ⟨(m1.1 55 rfl).trans (a9 q).1, fun mu A h1 h2 => ?_⟩⟩
  · unfold CU at D1 ⊢
    rw [kc.1 9 rfl, m1.1 42 rfl, kc.1 10 rfl, m1.1 43 rfl, kc.1 14 rfl, m1.1 44 rfl, kc.1 11 rfl, kc.1 12 rfl, kc.1 13 rfl, kc.2 90 rfl, kc.2 91 rfl, kc.2 92 rfl]
    exact D1
  · rw [m1.1 47 rfl]; exact D2
  · rw [kc.1 43 rfl]; exact D3
  · rw [kc.1 47 rfl]; exact D4
  · rw [kc.1 21 rfl]; exact D5
  · rw [kc.1 21 rfl, m1.2 6 rfl]; exact D6
  · rw [m1.1 70 rfl]; exact D9
  · rw [kc.1 10 rfl]; exact a5
  · rw [kc.1 21 rfl]; exact a6
  · intro k hk
    rw [kc.2 20 rfl]
    exact a6' k hk
  · rw [m1.1 70 rfl]; exact a7
  · intro k hk
    rw [m1.2 67 rfl, m1.2 68 rfl, m1.2 69 rfl]
    exact a7' k hk
  · have z := hp1 q
    have ju := (a9 q).2 mu A h1 h2
    have hole := h.hole q (List.mem_cons_self ..)
    have g57 : G2 57 x.1 = 0 := by
      obtain ⟨mu1, A1, l0, -, -, -, -, -, b9, -⟩ := id ju
      exact (b9 x (List.mem_cons_self ..)).2.2.2.2.1.trans hy
    obtain ⟨⟨-, hh2⟩, -, -⟩ := hole
    obtain ⟨n1, ⟨n2, n3, n4, n5⟩, n6, n7, n8, n9, na⟩ := m3 hh2
    have t0 : JX X Fc Gc Fm Gm mu A F3 G3 F4 (gup G4 57 x.1 0) (0 :: s1) (x :: hs) [] := by
      refine ju.tru ?_ (c.wn z D7) (fun k hk => ?_) (x3 z).2.1 ?_ ?_ ?_ ((x3 z).2.2 0 65 rfl)
      · show (F4 60).toInt.toNat = (F2 60).toInt.toNat + 3
        omega
      · by_cases e : k = x.1
        · rw [e]
          exact ⟨(g57_o (by decide)).trans n2, gup_i.trans g57.symm, (g57_o (by decide)).trans n4, (g57_o (by decide)).trans n5⟩
        · exact cE_t (n1 k hk e) (cE_g e)
      · rw [g57_o (by decide)]; exact n6
      · rw [g57_o (by decide)]; exact n7
      · rw [gup_x (show sN F2 + 1 ≠ x.1 by omega)]; exact n8
    refine JX.patch (l1 := []) (l2 := hs) (x := x) (t := sN F2 + 2) (w := wN F3) t0 (.inr ⟨jBg.of h1, ?_, by omega, rfl, hx, ?_, ?_⟩) rfl rfl (fun k hk => ?_) ?_ n3 (fun m hm => ?_) ?_
    · show (F4 60).toInt.toNat = (F2 60).toInt.toNat + 2 + 1
      omega
    · rw [g57_o (by decide)]; exact n9
    · rw [gup_x (show sN F2 + 2 ≠ x.1 by omega), na]
      exact ty
    · obtain ⟨y1, y2, y3, y4⟩ := cE_g (G := G4) (h := x.1) (v := 0) hk
      exact ⟨y1.symm, y2.symm, y3.symm, y4.symm⟩
    · exact (g57_o (by decide)).symm
    · rw [g1 q]
      exact gup_x hm
    · rw [g1 q, gup_i]
      exact (jnI c6.1).symm
end JE19b
