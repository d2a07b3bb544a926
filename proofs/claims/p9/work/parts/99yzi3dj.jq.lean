abbrev jcA : List Nat := [56, 57, 58, 59, 60, 61, 62, 63, 64, 65, 66, 69, 70, 72, 300]
abbrev jcB : List Nat := [54, 55, 71]
section JQJ0
variable {F0 F : PF} {G0 G : PG} {φ k t1 f : Nat}
/-- the types of p2 at a step: where a jump goes, what is called -/
theorem CUR.tt (hP : PRG F0 G0) (h : CUR F0 G0 F G φ) (ek : F 76 = nI k) (k8 : k < 100000) : ∃ (n : Nat) (A : AN) (m : Nat), (F 85).toInt = n + 1 ∧ TYP F0 G0 (G 91 n).toNatClampNeg A m ∧ (G0 30 (G 91 n).toNatClampNeg).toInt.toNat ≤ k ∧ k < m ∧ (F 72).toInt ≤ 280000 := by
  obtain ⟨n, a0, d0, t0, A, m, c, ⟨p0, p1, p2⟩, ht, hv, -⟩ := h
  have b := c.bd hP
  have ty := c.2.2.2.2.2.2.1
  have e : (F 76).toInt.toNat = k := by rw [ek, nI_toInt (by omega)]; omega
  rw [e] at p1 p2 ht
  have tt := ty.2.2.2.1 k p1 p2
  refine ⟨n, A, m, c.2.1, ty, p1, p2, ?_⟩
  have := tt.1
  omega
theorem CUR.jmp (hP : PRG F0 G0) (h : CUR F0 G0 F G φ) (ek : F 76 = nI k) (k8 : k < 100000) (e : G0 56 k = 12 ∨ G0 56 k = 13 ∨ G0 56 k = 14) (et : G0 57 k = nI t1) (t8 : t1 < 100000) : ∃ n : Nat, (F 85).toInt = n + 1 ∧ (G0 30 (G 91 n).toNatClampNeg).toInt.toNat ≤ t1 := by
  obtain ⟨n, A, m, e1, ty, p1, p2, -⟩ := h.tt hP ek k8
  refine ⟨n, e1, ?_⟩
  have tt := ty.2.2.2.1 k p1 p2
  have tI : (nI t1).toInt.toNat = t1 := by rw [nI_toInt (by omega)]; omega
  obtain ⟨l6, tt⟩ := tt
  rw [et, tI] at tt
  have w0 : ∀ z : Int32, G0 56 k = z → (z = 12 ∨ z = 13 ∨ z = 14) := fun z hz => by rw [hz] at e; exact e
  rcases tt with ⟨s1, o, -⟩ | ⟨-, -, q⟩ | ⟨-, s0, q1, -, q, -⟩ | ⟨-, o⟩
  · exfalso
    rcases o with ⟨o, -⟩ | ⟨o, -⟩ | ⟨o, -⟩ | ⟨o, -⟩ | ⟨-, o⟩
    · exact absurd (w0 _ o) (by decide)
    · exact absurd (w0 _ o) (by decide)
    · exact absurd (w0 _ o) (by decide)
    · exact absurd (w0 _ o) (by decide)
    · rcases o with ⟨o, -⟩ | ⟨o, -⟩ | ⟨o, -⟩ | ⟨o, -⟩ | ⟨o, -⟩ | ⟨o, -⟩ | ⟨o, -⟩ | ⟨o, -⟩ | ⟨o, -⟩ | ⟨o, -⟩ | ⟨o, -⟩ | ⟨o, -⟩ | ⟨o, -⟩ <;> exact absurd (w0 _ o) (by decide)
  · exact (ty.len q.1 (by rw [q.2.1]; omega)).1
  · refine (ty.len q.1 ?_).1
    rw [q.2.1]
    rw [q1] at l6
    have l6 : s0.length + 1 ≤ 600 := l6
    omega
  · exfalso
    rcases o with ⟨o, -⟩ | ⟨o, -⟩ | ⟨o, -⟩ | ⟨o, -⟩ <;> exact absurd (w0 _ o) (by decide)
theorem CUR.f16 (hP : PRG F0 G0) (h : CUR F0 G0 F G φ) (ek : F 76 = nI k) (k8 : k < 100000) (e : G0 56 k = 15) (e1 : G0 56 (k + 1) = 16) (ef : G0 57 (k + 1) = nI f) (f8 : f < 2147483648) : (f : Int) < (F0 24).toInt := by
  obtain ⟨n, A, m, e2, ty, p1, p2, -⟩ := h.tt hP ek k8
  have l1 : ∀ z : Int32, G0 56 k = z → z = 15 := fun z hz => by rw [hz] at e; exact e
  have l2 : ∀ z : Int32, G0 56 (k + 1) = z → z = 16 := fun z hz => by rw [hz] at e1; exact e1
  have nx : k + 1 ≤ m ∧ (A (k + 1)).1.length ≤ 600 := by
    obtain ⟨l6, tt⟩ := ty.2.2.2.1 k p1 p2
    rcases tt with ⟨s1, o, -⟩ | ⟨o, -⟩ | ⟨o | o, -⟩ | ⟨-, o⟩
    · exfalso
      rcases o with ⟨o, -⟩ | ⟨o, -⟩ | ⟨o, -⟩ | ⟨o, -⟩ | ⟨-, o⟩
      · exact absurd (l1 _ o) (by decide)
      · exact absurd (l1 _ o) (by decide)
      · exact absurd (l1 _ o) (by decide)
      · exact absurd (l1 _ o) (by decide)
      · rcases o with ⟨o, -⟩ | ⟨o, -⟩ | ⟨o, -⟩ | ⟨o, -⟩ | ⟨o, -⟩ | ⟨o, -⟩ | ⟨o, -⟩ | ⟨o, -⟩ | ⟨o, -⟩ | ⟨o, -⟩ | ⟨o, -⟩ | ⟨o, -⟩ | ⟨o, -⟩ <;> exact absurd (l1 _ o) (by decide)
    · exact absurd (l1 _ o) (by decide)
    · exact absurd (l1 _ o) (by decide)
    · exact absurd (l1 _ o) (by decide)
    · rcases o with ⟨-, o2, o3⟩ | ⟨o, -⟩ | ⟨o, -⟩ | ⟨o, -⟩
      · exact ⟨o2, by rw [o3]; exact l6⟩
      · exact absurd (l1 _ o) (by decide)
      · exact absurd (l1 _ o) (by decide)
      · exact absurd (l1 _ o) (by decide)
  obtain ⟨n1, n2⟩ := ty.len nx.1 (by omega)
  obtain ⟨l6, tt⟩ := ty.2.2.2.1 (k + 1) n1 n2
  rcases tt with ⟨s1, o, -⟩ | ⟨o, -⟩ | ⟨o | o, -⟩ | ⟨-, o⟩
  · exfalso
    rcases o with ⟨o, -⟩ | ⟨o, -⟩ | ⟨o, -⟩ | ⟨o, -⟩ | ⟨-, o⟩
    · exact absurd (l2 _ o) (by decide)
    · exact absurd (l2 _ o) (by decide)
    · exact absurd (l2 _ o) (by decide)
    · exact absurd (l2 _ o) (by decide)
    · rcases o with ⟨o, -⟩ | ⟨o, -⟩ | ⟨o, -⟩ | ⟨o, -⟩ | ⟨o, -⟩ | ⟨o, -⟩ | ⟨o, -⟩ | ⟨o, -⟩ | ⟨o, -⟩ | ⟨o, -⟩ | ⟨o, -⟩ | ⟨o, -⟩ | ⟨o, -⟩ <;> exact absurd (l2 _ o) (by decide)
  · exact absurd (l2 _ o) (by decide)
  · exact absurd (l2 _ o) (by decide)
  · exact absurd (l2 _ o) (by decide)
  · rcases o with ⟨o, -⟩ | ⟨-, -, o1, o2, -⟩ | ⟨o, -⟩ | ⟨o, -⟩
    · exact absurd (l2 _ o) (by decide)
    · rw [ef, nI_toInt (by omega)] at o2
      have o2 : (f : Int) < (((F0 24).toInt.toNat : Nat) : Int) := o2
      omega
    · exact absurd (l2 _ o) (by decide)
    · exact absurd (l2 _ o) (by decide)
theorem CUR.le2 (hP : PRG F0 G0) (h : CUR F0 G0 F G φ) : φ ≤ 40000000 := by
  obtain ⟨n, a0, d0, t0, A, m, c, ⟨p0, p1, p2⟩, ht, hv, rfl⟩ := h
  have b := c.bd hP
  have ty := c.2.2.2.2.2.2.1
  have cn := c.2.2.2.2.2.2.2.1
  have ma := mA.le (A := A) (k := (F 76).toInt.toNat) (ty.m8 hP)
  unfold PHI
  by_cases e : (A (F 76).toInt.toNat).2.2 = true
  · rw [if_pos e]; omega
  · rw [if_neg e]; omega
end JQJ0
/-- counters, outputs, inputs -/
def jK (F1 : PF) (G1 : PG) (F2 : PF) (G2 : PG) : Prop := (F1 62 = F2 78 ∧ F1 64 = F2 77 ∧ F1 67 = F2 84) ∧ jOu F1 G1 F2 G2 ∧ jIp F1 G1 F2 G2
/-- the WORDs of all -/
def jGm (gl : JLY) (G1 G2 : PG) : Prop := ∃ H : JHP, jHp H 0 (G2 90) (G1 54) ∧ ∀ c w x, H 0 c w x ↔ (x.1 ≤ 4 ∧ jAt gl c w x)
/-- both go on -/
def jInv (S : JST) (gl : JLY) (Fc : PF) (Gc : PG) (Fm : PF) (Gm : PG) (F1 : PF) (G1 : PG) (F2 : PF) (G2 : PG) : Prop := (KX jcA jcB Fc Gc F1 G1 ∧ KX wkA wkB Fm Gm F2 G2) ∧ jRg S gl F1 G1 F2 G2 ∧ jK F1 G1 F2 G2 ∧ F1 61 = 1 ∧ F1 63 = 1 ∧ F2 75 = 1 ∧ F1 66 = -1 ∧ F1 65 = 0
/-- place and value -/
def jPv (F1 F2 : PF) : Prop := (F2 75 = 5 ∨ F2 75 = 6 → F1 66 = F2 82) ∧ (¬ (F2 75 = 5 ∨ F2 75 = 6) → F1 66 = -1) ∧ (F2 75 = 4 → F1 65 = F2 81) ∧ (¬ (F2 75 = 3 ∨ F2 75 = 4) → F1 65 = 0)
/-- both have stopped -/
def jStp (S : JST) (gl : JLY) (F1 : PF) (G1 : PG) (F2 : PF) (G2 : PG) : Prop := jK F1 G1 F2 G2 ∧ F1 63 = F2 75 ∧ F1 59 = F2 83 + 2000 ∧ jGm gl G1 G2 ∧ jPv F1 F2 ∧ ((F2 75 = 1 ∨ F2 75 = 2) → jRg S gl F1 G1 F2 G2)
def jStx (S : JST) (gl : JLY) (Fc : PF) (Gc : PG) (Fm : PF) (Gm : PG) (F1 : PF) (G1 : PG) (F2 : PF) (G2 : PG) : Prop := (KX jcA jcB Fc Gc F1 G1 ∧ KX wkA wkB Fm Gm F2 G2) ∧ F1 61 = 0 ∧ jStp S gl F1 G1 F2 G2
section JQJ
variable {fu : Nat} {S : JST} {gl : JLY} {K : Nat → List Nat} {nf B WB : Nat} {Fc Fm F1 F2 F3 F4 : PF} {Gc Gm G1 G2 G3 G4 : PG}
theorem jRg.gm (h : jRg S gl F1 G1 F2 G2) : jGm gl G1 G2 ∧ F1 59 = F2 83 + 2000 := by
  obtain ⟨-, H, n, g, a, b, mu, A, le, cb, wb, t, k, s, l, R⟩ := h
  have g0 := jFS.geo (jH0 R.2.2.2.2.2.2.2.2.2.2.2.1 R.2.2.2.2.2.2.2.2.2.2.2.2.1) n cb wb t R.1
  have b2 := R.2.2.2.2.2.2.2.2.2.2.2.2.2.1
  refine ⟨⟨H, R.2.2.2.2.2.2.2.2.2.2.1.le (Nat.zero_le _), R.2.2.2.2.2.2.2.2.2.2.2.1⟩, ?_⟩
  rw [R.2.2.2.2.2.2.1.2, R.2.2.2.2.2.1.2.2.2]
  have : nI (wb + 4 + jsW le - 2000) + 2000 = nI (wb + 4 + jsW le - 2000 + 2000) := nI_ad (b := 2000) (by omega)
  rw [this]
  exact congrArg nI (by omega)
theorem jK.kx {a b c d : List Nat} (h : jK F1 G1 F2 G2) (kc : KX a b F1 G1 F3 G3) (km : KX c d F2 G2 F4 G4) (e1 : (a.contains 62 || a.contains 64 || a.contains 67 || a.contains 72 || a.contains 69 || a.contains 70 || b.contains 71 || b.contains 68) = false) (e2 : (c.contains 78 || c.contains 77 || c.contains 84 || c.contains 79 || c.contains 80 || d.contains 89 || d.contains 88) = false) : jK F3 G3 F4 G4 := by
  simp only [Bool.or_eq_false_iff] at e1 e2
  obtain ⟨⟨⟨⟨⟨⟨⟨a1, a2⟩, a3⟩, a4⟩, a5⟩, a6⟩, a7⟩, a8⟩ := e1
  obtain ⟨⟨⟨⟨⟨⟨b1, b2⟩, b3⟩, b4⟩, b5⟩, b6⟩, b7⟩ := e2
  unfold jK jOu jIp
  rw [kc.1 62 a1, kc.1 64 a2, kc.1 67 a3, kc.1 72 a4, kc.1 69 a5, kc.1 70 a6, kc.2 71 a7, kc.2 68 a8, km.1 78 b1, km.1 77 b2, km.1 84 b3, km.1 79 b4, km.1 80 b5, km.2 89 b6, km.2 88 b7]
  exact h
/-- a good step, or a wrong index: what comes of it -/
theorem jInv.o1 {r : Int32} (I : jInv S gl Fc Gc Fm Gm F1 G1 F2 G2) (h : jO1 S gl F1 G1 F2 G2 F3 G3 r F4 G4) : (r = 1 ∧ jInv S gl Fc Gc Fm Gm F3 G3 F4 G4) ∨ (r = 0 ∧ jStx S gl Fc Gc Fm Gm F3 G3 F4 G4) := by
  obtain ⟨⟨kc, km⟩, rg, ik, i61, i63, i75, i66, i65⟩ := I
  rcases h with ⟨rr, h1, h2, h3⟩ | ⟨rr, pl, ⟨c1, c2, c3, c4⟩, m1, m2, m3⟩
  · refine .inl ⟨rr, ⟨KX.tr kc h2 rfl rfl, KX.tr km h3 rfl rfl⟩, h1, ik.kx h2 h3 rfl rfl, ?_, ?_, ?_, ?_, ?_⟩
    · rw [h2.1 61 rfl]; exact i61
    · rw [h2.1 63 rfl]; exact i63
    · rw [h3.1 75 rfl]; exact i75
    · rw [h2.1 66 rfl]; exact i66
    · rw [h2.1 65 rfl]; exact i65
  · obtain ⟨g1, g2⟩ := rg.gm
    refine .inr ⟨rr, ⟨KX.tr kc c1 rfl rfl, KX.tr km m1 rfl rfl⟩, c2, ik.kx c1 m1 rfl rfl, c3.trans m2.symm, ?_, ?_, ⟨fun _ => c4.trans m3.symm, fun z => absurd (.inl m2) z, fun z => absurd (m2.symm.trans z) (by decide), fun _ => ?_⟩, fun z => ?_⟩
    · rw [c1.1 59 rfl, m1.1 83 rfl]; exact g2
    · unfold jGm
      rw [c1.2 54 rfl, m1.2 90 rfl]; exact g1
    · rw [c1.1 65 rfl]; exact i65
    · rw [m2] at z
      exact absurd z (by decide)
end JQJ
