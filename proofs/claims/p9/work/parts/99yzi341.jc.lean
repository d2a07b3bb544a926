section JC1
variable {fu : Nat} {N K n i : Nat} {Fc Fm : PF} {Gc Gm : PG}
theorem CU.sg (T : TKE N K n Fc Gc Fm Gm) (c : CU N i Fc Gc Fm Gm) {w : Nat} (hw : w < 45) {a b : Int32} (ha : a = kS w) (hb : b = nI w) : Fc 11 = a ↔ sgn (Gm 4) (Gm 5) (Fm 42) b = true := by
  rw [ha, hb]
  unfold sgn
  rw [c.ix T]
  exact ((c.tk T).sign hw).trans (by simp)
theorem CU.wd (T : TKE N K n Fc Gc Fm Gm) (c : CU N i Fc Gc Fm Gm) {w : Nat} (hw : w < 15) {a b : Int32} (ha : a = nI (4 + w)) (hb : b = nI w) : Fc 11 = a ↔ wdn (Gm 4) (Gm 5) (Fm 42) b = true := by
  rw [ha, hb]
  unfold wdn
  rw [c.ix T]
  exact ((c.tk T).word hw).trans (by simp)
theorem CU.nm (T : TKE N K n Fc Gc Fm Gm) (c : CU N i Fc Gc Fm Gm) : Fc 11 = 2 ↔ Gm 4 (Fm 42).toNatClampNeg = 1 := by
  rw [c.ix T]
  exact (c.tk T).nam
theorem CU.nu (T : TKE N K n Fc Gc Fm Gm) (c : CU N i Fc Gc Fm Gm) : Fc 11 = 3 ↔ Gm 4 (Fm 42).toNatClampNeg = 3 := by
  rw [c.ix T]
  exact (c.tk T).num
theorem CU.ltS (T : TKE N K n Fc Gc Fm Gm) (c : CU N i Fc Gc Fm Gm) {b : Int32} (h : sgn (Gm 4) (Gm 5) (Fm 42) b = true) : i < N := by
  have q := (of_decide_eq_true h).1
  rw [c.ix T] at q
  exact c.lt T (by rw [q]; decide)
theorem CU.ltW (T : TKE N K n Fc Gc Fm Gm) (c : CU N i Fc Gc Fm Gm) {b : Int32} (h : wdn (Gm 4) (Gm 5) (Fm 42) b = true) : i < N := by
  have q := (of_decide_eq_true h).1
  rw [c.ix T] at q
  exact c.lt T (by rw [q]; decide)
theorem CU.ltN (T : TKE N K n Fc Gc Fm Gm) (c : CU N i Fc Gc Fm Gm) {b : Int32} (h : Gm 4 (Fm 42).toNatClampNeg = b) (hb : ¬ b = 0) : i < N := by
  rw [c.ix T] at h
  exact c.lt T (by rw [h]; exact hb)
/-- both have gone on -/
def jOn (N j : Nat) (d : Int) (Fc : PF) (Gc : PG) (Fm : PF) (Gm : PG) (F1 : PF) (G1 : PG) (F2 : PF) (G2 : PG) : Prop := CKc Fc Gc F1 G1 ∧ MK Fm Gm F2 G2 ∧ CU N j F1 G1 F2 G2 ∧ (F1 10).toInt = (Fc 10).toInt + d
theorem ret_el {r r1 : Int32} {F F1 : PF} {G G1 : PG} (h : some (r, F, G) = some (r1, F1, G1)) : r = r1 ∧ F = F1 ∧ G = G1 := by
  have h := Option.some.inj h
  cases h
  exact ⟨rfl, rfl, rfl⟩
/-- the class fails where the reference does -/
theorem CU.fl (T : TKE N K n Fc Gc Fm Gm) (c : CU N i Fc Gc Fm Gm) {F0 F1 F2 : PF} {G1 G2 : PG} {k r : Int32} (k0 : 1 ≤ k.toInt) (k1 : k.toInt ≤ 15) (kx : KX [10] [] Fc Gc F0 Gc) (e1 : cf_X2_fail fu k F0 Gc = some (r, F1, G1)) (f : FLT Fm F2 Gm G2) : DEAD F1 F2 := by
  have p := c.place T
  have e13 : F0 13 = Fc 13 := kx.1 13 rfl
  obtain ⟨-, -, q1, q2⟩ := cp_fail k0 k1 (by rw [e13]; exact p.1) (by rw [e13]; omega) r F1 G1 e1
  exact CU.dead q1 q2 f.1
theorem jo_sign (T : TKE N K n Fc Gc Fm Gm) (c : CU N i Fc Gc Fm Gm) {w : Nat} (hw : w < 45) {a b : Int32} (ha : a = kS w) (hb : b = nI w) : JP (cf_X2_expect fu a Fc Gc) (mf_sign fu b Fm Gm) (fun _ F1 G1 r2 F2 G2 => (r2 = 1 ∧ sgn (Gm 4) (Gm 5) (Fm 42) b = true ∧ jOn N (i + 1) 0 Fc Gc Fm Gm F1 G1 F2 G2) ∨ DEAD F1 F2) := by
  intro r1 F1 G1 r2 F2 G2 e1 e2
  have sg := c.sg T hw ha hb
  have m := mp_sign b Fm Gm r2 F2 G2 e2
  unfold cf_X2_expect cb_X2_expect_0 cb_X2_expect_8 cb_X2_expect_18 cb_X2_expect_21 cb_X2_expect_26 at e1
  by_cases q : Fc 11 = a
  · rw [if_pos q] at e1
    obtain ⟨⟨r, F', G'⟩, e3, e4⟩ := bind_elim e1
    dsimp only at e4
    obtain ⟨-, rfl, rfl⟩ := ret_el e4
    rcases m with ⟨m1, rfl, rfl, m4, m5⟩ | ⟨m1, m2, m3⟩
    · obtain ⟨k1, k2, k3⟩ := CU.move T c (c.ltS T m4) KX.rf e3 (F2 := fup Fm 42 (Fm 42 + 1)) fup_s ((fup_n (by decide)).trans c.2.2.2.1.symm) (KX.f rfl KX.rf) c.2.2.2.2.1 c.2.2.2.2.2.1
      rcases k3 with k3 | k3
      · exact .inl ⟨m1, m4, k1, ⟨rfl, KX.f rfl KX.rf⟩, k3, by rw [k2]; omega⟩
      · exact .inr k3
    · exfalso
      rcases m3 with z | z
      · rw [c.2.2.2.2.2.2.2.1] at z
        exact absurd z (by decide)
      · rw [sg.mp q] at z
        cases z
  · rw [if_neg q] at e1
    obtain ⟨⟨r, F', G'⟩, e3, e4⟩ := bind_elim e1
    dsimp only at e4
    obtain ⟨-, rfl, rfl⟩ := ret_el e4
    rcases m with ⟨m1, rfl, rfl, m4, m5⟩ | ⟨m1, m2, m3⟩
    · exact absurd (sg.mpr m4) q
    · exact .inr (c.fl T (by decide) (by decide) KX.rf e3 m2)
theorem jo_name (T : TKE N K n Fc Gc Fm Gm) (c : CU N i Fc Gc Fm Gm) : JP (cf_X2_expect fu 2 Fc Gc) (mf_name fu Fm Gm) (fun _ F1 G1 r2 F2 G2 => (r2 = Fm 42 ∧ Gm 4 i = 1 ∧ Fc 11 = 2 ∧ jOn N (i + 1) 0 Fc Gc Fm Gm F1 G1 F2 G2) ∨ DEAD F1 F2) := by
  intro r1 F1 G1 r2 F2 G2 e1 e2
  have sg := c.nm T
  have m := mp_name Fm Gm r2 F2 G2 e2
  unfold cf_X2_expect cb_X2_expect_0 cb_X2_expect_8 cb_X2_expect_18 cb_X2_expect_21 cb_X2_expect_26 at e1
  by_cases q : Fc 11 = 2
  · rw [if_pos q] at e1
    obtain ⟨⟨r, F', G'⟩, e3, e4⟩ := bind_elim e1
    dsimp only at e4
    obtain ⟨-, rfl, rfl⟩ := ret_el e4
    rcases m with ⟨m1, rfl, rfl, m4, m5, m6⟩ | ⟨m1, m2, m3⟩
    · obtain ⟨k1, k2, k3⟩ := CU.move T c (c.ltN T m4 (by decide)) KX.rf e3 (F2 := fup Fm 42 (Fm 42 + 1)) fup_s ((fup_n (by decide)).trans c.2.2.2.1.symm) (KX.f rfl KX.rf) c.2.2.2.2.1 c.2.2.2.2.2.1
      rcases k3 with k3 | k3
      · exact .inl ⟨m1.trans (i_as _), by rw [c.ix T] at m4; exact m4, q, k1, ⟨rfl, KX.f rfl KX.rf⟩, k3, by rw [k2]; omega⟩
      · exact .inr k3
    · exfalso
      rcases m3 with z | z
      · rw [c.2.2.2.2.2.2.2.1] at z
        exact absurd z (by decide)
      · exact z (sg.mp q)
  · rw [if_neg q] at e1
    obtain ⟨⟨r, F', G'⟩, e3, e4⟩ := bind_elim e1
    dsimp only at e4
    obtain ⟨-, rfl, rfl⟩ := ret_el e4
    rcases m with ⟨m1, rfl, rfl, m4, m5, m6⟩ | ⟨m1, m2, m3⟩
    · exact absurd (sg.mpr m4) q
    · exact .inr (c.fl T (by decide) (by decide) KX.rf e3 m2)
/-- the opening itself, where the token is there -/
theorem CU.opn (T : TKE N K n Fc Gc Fm Gm) (c : CU N i Fc Gc Fm Gm) (hi : i < N) {F1 : PF} {G1 : PG} {r1 : Int32} (e1 : cb_X2_opens_15 fu Fc Gc = some (r1, F1, G1)) : (¬ Fm 43 = 40 → ((r1 = 1 ∧ jOn N (i + 1) 1 Fc Gc Fm Gm F1 G1 (fup (fup Fm 43 (Fm 43 + 1)) 42 (Fm 42 + 1)) Gm) ∨ DEAD F1 (fup (fup Fm 43 (Fm 43 + 1)) 42 (Fm 42 + 1)))) ∧ (Fm 43 = 40 → ∀ (F2 : PF) (G2 : PG), FLT Fm F2 Gm G2 → DEAD F1 F2) := by
  have l40 : (40 : Int32).toInt = 40 := rfl
  have e10 : Fc 10 = Fm 43 := c.2.2.2.1
  have b0 := c.2.2.2.2.1
  have b1 := c.2.2.2.2.2.1
  unfold cb_X2_opens_15 cb_X2_opens_31 cb_X2_opens_41 cb_X2_opens_51 cb_X2_opens_24 cb_X2_opens_29 at e1
  refine ⟨fun q => ?_, fun q F2 G2 f => ?_⟩
  · have z : (Fc 10).toInt < 40 := by
      have := mt i_eq.mpr q
      rw [← e10] at this
      omega
    rw [if_pos (i_lt.mpr (by omega))] at e1
    obtain ⟨⟨r, F', G'⟩, e3, e4⟩ := bind_elim e1
    dsimp only at e4
    obtain ⟨rfl, rfl, rfl⟩ := ret_el e4
    have ea : (Fc 10 + 1).toInt = (Fc 10).toInt + 1 := i_addn _ rfl (by omega) (by omega)
    obtain ⟨k1, k2, k3⟩ := CU.move T c hi (F0 := fup Fc 10 (Fc 10 + 1)) (KX.f rfl KX.rf) e3 (F2 := fup (fup Fm 43 (Fm 43 + 1)) 42 (Fm 42 + 1)) fup_s ((fup_n (by decide)).trans (by rw [fup_s, fup_s, e10])) (KX.f rfl (KX.f rfl KX.rf)) (by rw [fup_s]; omega) (by rw [fup_s]; omega)
    rcases k3 with k3 | k3
    · refine .inl ⟨rfl, k1, ⟨rfl, KX.f rfl (KX.f rfl KX.rf)⟩, k3, ?_⟩
      rw [k2, fup_s]
      exact ea
    · exact .inr k3
  · have z : (Fc 10).toInt = 40 := by
      have := i_eq.mp q
      rw [← e10] at this
      omega
    rw [if_neg (fun y => by have := i_lt.mp y; omega)] at e1
    obtain ⟨⟨r, F', G'⟩, e3, e4⟩ := bind_elim e1
    dsimp only at e4
    obtain ⟨rfl, rfl, rfl⟩ := ret_el e4
    exact c.fl T (by decide) (by decide) KX.rf e3 f
theorem jo_open (T : TKE N K n Fc Gc Fm Gm) (c : CU N i Fc Gc Fm Gm) {w : Nat} (hw : w < 45) {a b : Int32} (ha : a = kS w) (hb : b = nI w) : JP (cf_X2_opens fu a Fc Gc) (mf_openSign fu b Fm Gm) (fun r1 F1 G1 r2 F2 G2 => (r1 = 1 ∧ r2 = 1 ∧ sgn (Gm 4) (Gm 5) (Fm 42) b = true ∧ jOn N (i + 1) 1 Fc Gc Fm Gm F1 G1 F2 G2) ∨ DEAD F1 F2) := by
  intro r1 F1 G1 r2 F2 G2 e1 e2
  have sg := c.sg T hw ha hb
  have m := mp_openSign b Fm Gm r2 F2 G2 e2
  unfold cf_X2_opens cb_X2_opens_0 at e1
  by_cases q : Fc 11 = a
  · rw [if_pos q] at e1
    obtain ⟨o1, o2⟩ := c.opn T (c.ltS T (sg.mp q)) e1
    rcases m with ⟨m1, rfl, rfl, m4, m5, m6⟩ | ⟨m1, m2, m3⟩
    · rcases o1 m5 with ⟨k1, k2⟩ | k3
      · exact .inl ⟨k1, m1, m4, k2⟩
      · exact .inr k3
    · rcases m3 with z | z | ⟨-, z⟩
      · rw [c.2.2.2.2.2.2.2.1] at z
        exact absurd z (by decide)
      · rw [sg.mp q] at z
        cases z
      · exact .inr (o2 z F2 G2 m2)
  · rw [if_neg q] at e1
    unfold cb_X2_opens_8 cb_X2_opens_13 at e1
    obtain ⟨⟨r, F', G'⟩, e3, e4⟩ := bind_elim e1
    dsimp only at e4
    obtain ⟨-, rfl, rfl⟩ := ret_el e4
    rcases m with ⟨m1, rfl, rfl, m4, m5, m6⟩ | ⟨m1, m2, m3⟩
    · exact absurd (sg.mpr m4) q
    · exact .inr (c.fl T (by decide) (by decide) KX.rf e3 m2)
/-- opens where the token is known to be there -/
theorem jo_opT (T : TKE N K n Fc Gc Fm Gm) (c : CU N i Fc Gc Fm Gm) (hi : i < N) {a : Int32} (q : Fc 11 = a) : JP (cf_X2_opens fu a Fc Gc) (mf_opens fu Fm Gm) (fun r1 F1 G1 r2 F2 G2 => (r1 = 1 ∧ r2 = 1 ∧ jOn N (i + 1) 1 Fc Gc Fm Gm F1 G1 F2 G2) ∨ DEAD F1 F2) := by
  intro r1 F1 G1 r2 F2 G2 e1 e2
  have m := mp_opens Fm Gm r2 F2 G2 e2
  unfold cf_X2_opens cb_X2_opens_0 at e1
  rw [if_pos q] at e1
  obtain ⟨o1, o2⟩ := c.opn T hi e1
  rcases m with ⟨m1, rfl, rfl, m4⟩ | ⟨m1, m2, m3⟩
  · rcases o1 m4 with ⟨k1, k2⟩ | k3
    · exact .inl ⟨k1, m1, k2⟩
    · exact .inr k3
  · exact .inr (o2 m3 F2 G2 m2)
theorem jo_close (T : TKE N K n Fc Gc Fm Gm) (c : CU N i Fc Gc Fm Gm) (o : 1 ≤ (Fc 10).toInt) {w : Nat} (hw : w < 45) {a b : Int32} (ha : a = kS w) (hb : b = nI w) : JP (cf_X2_closesWith fu a Fc Gc) (mf_closeSign fu b Fm Gm) (fun _ F1 G1 r2 F2 G2 => (r2 = 1 ∧ sgn (Gm 4) (Gm 5) (Fm 42) b = true ∧ jOn N (i + 1) (-1) Fc Gc Fm Gm F1 G1 F2 G2) ∨ DEAD F1 F2) := by
  intro r1 F1 G1 r2 F2 G2 e1 e2
  have sg := c.sg T hw ha hb
  have e10 : Fc 10 = Fm 43 := c.2.2.2.1
  have b1 := c.2.2.2.2.2.1
  have ea : (Fc 10 - 1).toInt = (Fc 10).toInt - 1 := i_subn _ rfl (by omega) (by omega)
  have m := mp_closeSign b Fm Gm r2 F2 G2 e2
  have g11 : fup Fc 10 (Fc 10 - 1) 11 = Fc 11 := fup_n (by decide)
  unfold cf_X2_closesWith cb_X2_closesWith_0 cb_X2_closesWith_10 cb_X2_closesWith_18 cb_X2_closesWith_28 cb_X2_closesWith_31 cb_X2_closesWith_36 at e1
  rw [g11] at e1
  by_cases q : Fc 11 = a
  · rw [if_pos q] at e1
    obtain ⟨⟨r, F', G'⟩, e3, e4⟩ := bind_elim e1
    dsimp only at e4
    obtain ⟨-, rfl, rfl⟩ := ret_el e4
    rcases m with ⟨m1, rfl, rfl, m4, m5⟩ | ⟨m1, m2, m3⟩
    · obtain ⟨k1, k2, k3⟩ := CU.move T c (c.ltS T m4) (F0 := fup Fc 10 (Fc 10 - 1)) (KX.f rfl KX.rf) e3 (F2 := fup (fup Fm 42 (Fm 42 + 1)) 43 (Fm 43 - 1)) ((fup_n (by decide)).trans fup_s) (by rw [fup_s, fup_s, e10]) (KX.f rfl (KX.f rfl KX.rf)) (by rw [fup_s]; omega) (by rw [fup_s]; omega)
      rcases k3 with k3 | k3
      · refine .inl ⟨m1, m4, k1, ⟨rfl, KX.f rfl (KX.f rfl KX.rf)⟩, k3, ?_⟩
        rw [k2, fup_s]
        exact ea
      · exact .inr k3
    · exfalso
      rcases m3 with z | z
      · rw [c.2.2.2.2.2.2.2.1] at z
        exact absurd z (by decide)
      · rw [sg.mp q] at z
        cases z
  · rw [if_neg q] at e1
    obtain ⟨⟨r, F', G'⟩, e3, e4⟩ := bind_elim e1
    dsimp only at e4
    obtain ⟨-, rfl, rfl⟩ := ret_el e4
    rcases m with ⟨m1, rfl, rfl, m4, m5⟩ | ⟨m1, m2, m3⟩
    · exact absurd (sg.mpr m4) q
    · exact .inr (c.fl T (by decide) (by decide) (F0 := fup Fc 10 (Fc 10 - 1)) (KX.f rfl KX.rf) e3 m2)
/-- the class goes on, the reference's t is one more -/
theorem jo_next (T : TKE N K n Fc Gc Fm Gm) (c : CU N i Fc Gc Fm Gm) (hi : i < N) : PP (cf_X2_next fu Fc Gc) (fun _ F1 G1 => jOn N (i + 1) 0 Fc Gc Fm Gm F1 G1 (fup Fm 42 (Fm 42 + 1)) Gm ∨ DEAD F1 (fup Fm 42 (Fm 42 + 1))) := by
  intro r1 F1 G1 e1
  unfold cf_X2_next cb_X2_next_0 cb_X2_next_7 cb_X2_next_17 at e1
  rw [if_pos c.2.2.2.2.2.2.1] at e1
  obtain ⟨⟨r, F', G'⟩, e3, e4⟩ := bind_elim e1
  dsimp only at e4
  obtain ⟨-, rfl, rfl⟩ := ret_el e4
  obtain ⟨k1, k2, k3⟩ := CU.move T c hi KX.rf e3 (F2 := fup Fm 42 (Fm 42 + 1)) fup_s ((fup_n (by decide)).trans c.2.2.2.1.symm) (KX.f rfl KX.rf) c.2.2.2.2.1 c.2.2.2.2.2.1
  rcases k3 with k3 | k3
  · exact .inl ⟨k1, ⟨rfl, KX.f rfl KX.rf⟩, k3, by rw [k2]; omega⟩
  · exact .inr k3
/-- both close what no sign closes -/
theorem jo_closes (c : CU N i Fc Gc Fm Gm) (o : 1 ≤ (Fc 10).toInt) : PP (cf_X2_closes fu Fc Gc) (fun _ F1 G1 => jOn N i (-1) Fc Gc Fm Gm F1 G1 (fup Fm 43 (Fm 43 - 1)) Gm) := by
  obtain ⟨c0, c1, c2, c3, c4, c5, c6, c7, c8, c9, c10, c11⟩ := c
  have ea : (Fc 10 - 1).toInt = (Fc 10).toInt - 1 := i_subn _ rfl (by omega) (by omega)
  unfold cf_X2_closes cb_X2_closes_0 cb_X2_closes_10
  refine PP.ret ⟨⟨rfl, KX.f rfl KX.rf⟩, ⟨rfl, KX.f rfl KX.rf⟩, ⟨c0, ?_, ?_, ?_, ?_, ?_, ?_, ?_, ?_, ?_, ?_, c11⟩, ?_⟩
  · rw [fup_n (by decide)]; exact c1
  · rw [fup_n (by decide)]; exact c2
  · rw [fup_s, fup_s, c3]
  · rw [fup_s]; omega
  · rw [fup_s]; omega
  · rw [fup_n (by decide)]; exact c6
  · rw [fup_n (by decide)]; exact c7
  · rw [fup_n (by decide)]; exact c8
  · rw [fup_n (by decide)]; exact c9
  · rw [fup_n (by decide)]; exact c10
  · rw [fup_s]; exact ea
end JC1
