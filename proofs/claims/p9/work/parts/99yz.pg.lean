section WORK2
variable {fu : Nat} {F0 : PF} {G0 : PG} {n : Nat} {a0 d0 : Int} {t0 : Nat} {A : AN} {m : Nat} {F F1 : PF} {G G1 : PG} {k : Nat} {s : SH}
/-- at step k with the shape s -/
def ATK (F0 : PF) (G0 : PG) (n : Nat) (a0 d0 : Int) (t0 : Nat) (A : AN) (m : Nat) (F : PF) (G : PG) (k : Nat) (s : SH) : Prop := CWR F0 G0 n a0 d0 t0 A m F G ∧ F 75 = 1 ∧ (F 76).toInt = k ∧ k < m ∧ k < 8000 ∧ (F 72).toInt = t0 + s.length ∧ VOK (SFA F0 G0 (G 91) (G 93) (n + 1)) (G 71) s (F 72).toInt.toNat ∧ s.length ≤ 602
theorem ATK.t (h : ATK F0 G0 n a0 d0 t0 A m F G k s) (hP : PRG F0 G0) : (F 72).toInt.toNat = t0 + s.length ∧ t0 ≤ 270458 ∧ (F 72).toInt = ((F 72).toInt.toNat : Int) := by
  have b := h.1.bd hP
  have := h.2.2.2.2.2.1
  omega
theorem ATK.push {q : Nat} {v : Int32} (h : ATK F0 G0 n a0 d0 t0 A m F G k s) (hP : PRG F0 G0) (hl : s.length ≤ 600) (h1 : q = 1 → SFA F0 G0 (G 91) (G 93) (n + 1) v.toInt) (h3 : ¬ q = 3) : ATK F0 G0 n a0 d0 t0 A m (fup F 72 (F 72 + 1)) (gup G 71 (F 72).toNatClampNeg v) k (q :: s) ∧ vp_in (F 72) 280000 := by
  obtain ⟨e1, e2, e3⟩ := h.t hP
  obtain ⟨c, h75, h76, km, k8, ht, hv, -⟩ := h
  have i1 : (F 72 + 1).toInt = (F 72).toInt + 1 := i_addn _ rfl (by omega) (by omega)
  refine ⟨⟨c.set (KX.f rfl (KX.g rfl KX.rf) : KX [72] [71] F G (fup F 72 (F 72 + 1)) (gup G 71 (F 72).toNatClampNeg v)) rfl rfl rfl rfl rfl rfl rfl rfl rfl rfl (fun j hj => gup_x (by show j ≠ (F 72).toInt.toNat; omega)) c.2.2.2.2.2.2.2, h75, h76, km, k8, by show (F 72 + 1).toInt = _; rw [i1, List.length_cons]; omega, ?_, by rw [List.length_cons]; omega⟩, vp_in_iff.mpr ⟨by omega, by omega⟩⟩
  show VOK (SFA F0 G0 (G 91) (G 93) (n + 1)) (gup G 71 (F 72).toNatClampNeg v 71) (q :: s) (F 72 + 1).toInt.toNat
  rw [gup_u, show (F 72 + 1).toInt.toNat = (F 72).toInt.toNat + 1 by omega]
  exact hv.push h1 h3
theorem ATK.pop {q : Nat} (h : ATK F0 G0 n a0 d0 t0 A m F G k (q :: s)) (hP : PRG F0 G0) : ATK F0 G0 n a0 d0 t0 A m (fup F 72 (F 72 - 1)) G k s ∧ (F 72 - 1).toInt = (F 72).toInt - 1 ∧ vp_in (F 72 - 1) 280000 ∧ (q = 1 → SFA F0 G0 (G 91) (G 93) (n + 1) (G 71 (F 72 - 1).toNatClampNeg).toInt) := by
  obtain ⟨e1, e2, e3⟩ := h.t hP
  obtain ⟨c, h75, h76, km, k8, ht, hv, hl⟩ := h
  rw [List.length_cons] at ht hl e1
  have i1 : (F 72 - 1).toInt = (F 72).toInt - 1 := i_subn _ rfl (by omega) (by omega)
  obtain ⟨v1, v2, v3, -⟩ := hv
  have e4 : (F 72 - 1).toInt.toNat = (F 72).toInt.toNat - 1 := by omega
  refine ⟨⟨c.set (KX.f rfl KX.rf : KX [72] [] F G (fup F 72 (F 72 - 1)) G) rfl rfl rfl rfl rfl rfl rfl rfl rfl rfl (fun _ _ => rfl) c.2.2.2.2.2.2.2, h75, h76, km, k8, by show (F 72 - 1).toInt = _; omega, ?_, by omega⟩, i1, vp_in_iff.mpr ⟨by omega, by omega⟩, fun e => ?_⟩
  · show VOK (SFA F0 G0 (G 91) (G 93) (n + 1)) (G 71) s (F 72 - 1).toInt.toNat
    rw [e4]
    exact v2
  · show SFA F0 G0 (G 91) (G 93) (n + 1) (G 71 (F 72 - 1).toInt.toNat).toInt
    rw [e4]
    exact v3 e
theorem ATK.top {q r : Nat} {v : Int32} (h : ATK F0 G0 n a0 d0 t0 A m F G k (q :: s)) (hP : PRG F0 G0) (h1 : r = 1 → SFA F0 G0 (G 91) (G 93) (n + 1) v.toInt) (h3 : ¬ r = 3) : ATK F0 G0 n a0 d0 t0 A m F (gup G 71 (F 72 - 1).toNatClampNeg v) k (r :: s) := by
  obtain ⟨e1, e2, e3⟩ := h.t hP
  obtain ⟨c, h75, h76, km, k8, ht, hv, hl⟩ := h
  rw [List.length_cons] at ht hl e1
  have i1 : (F 72 - 1).toInt = (F 72).toInt - 1 := i_subn _ rfl (by omega) (by omega)
  obtain ⟨v1, v2, -, -⟩ := hv
  have e4 : (F 72 - 1).toNatClampNeg = (F 72).toInt.toNat - 1 := by show (F 72 - 1).toInt.toNat = _; omega
  refine ⟨c.set (KX.g rfl KX.rf : KX [] [71] F G F (gup G 71 (F 72 - 1).toNatClampNeg v)) rfl rfl rfl rfl rfl rfl rfl rfl rfl rfl (fun j hj => gup_x (by rw [e4]; omega)) c.2.2.2.2.2.2.2, h75, h76, km, k8, by rw [List.length_cons]; omega, ?_, by rw [List.length_cons]; omega⟩
  show VOK (SFA F0 G0 (G 91) (G 93) (n + 1)) (gup G 71 (F 72 - 1).toNatClampNeg v 71) (r :: s) (F 72).toInt.toNat
  rw [gup_u, e4]
  have := v2.push (k := r) (v := v) h1 h3
  rw [show (F 72).toInt.toNat - 1 + 1 = (F 72).toInt.toNat by omega] at this
  exact this
theorem ATK.cell {x : Nat} {v : Int32} (h : ATK F0 G0 n a0 d0 t0 A m F G k s) (hp : ∀ j, j < n + 1 → PCS G0 (G 91) (G 93) (G 90) (upd (G 90) x v) j) : ATK F0 G0 n a0 d0 t0 A m F (gup G 90 x v) k s := by
  obtain ⟨c, h75, h76, km, k8, ht, hv, hl⟩ := h
  exact ⟨c.cell hp, h75, h76, km, k8, ht, hv, hl⟩
/-- a safe write -/
theorem ATK.safe {x : Int32} {v : Int32} (h : ATK F0 G0 n a0 d0 t0 A m F G k s) (hP : PRG F0 G0) (hx : SFA F0 G0 (G 91) (G 93) (n + 1) x.toInt) : ATK F0 G0 n a0 d0 t0 A m F (gup G 90 x.toNatClampNeg v) k s ∧ vp_in x 20000 := by
  have b := h.1.bd hP
  have r := SFA.rng b.1 b.2.2.2.2.2.2.2.2.1 (by omega) hx
  exact ⟨h.cell (PCS.of b.1 b.2.2.2.2.2.2.2.2.1 hx), vp_in_iff.mpr ⟨by omega, by omega⟩⟩
theorem ATK.safeR {x : Int} (h : ATK F0 G0 n a0 d0 t0 A m F G k s) (hP : PRG F0 G0) (hx : SFA F0 G0 (G 91) (G 93) (n + 1) x) : 0 ≤ x ∧ x < 16001 := by
  have b := h.1.bd hP
  have r := SFA.rng b.1 b.2.2.2.2.2.2.2.2.1 (by omega) hx
  omega
/-- a step is done -/
theorem ATK.fin (h : ATK F0 G0 n a0 d0 t0 A m F G k s) (hP : PRG F0 G0) (hj : jp (XF F0 G0 (G 91 n).toNatClampNeg) A m k (k + 1) s) : WP (mb_works_880 fu F G) (WQR F0 G0 (PHI A m n k (F 78).toInt)) := by
  obtain ⟨c, h75, h76, km, k8, ht, hv, hl⟩ := h
  unfold mb_works_880 mb_works_890
  have i1 : (F 76 + 1).toInt = (F 76).toInt + 1 := i_addn _ rfl (by omega) (by omega)
  have e1 : (F 76 + 1).toInt.toNat = k + 1 := by omega
  have c1 := c.set (KX.f rfl KX.rf : KX [76] [] F G (fup F 76 (F 76 + 1)) G) rfl rfl rfl rfl rfl rfl rfl rfl rfl rfl (fun _ _ => rfl) c.2.2.2.2.2.2.2
  have hj1 : jp (XF F0 G0 (G 91 n).toNatClampNeg) A m k ((fup F 76 (F 76 + 1)) 76).toInt.toNat s := by
    show jp _ A m k (F 76 + 1).toInt.toNat s
    rw [e1]
    exact hj
  exact WP.ret (Or.inl ⟨rfl, h75, c1.mv hP km hj1 (by show 0 ≤ (F 76 + 1).toInt; omega) hl ht hv rfl⟩)
theorem ATK.code (h : ATK F0 G0 n a0 d0 t0 A m F G k s) : G 56 = G0 56 ∧ G 57 = G0 57 ∧ G 58 = G0 58 ∧ G 59 = G0 59 ∧ (F 76).toNatClampNeg = k ∧ vp_in (F 76) 9000 := by
  obtain ⟨c, h75, h76, km, k8, ht, hv, hl⟩ := h
  refine ⟨c.1.2 56 rfl, c.1.2 57 rfl, c.1.2 58 rfl, c.1.2 59 rfl, by show (F 76).toInt.toNat = k; omega, vp_in_iff.mpr ⟨by omega, by omega⟩⟩
/-- the base and a cell behind it -/
theorem ATK.base {x : Int32} (h : ATK F0 G0 n a0 d0 t0 A m F G k s) (hP : PRG F0 G0) (h0 : 0 ≤ x.toInt) (h1 : x.toInt ≤ (G0 29 (G 91 n).toNatClampNeg).toInt) : (F 86 + x).toInt = a0 + x.toInt ∧ 0 ≤ a0 ∧ a0 + x.toInt ≤ 16000 := by
  have b := h.1.bd hP
  have i1 : (F 86 + x).toInt = (F 86).toInt + x.toInt := i_addn _ rfl (by omega) (by omega)
  omega
/-- cells of the frame, as the type counts them -/
theorem XF.c (hP : PRG F0 G0) {g : Int32} (h : 0 ≤ g.toInt ∧ g.toInt < (F0 24).toInt) : ((XF F0 G0 g.toNatClampNeg).2.2.2.2.1 : Int) = (G0 29 g.toNatClampNeg).toInt ∧ ((XF F0 G0 g.toNatClampNeg).2.2.2.1 : Int) = (F0 37).toInt := by
  obtain ⟨-, -, -, o, o1, o2, o3, o4⟩ := hP.2.2.2.2.2.1 g.toNatClampNeg (by rw [nN_of h.1]; exact h.2)
  have := hP.2.2.1
  refine ⟨?_, ?_⟩
  · show ((G0 29 g.toNatClampNeg).toInt.toNat : Int) = _
    omega
  · show ((F0 37).toInt.toNat : Int) = _
    omega
/-- loads -/
theorem wk_132 (hP : PRG F0 G0) (h : ATK F0 G0 n a0 d0 t0 A m F G k s) (hl : s.length ≤ 600) (x1 : Int32) (hx : (G 56 k = 1 ∧ 0 ≤ x1.toInt ∧ x1.toInt < (G0 29 (G 91 n).toNatClampNeg).toInt) ∨ (¬ G 56 k = 1 ∧ 0 ≤ x1.toInt ∧ x1.toInt < (F0 37).toInt)) (hj : jp (XF F0 G0 (G 91 n).toNatClampNeg) A m k (k + 1) (0 :: s)) : WP (mb_works_132 fu x1 F G) (WQR F0 G0 (PHI A m n k (F 78).toInt)) := by
  obtain ⟨-, -, -, -, ek, v76⟩ := h.code
  unfold mb_works_132
  refine WP.ix v76 ?_
  rw [ek]
  have go : ∀ z : Int32, vp_in z 20000 → WP (mb_works_167 fu z (F 72) F G) (WQR F0 G0 (PHI A m n k (F 78).toInt)) := by
    intro z vz
    have p := h.push (q := 0) (v := G 90 z.toNatClampNeg) hP hl (fun e => absurd e (by decide)) (by decide)
    unfold mb_works_167
    refine WP.ix vz (WP.ix p.2 ?_)
    exact p.1.fin (fu := fu) hP hj
  have b := h.1.bd hP
  rcases hx with ⟨e, x0, x1'⟩ | ⟨e, x0, x1'⟩
  · rw [if_pos e]
    obtain ⟨i1, i2, i3⟩ := h.base hP x0 (Int.le_of_lt x1')
    exact go _ (vp_in_iff.mpr ⟨by omega, by omega⟩)
  · rw [if_neg e]
    exact go _ (vp_in_iff.mpr ⟨x0, by omega⟩)
/-- stores -/
theorem wk_182 (hP : PRG F0 G0) (h : ATK F0 G0 n a0 d0 t0 A m F G k (0 :: s)) (x1 : Int32) (hx : (G 56 k = 2 ∧ 0 ≤ x1.toInt ∧ x1.toInt < (G0 29 (G 91 n).toNatClampNeg).toInt ∧ icell (kindsOf G0 (G 91 n).toNatClampNeg) x1.toInt.toNat) ∨ (¬ G 56 k = 2 ∧ 0 ≤ x1.toInt ∧ x1.toInt < (F0 37).toInt)) (hj : jp (XF F0 G0 (G 91 n).toNatClampNeg) A m k (k + 1) s) : WP (mb_works_182 fu x1 F G) (WQR F0 G0 (PHI A m n k (F 78).toInt)) := by
  obtain ⟨-, -, -, -, ek, v76⟩ := h.code
  obtain ⟨p, i72, v72, -⟩ := h.pop hP
  unfold mb_works_182 mb_works_192
  refine WP.ix (show vp_in ((fup F 72 (F 72 - 1)) 76) 9000 from v76) ?_
  show WP (if G 56 (F 76).toNatClampNeg = 2 then mb_works_209 fu x1 (fup F 72 (F 72 - 1)) G else mb_works_218 fu x1 (fup F 72 (F 72 - 1)) G) _
  rw [ek]
  have b := h.1.bd hP
  rcases hx with ⟨e, x0, x1', ic⟩ | ⟨e, x0, x1'⟩
  · rw [if_pos e]
    unfold mb_works_209 mb_works_219
    obtain ⟨i1, i2, i3⟩ := h.base hP x0 (Int.le_of_lt x1')
    refine WP.ix (show vp_in (F 72 - 1) 280000 from v72) (WP.ix (show vp_in (F 86 + x1) 20000 from vp_in_iff.mpr ⟨by omega, by omega⟩) ?_)
    have hn : ((G 91 n).toNatClampNeg : Int) = (G 91 n).toInt := nN_of h.1.2.2.2.1.1.1
    refine (p.cell (x := (F 86 + x1).toNatClampNeg) (v := G 71 (F 72 - 1).toNatClampNeg) (fun j hj1 => ?_)).fin (fu := fu) hP hj
    have ex : (F 86 + x1).toNatClampNeg = (a0 + x1.toInt).toNat := by show (F 86 + x1).toInt.toNat = _; rw [i1]
    have g := h.1.2.2.2.1
    by_cases ej : j = n
    · rw [ej, ex]
      intro q hq
      have l := icell_pair _ _ _ ic hq
      rw [g.2.1]
      exact ⟨upd_n (by omega), upd_n (by omega)⟩
    · rw [ex]
      intro q hq
      have l := pairAt_lt _ _ hq
      have b1 := b.1.1 j hj1
      have b2 := b.1.2 j n (by omega) (Nat.lt_succ_self n)
      rw [g.2.1] at b2
      exact ⟨upd_n (by omega), upd_n (by omega)⟩
  · rw [if_neg e]
    unfold mb_works_218 mb_works_219
    have sf := p.safe (x := x1) (v := G 71 (F 72 - 1).toNatClampNeg) hP (Or.inl ⟨x0, x1'⟩)
    exact WP.ix (show vp_in (F 72 - 1) 280000 from v72) (WP.ix sf.2 (sf.1.fin (fu := fu) hP hj))
/-- the plain steps -/
theorem wk_866 (hP : PRG F0 G0) (h : ATK F0 G0 n a0 d0 t0 A m F G k s) (hl : s.length ≤ 600) (hw : (G 56 k = 0 ∧ jp (XF F0 G0 (G 91 n).toNatClampNeg) A m k (k + 1) (0 :: s)) ∨ (G 56 k = 10 ∧ ∃ s0, s = 0 :: 0 :: s0 ∧ jp (XF F0 G0 (G 91 n).toNatClampNeg) A m k (k + 1) (0 :: s0)) ∨ ((G 56 k = 11 ∨ G 56 k = 23) ∧ ∃ s0, s = 0 :: s0 ∧ jp (XF F0 G0 (G 91 n).toNatClampNeg) A m k (k + 1) (0 :: s0)) ∨ (G 56 k = 12 ∧ 0 ≤ (G 57 k).toInt ∧ jp (XF F0 G0 (G 91 n).toNatClampNeg) A m k (G 57 k).toInt.toNat s) ∨ ((G 56 k = 13 ∨ G 56 k = 14) ∧ ∃ s0, s = 0 :: s0 ∧ 0 ≤ (G 57 k).toInt ∧ jp (XF F0 G0 (G 91 n).toNatClampNeg) A m k (G 57 k).toInt.toNat s0 ∧ jp (XF F0 G0 (G 91 n).toNatClampNeg) A m k (k + 1) s0)) : WP (mb_works_866 fu F G) (WQR F0 G0 (PHI A m n k (F 78).toInt)) := by
  obtain ⟨-, -, -, -, ek, v76⟩ := h.code
  have tt := h.t hP
  have h76 := h.2.2.1
  have k8 := h.2.2.2.2.1
  have h72 := h.2.2.2.2.2.1
  have i1 : (F 76 + 1).toInt.toNat = k + 1 ∧ 0 ≤ (F 76 + 1).toInt := by
    have : (F 76 + 1).toInt = (F 76).toInt + 1 := i_addn _ rfl (by omega) (by omega)
    omega
  -- to another place
  have go : ∀ (x : Int32) (s1 : SH) (F2 : PF) (G2 : PG), ATK F0 G0 n a0 d0 t0 A m F2 G2 k s1 → F2 78 = F 78 → G2 91 = G 91 → 0 ≤ x.toInt → jp (XF F0 G0 (G 91 n).toNatClampNeg) A m k x.toInt.toNat s1 → WP (mb_works_875 fu x F2 G2) (WQR F0 G0 (PHI A m n k (F 78).toInt)) := by
    intro x s1 F2 G2 h2 e78 e91 x0 hj
    obtain ⟨c, h75, h76, km, k8, ht, hv, hl⟩ := h2
    unfold mb_works_875 mb_works_878
    have c1 := c.set (KX.f rfl KX.rf : KX [76] [] F2 G2 (fup F2 76 x) G2) rfl rfl rfl rfl rfl rfl rfl rfl rfl rfl (fun _ _ => rfl) c.2.2.2.2.2.2.2
    have hj1 : jp (XF F0 G0 (G2 91 n).toNatClampNeg) A m k ((fup F2 76 x) 76).toInt.toNat s1 := by
      rw [e91]
      exact hj
    exact WP.ret (Or.inl ⟨rfl, h75, c1.mv hP km hj1 x0 hl ht hv (by show (F2 78).toInt = _; rw [e78])⟩)
  unfold mb_works_866
  rcases hw with ⟨e, hj⟩ | ⟨e, s0, rfl, hj⟩ | ⟨e, s0, rfl, hj⟩ | ⟨e, x0, hj⟩ | ⟨e, s0, rfl, x0, hj, hj1⟩
  · refine WP.bind (ms_plainly (F 76) F G v76 ⟨by omega, by omega⟩ (Or.inl (by rw [ek]; exact e))) ?_
    rintro r F2 G2 (⟨-, rfl, rfl, v, rfl⟩ | ⟨q, -⟩ | ⟨q, -⟩ | ⟨q, -⟩ | ⟨q, -⟩)
    · dsimp only
      have p := h.push (q := 0) (v := v) hP hl (fun e => absurd e (by decide)) (by decide)
      exact go _ _ _ _ p.1 rfl rfl i1.2 (by rw [i1.1]; exact hj)
    all_goals
      rw [ek, e] at q
      exact absurd q (by decide)
  · rw [List.length_cons, List.length_cons] at h72
    refine WP.bind (ms_plainly (F 76) F G v76 ⟨by omega, by omega⟩ (Or.inr (Or.inl ⟨by rw [ek]; exact e, by omega⟩))) ?_
    rintro r F2 G2 (⟨q, -⟩ | ⟨-, rfl, rfl, v, rfl⟩ | ⟨q, -⟩ | ⟨q, -⟩ | ⟨q, -⟩)
    · rw [ek, e] at q
      exact absurd q (by decide)
    · dsimp only
      have p := (h.pop hP).1.top (r := 0) (v := v) hP (fun e => absurd e (by decide)) (by decide)
      exact go _ _ _ _ p rfl rfl i1.2 (by rw [i1.1]; exact hj)
    all_goals
      rw [ek, e] at q
      exact absurd q (by decide)
  · rw [List.length_cons] at h72
    have n0 : ¬ G 56 k = 0 ∧ ¬ G 56 k = 10 ∧ ¬ G 56 k = 12 ∧ ¬ (G 56 k = 13 ∨ G 56 k = 14) := by
      rcases e with e | e <;> rw [e] <;> decide
    refine WP.bind (ms_plainly (F 76) F G v76 ⟨by omega, by omega⟩ (Or.inr (Or.inr (Or.inl ⟨by rw [ek]; exact e, by omega⟩)))) ?_
    rintro r F2 G2 (⟨q, -⟩ | ⟨q, -⟩ | ⟨-, rfl, rfl, v, rfl⟩ | ⟨q, -⟩ | ⟨q, -⟩)
    · exact absurd (by rw [← ek]; exact q) n0.1
    · exact absurd (by rw [← ek]; exact q) n0.2.1
    · dsimp only
      have p := h.top (r := 0) (v := v) hP (fun e => absurd e (by decide)) (by decide)
      exact go _ _ _ _ p rfl rfl i1.2 (by rw [i1.1]; exact hj)
    · exact absurd (by rw [← ek]; exact q) n0.2.2.1
    · exact absurd (by rw [← ek]; exact q) n0.2.2.2
  · refine WP.bind (ms_plainly (F 76) F G v76 ⟨by omega, by omega⟩ (Or.inr (Or.inr (Or.inr (Or.inl (by rw [ek]; exact e)))))) ?_
    rintro r F2 G2 (⟨q, -⟩ | ⟨q, -⟩ | ⟨q, -⟩ | ⟨-, rfl, rfl, rfl⟩ | ⟨q, -⟩)
    · rw [ek, e] at q
      exact absurd q (by decide)
    · rw [ek, e] at q
      exact absurd q (by decide)
    · rw [ek, e] at q
      exact absurd q (by decide)
    · dsimp only
      rw [ek]
      exact go _ _ _ _ h rfl rfl x0 hj
    · rw [ek, e] at q
      exact absurd q (by decide)
  · rw [List.length_cons] at h72
    have n0 : ¬ G 56 k = 0 ∧ ¬ G 56 k = 10 ∧ ¬ (G 56 k = 11 ∨ G 56 k = 23) ∧ ¬ G 56 k = 12 := by
      rcases e with e | e <;> rw [e] <;> decide
    refine WP.bind (ms_plainly (F 76) F G v76 ⟨by omega, by omega⟩ (Or.inr (Or.inr (Or.inr (Or.inr ⟨by rw [ek]; exact e, by omega⟩))))) ?_
    rintro r F2 G2 (⟨q, -⟩ | ⟨q, -⟩ | ⟨q, -⟩ | ⟨q, -⟩ | ⟨-, hr, rfl, rfl⟩)
    · exact absurd (by rw [← ek]; exact q) n0.1
    · exact absurd (by rw [← ek]; exact q) n0.2.1
    · exact absurd (by rw [← ek]; exact q) n0.2.2.1
    · exact absurd (by rw [← ek]; exact q) n0.2.2.2
    · dsimp only
      have p := (h.pop hP).1
      rcases hr with rfl | rfl
      · rw [ek]
        exact go _ _ _ _ p rfl rfl x0 hj
      · exact go _ _ _ _ p rfl rfl i1.2 (by rw [i1.1]; exact hj1)
end WORK2
