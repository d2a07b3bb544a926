section WORK3
variable {fu : Nat} {F0 : PF} {G0 : PG} {n : Nat} {a0 d0 : Int} {t0 : Nat} {A : AN} {m : Nat} {F F1 : PF} {G G1 : PG} {k : Nat} {s : SH}
theorem ATK.push2 {v w : Int32} (h : ATK F0 G0 n a0 d0 t0 A m F G k s) (hP : PRG F0 G0) (hl : s.length ≤ 600) (h1 : ∀ i : Int, 0 ≤ i → i < w.toInt → SFA F0 G0 (G 91) (G 93) (n + 1) (v.toInt + i)) : ATK F0 G0 n a0 d0 t0 A m (fup F 72 (F 72 + 2)) (gup (gup G 71 (F 72).toNatClampNeg v) 71 (F 72 + 1).toNatClampNeg w) k (3 :: 2 :: s) ∧ vp_in (F 72) 280000 ∧ vp_in (F 72 + 1) 280000 := by
  obtain ⟨e1, e2, e3⟩ := h.t hP
  obtain ⟨c, h75, h76, km, k8, ht, hv, -⟩ := h
  have i1 : (F 72 + 1).toInt = (F 72).toInt + 1 := i_addn _ rfl (by omega) (by omega)
  have i2 : (F 72 + 2).toInt = (F 72).toInt + 2 := i_addn _ rfl (by omega) (by omega)
  have en : (F 72 + 1).toNatClampNeg = (F 72).toInt.toNat + 1 := by show (F 72 + 1).toInt.toNat = _; omega
  refine ⟨⟨c.set (KX.f rfl (KX.g rfl (KX.g rfl KX.rf)) : KX [72] [71] F G (fup F 72 (F 72 + 2)) (gup (gup G 71 (F 72).toNatClampNeg v) 71 (F 72 + 1).toNatClampNeg w)) rfl rfl rfl rfl rfl rfl rfl rfl rfl rfl (fun j hj => ?_) c.2.2.2.2.2.2.2, h75, h76, km, k8, by show (F 72 + 2).toInt = _; rw [i2, List.length_cons, List.length_cons]; omega, ?_, by rw [List.length_cons, List.length_cons]; omega⟩, vp_in_iff.mpr ⟨by omega, by omega⟩, vp_in_iff.mpr ⟨by omega, by omega⟩⟩
  · rw [gup_x (by rw [en]; omega), gup_x (by show j ≠ (F 72).toInt.toNat; omega)]
  · show VOK (SFA F0 G0 (G 91) (G 93) (n + 1)) (gup (gup G 71 (F 72).toNatClampNeg v) 71 (F 72 + 1).toNatClampNeg w 71) (3 :: 2 :: s) (F 72 + 2).toInt.toNat
    rw [gup_u, gup_u, en, show (F 72 + 2).toInt.toNat = (F 72).toInt.toNat + 2 by omega]
    exact hv.pair h1
/-- an array of a text, as it stands in a run -/
theorem ATK.arr (h : ATK F0 G0 n a0 d0 t0 A m F G k s) (hP : PRG F0 G0) {a b e : Int32} (ha : arr (XF F0 G0 (G 91 n).toNatClampNeg) a b e) : (b = -1 ∧ (0 ≤ a.toInt ∧ a.toInt + 2 ≤ (G0 29 (G 91 n).toNatClampNeg).toInt) ∧ ∀ i : Int, 0 ≤ i → i < (G 90 (F 86 + a + 1).toNatClampNeg).toInt → SFA F0 G0 (G 91) (G 93) (n + 1) ((G 90 (F 86 + a).toNatClampNeg).toInt + i)) ∨ (¬ b = -1 ∧ e = 1 ∧ (F 86 + a).toInt = a0 + a.toInt ∧ ∀ i : Int, 0 ≤ i → i < b.toInt → SFA F0 G0 (G 91) (G 93) (n + 1) ((F 86 + a).toInt + i)) ∨ (¬ b = -1 ∧ e = 0 ∧ ∀ i : Int, 0 ≤ i → i < b.toInt → SFA F0 G0 (G 91) (G 93) (n + 1) (a.toInt + i)) := by
  have g := h.1.2.2.2.1
  have bd := h.1.bd hP
  obtain ⟨x1, x2⟩ := XF.c hP g.1
  have o3 := (bd.1.1 n (Nat.lt_succ_self n)).2.2
  unfold Jvm.Pilot.CCompiledHouseLaw_law_r6906_f37d62.arr at ha
  rw [x1, x2] at ha
  rcases ha with ⟨e1, a1, pa⟩ | ⟨b1, e1, c1, c2⟩ | ⟨b1, e1, c1, c2⟩
  · have pa : pairAt (kindsOf G0 (G 91 n).toNatClampNeg) a.toInt.toNat := pa
    have l := pairAt_lt _ _ pa
    obtain ⟨i1, i2, i3⟩ := h.base hP a1 (by omega)
    have i4 : (F 86 + a + 1).toInt = (F 86 + a).toInt + 1 := i_addn _ rfl (by omega) (by omega)
    have n1 : (F 86 + a).toNatClampNeg = a0.toNat + a.toInt.toNat := by show (F 86 + a).toInt.toNat = _; omega
    have n2 : (F 86 + a + 1).toNatClampNeg = a0.toNat + a.toInt.toNat + 1 := by show (F 86 + a + 1).toInt.toNat = _; omega
    refine Or.inl ⟨e1, ⟨a1, by omega⟩, fun i j0 j1 => ?_⟩
    rw [n2] at j1
    rw [n1]
    exact SFA.up (Nat.le_succ n) _ (g.2.2.2.2 _ pa i j0 j1)
  · have c1 : (cellsOf (kindsOf G0 (G 91 n).toNatClampNeg) : Int) ≤ a.toInt := c1
    obtain ⟨i1, i2, i3⟩ := h.base (x := a) hP (by omega) (by omega)
    refine Or.inr (Or.inl ⟨fun q => ?_, e1, i1, fun i j0 j1 => Or.inr ⟨n, Nat.lt_succ_self n, ?_, ?_⟩⟩)
    · rw [q] at b1
      exact absurd b1 (by decide)
    · rw [g.2.1]
      omega
    · rw [g.2.1]
      omega
  · refine Or.inr (Or.inr ⟨fun q => ?_, e1, fun i j0 j1 => Or.inl (by omega)⟩)
    rw [q] at b1
    exact absurd b1 (by decide)
theorem wk_232 (hP : PRG F0 G0) (h : ATK F0 G0 n a0 d0 t0 A m F G k s) (hl : s.length ≤ 600) (x1 x2 : Int32) (ha : arr (XF F0 G0 (G 91 n).toNatClampNeg) x1 x2 (G 59 k)) (hj : jp (XF F0 G0 (G 91 n).toNatClampNeg) A m k (k + 1) (3 :: 2 :: s)) : WP (mb_works_232 fu x1 x2 F G) (WQR F0 G0 (PHI A m n k (F 78).toInt)) := by
  obtain ⟨-, -, -, -, ek, v76⟩ := h.code
  have bd := h.1.bd hP
  unfold mb_works_232
  rcases h.arr hP ha with ⟨e, a1, sp⟩ | ⟨e, e1, i1, sp⟩ | ⟨e, e1, sp⟩
  · rw [if_pos e]
    unfold mb_works_245
    obtain ⟨i1, i2, i3⟩ := h.base hP a1.1 (by omega)
    have i4 : (F 86 + x1 + 1).toInt = (F 86 + x1).toInt + 1 := i_addn _ rfl (by omega) (by omega)
    have p := h.push2 (v := G 90 (F 86 + x1).toNatClampNeg) (w := G 90 (F 86 + x1 + 1).toNatClampNeg) hP hl sp
    refine WP.ix (vp_in_iff.mpr ⟨by omega, by omega⟩) ?_
    unfold mb_works_282
    refine WP.ix p.2.1 ?_
    unfold mb_works_283
    rw [if_pos e]
    unfold mb_works_298
    refine WP.ix (show vp_in (F 86 + x1 + 1) 20000 from vp_in_iff.mpr ⟨by omega, by omega⟩) ?_
    unfold mb_works_315
    exact WP.ix p.2.2 (p.1.fin (fu := fu) hP hj)
  · rw [if_neg e]
    unfold mb_works_259
    refine WP.ix v76 ?_
    rw [ek, if_pos e1]
    have p := h.push2 (v := F 86 + x1) (w := x2) hP hl sp
    unfold mb_works_272 mb_works_282
    refine WP.ix p.2.1 ?_
    unfold mb_works_283
    rw [if_neg e]
    unfold mb_works_314 mb_works_315
    exact WP.ix p.2.2 (p.1.fin (fu := fu) hP hj)
  · rw [if_neg e]
    unfold mb_works_259
    refine WP.ix v76 ?_
    rw [ek, if_neg (by rw [e1]; decide)]
    have p := h.push2 (v := x1) (w := x2) hP hl sp
    unfold mb_works_281 mb_works_282
    refine WP.ix p.2.1 ?_
    unfold mb_works_283
    rw [if_neg e]
    unfold mb_works_314 mb_works_315
    exact WP.ix p.2.2 (p.1.fin (fu := fu) hP hj)
/-- an end with how = v -/
theorem ATK.out {v : Int32} (h : ATK F0 G0 n a0 d0 t0 A m F G k s) (K : KX wkA wkB F G F1 G1) (hc : CNR F1) (e : F1 75 = v) (hv : 3 ≤ v.toInt) : OUR F0 G0 F1 G1 := ⟨KX.tr h.1.1 K rfl rfl, hc, Or.inl (by rw [e]; exact hv)⟩
theorem wk_329 (hP : PRG F0 G0) (h : ATK F0 G0 n a0 d0 t0 A m F G k (0 :: s)) (x1 x2 : Int32) (ha : arr (XF F0 G0 (G 91 n).toNatClampNeg) x1 x2 (G 59 k &&& 1)) (hj : jp (XF F0 G0 (G 91 n).toNatClampNeg) A m k (k + 1) (1 :: s)) : WP (mb_works_329 fu x1 x2 F G) (WQR F0 G0 (PHI A m n k (F 78).toInt)) := by
  obtain ⟨-, -, -, -, ek, v76⟩ := h.code
  obtain ⟨p, i72, v72, -⟩ := h.pop hP
  have bd := h.1.bd hP
  have last : ∀ many from_ : Int32, (∀ i : Int, 0 ≤ i → i < many.toInt → SFA F0 G0 (G 91) (G 93) (n + 1) (from_.toInt + i)) → WP (mb_works_396 fu many from_ F G) (WQR F0 G0 (PHI A m n k (F 78).toInt)) := by
    intro many from_ sp
    have bad : WP (mb_works_422 fu F G) (WQR F0 G0 (PHI A m n k (F 78).toInt)) := by
      unfold mb_works_422 mb_works_427
      refine WP.ix (show vp_in ((fup F 75 5) 76) 9000 from v76) ?_
      unfold mb_works_442
      exact WP.ret (Or.inr ⟨rfl, h.out (v := 5) (KX.f rfl (KX.f rfl KX.rf)) h.1.2.2.2.2.2.2.2 rfl (by decide)⟩)
    unfold mb_works_396
    refine WP.ix v72 (WP.ite (fun _ => bad) (fun c => ?_))
    have c := mt i_lt.mpr c
    have z0 : (0 : Int32).toInt = 0 := rfl
    unfold mb_works_416
    refine WP.ite (fun c1 => ?_) (fun _ => bad)
    have c1 := i_lt.mp c1
    have sf := sp (G 71 (F 72 - 1).toNatClampNeg).toInt (by omega) c1
    have rg := h.safeR hP sf
    unfold mb_works_444
    refine WP.ix v72 ?_
    have e1 : (from_ + G 71 (F 72 - 1).toNatClampNeg).toInt = from_.toInt + (G 71 (F 72 - 1).toNatClampNeg).toInt := i_addn _ rfl (by omega) (by omega)
    have tp := h.top (r := 1) (v := from_ + G 71 (F 72 - 1).toNatClampNeg) hP (fun _ => by rw [e1]; exact sf) (by decide)
    exact tp.fin (fu := fu) hP hj
  unfold mb_works_329
  rcases h.arr hP ha with ⟨e, a1, sp⟩ | ⟨e, e1, i1, sp⟩ | ⟨e, e1, sp⟩
  · rw [if_pos e]
    unfold mb_works_334
    obtain ⟨i1, i2, i3⟩ := h.base hP a1.1 (by omega)
    have i4 : (F 86 + x1 + 1).toInt = (F 86 + x1).toInt + 1 := i_addn _ rfl (by omega) (by omega)
    refine WP.ix (vp_in_iff.mpr ⟨by omega, by omega⟩) ?_
    unfold mb_works_351
    rw [if_pos e]
    unfold mb_works_357
    exact WP.ix (vp_in_iff.mpr ⟨by omega, by omega⟩) (last _ _ sp)
  · rw [if_neg e]
    unfold mb_works_350 mb_works_351
    rw [if_neg e]
    unfold mb_works_371
    refine WP.ix v76 ?_
    rw [ek, if_pos e1]
    unfold mb_works_386
    exact last _ _ sp
  · rw [if_neg e]
    unfold mb_works_350 mb_works_351
    rw [if_neg e]
    unfold mb_works_371
    refine WP.ix v76 ?_
    rw [ek, if_neg (by rw [e1]; decide)]
    unfold mb_works_395
    exact last _ _ sp
theorem wk_463 (hP : PRG F0 G0) (h : ATK F0 G0 n a0 d0 t0 A m F G k (1 :: s)) (hj : jp (XF F0 G0 (G 91 n).toNatClampNeg) A m k (k + 1) (0 :: s)) : WP (mb_works_463 fu F G) (WQR F0 G0 (PHI A m n k (F 78).toInt)) := by
  obtain ⟨p, i72, v72, sf⟩ := h.pop hP
  have rg := h.safeR hP (sf rfl)
  unfold mb_works_463
  refine WP.ix v72 (WP.ix (vp_in_iff.mpr ⟨rg.1, by omega⟩) (WP.ix v72 ?_))
  have tp := h.top (r := 0) (v := G 90 (G 71 (F 72 - 1).toNatClampNeg).toNatClampNeg) hP (fun e => absurd e (by decide)) (by decide)
  exact tp.fin (fu := fu) hP hj
theorem wk_493 (hP : PRG F0 G0) (h : ATK F0 G0 n a0 d0 t0 A m F G k (0 :: 1 :: s)) (x1 : Int32) (hj : jp (XF F0 G0 (G 91 n).toNatClampNeg) A m k (k + 1) s) : WP (mb_works_493 fu x1 F G) (WQR F0 G0 (PHI A m n k (F 78).toInt)) := by
  obtain ⟨p, i72, v72, -⟩ := h.pop hP
  obtain ⟨p2, i72', v72', sf⟩ := p.pop hP
  have i72' : (F 72 - 1 - 1).toInt = (F 72 - 1).toInt - 1 := i72'
  have sf : SFA F0 G0 (G 91) (G 93) (n + 1) (G 71 (F 72 - 1 - 1).toNatClampNeg).toInt := sf rfl
  have tt := h.t hP
  have hlen := h.2.2.2.2.2.2.2
  rw [List.length_cons, List.length_cons] at tt hlen
  have j2 : (F 72 - 2).toInt = (F 72).toInt - 2 := i_subn _ rfl (by omega) (by omega)
  have e2 : F 72 - 2 = F 72 - 1 - 1 := i_eq.mpr (by omega)
  have e3 : F 72 - 2 + 1 = F 72 - 1 := by
    have : (F 72 - 2 + 1).toInt = (F 72 - 2).toInt + 1 := i_addn _ rfl (by omega) (by omega)
    exact i_eq.mpr (by omega)
  unfold mb_works_493 mb_works_503
  have p3 : ATK F0 G0 n a0 d0 t0 A m (fup F 72 (F 72 - 2)) G k s := by
    obtain ⟨c, h75, h76, km, k8, ht, hv, hl⟩ := p2
    have hc := h.1
    exact ⟨hc.set (KX.f rfl KX.rf : KX [72] [] F G (fup F 72 (F 72 - 2)) G) rfl rfl rfl rfl rfl rfl rfl rfl rfl rfl (fun _ _ => rfl) hc.2.2.2.2.2.2.2, h75, h76, km, k8, by show (F 72 - 2).toInt = _; rw [e2]; exact ht, by show VOK _ _ s (F 72 - 2).toInt.toNat; rw [e2]; exact hv, hl⟩
  have fn : ∀ v : Int32, WP (mb_works_550 fu v (G 71 (F 72 - 2).toNatClampNeg) (fup F 72 (F 72 - 2)) G) (WQR F0 G0 (PHI A m n k (F 78).toInt)) := by
    intro v
    have sf3 : SFA F0 G0 (G 91) (G 93) (n + 1) (G 71 (F 72 - 2).toNatClampNeg).toInt := by rw [e2]; exact sf
    have sw := p3.safe (x := G 71 (F 72 - 2).toNatClampNeg) (v := v) hP sf3
    unfold mb_works_550
    exact WP.ix sw.2 (sw.1.fin (fu := fu) hP hj)
  have v2 : vp_in (F 72 - 2) 280000 := vp_in_iff.mpr ⟨by omega, by omega⟩
  have v3 : vp_in (F 72 - 2 + 1) 280000 := by rw [e3]; exact v72
  refine WP.ix (show vp_in ((fup F 72 (F 72 - 2)) 72) 280000 from v2) (WP.ite (fun _ => ?_) (fun _ => ?_))
  · unfold mb_works_521
    exact WP.ix (show vp_in ((fup F 72 (F 72 - 2)) 72 + 1) 280000 from v3) (fn _)
  · unfold mb_works_539
    exact WP.ix (show vp_in ((fup F 72 (F 72 - 2)) 72 + 1) 280000 from v3) (fn _)
theorem wk_554 (hP : PRG F0 G0) (h : ATK F0 G0 n a0 d0 t0 A m F G k (1 :: s)) (hl : (1 :: s).length ≤ 600) (hj : jp (XF F0 G0 (G 91 n).toNatClampNeg) A m k (k + 1) (1 :: 1 :: s)) : WP (mb_works_554 fu F G) (WQR F0 G0 (PHI A m n k (F 78).toInt)) := by
  obtain ⟨p, i72, v72, sf⟩ := h.pop hP
  have q := h.push (q := 1) (v := G 71 (F 72 - 1).toNatClampNeg) hP hl (fun _ => sf rfl) (by decide)
  unfold mb_works_554
  exact WP.ix v72 (WP.ix q.2 (q.1.fin (fu := fu) hP hj))
theorem wk_650 (hP : PRG F0 G0) (h : ATK F0 G0 n a0 d0 t0 A m F G k (0 :: s)) (hj : jp (XF F0 G0 (G 91 n).toNatClampNeg) A m k (k + 1) s) : WP (mb_works_650 fu F G) (WQR F0 G0 (PHI A m n k (F 78).toInt)) := by
  exact (h.pop hP).1.fin (fu := fu) hP hj
theorem ATK.cnt {a b : List Nat} (h : ATK F0 G0 n a0 d0 t0 A m F G k s) (K : KX a b F G F1 G1) (ea : a.all [77, 78, 79, 80].contains = true) (eb : b.all [88, 89].contains = true) (hc : CNR F1) : ATK F0 G0 n a0 d0 t0 A m F1 G1 k s := by
  have K1 : KX [77, 78, 79, 80] [88, 89] F G F1 G1 := KX.tr KX.rf K ea eb
  obtain ⟨c, h75, h76, km, k8, ht, hv, hl⟩ := h
  refine ⟨c.set K1 rfl rfl (K1.1 85 rfl) (K1.1 87 rfl) (K1.1 83 rfl) (K1.1 86 rfl) rfl rfl rfl rfl (fun j _ => by rw [K1.2 71 rfl]) hc, (K1.1 75 rfl).trans h75, by rw [K1.1 76 rfl]; exact h76, km, k8, by rw [K1.1 72 rfl]; exact ht, ?_, hl⟩
  rw [K1.2 91 rfl, K1.2 93 rfl, K1.2 71 rfl, K1.1 72 rfl]
  exact hv
theorem wk_663 (hP : PRG F0 G0) (h : ATK F0 G0 n a0 d0 t0 A m F G k (0 :: s)) (hj : jp (XF F0 G0 (G 91 n).toNatClampNeg) A m k (k + 1) s) : WP (mb_works_663 fu F G) (WQR F0 G0 (PHI A m n k (F 78).toInt)) := by
  obtain ⟨p, i72, v72, -⟩ := h.pop hP
  have hc := h.1.2.2.2.2.2.2.2
  have l2 : (2000 : Int32).toInt = 2000 := rfl
  have l3 : (2147483647 : Int32).toInt = 2147483647 := rfl
  have f79 := hc.2.1
  have go : ∀ G2 : PG, KX [] [88, 89] (fup F 72 (F 72 - 1)) G (fup F 72 (F 72 - 1)) G2 → WP (mb_works_701 fu (fup F 72 (F 72 - 1)) G2) (WQR F0 G0 (PHI A m n k (F 78).toInt)) := by
    intro G2 K2
    have e91 : G2 91 = G 91 := K2.2 91 rfl
    unfold mb_works_701
    refine WP.ite (fun _ => ?_) (fun c => ?_)
    · exact (p.cnt K2 rfl rfl hc).fin (fu := fu) hP (by rw [e91]; exact hj)
    · have c := mt i_le.mpr c
      have c : ¬ (2147483647 : Int32).toInt ≤ (F 79).toInt := c
      have i1 : (F 79 + 1).toInt = (F 79).toInt + 1 := i_addn _ rfl (by omega) (by omega)
      have K3 : KX [79] [88, 89] (fup F 72 (F 72 - 1)) G (fup (fup F 72 (F 72 - 1)) 79 (F 79 + 1)) G2 := KX.f rfl (KX.tr KX.rf K2 rfl rfl)
      exact (p.cnt K3 rfl rfl ⟨hc.1, by show 0 ≤ (F 79 + 1).toInt; omega, hc.2.2⟩).fin (fu := fu) hP (by rw [e91]; exact hj)
  unfold mb_works_663 mb_works_673
  refine WP.ite (fun _ => go G KX.rf) (fun c => ?_)
  have c : ¬ (2000 : Int32).toInt ≤ (F 79).toInt := mt i_le.mpr c
  unfold mb_works_683
  exact WP.ix (show vp_in (F 72 - 1) 280000 from v72) (WP.ix (show vp_in (F 79) 2000 from vp_in_iff.mpr ⟨hc.2.1, by omega⟩) (go _ (KX.g rfl KX.rf)))
theorem wk_724 (hP : PRG F0 G0) (h : ATK F0 G0 n a0 d0 t0 A m F G k (0 :: s)) : WP (mb_works_724 fu F G) (WQR F0 G0 (PHI A m n k (F 78).toInt)) := by
  obtain ⟨p, i72, v72, -⟩ := h.pop hP
  unfold mb_works_724 mb_works_734 mb_works_739
  refine WP.ix (show vp_in (F 72 - 1) 280000 from v72) ?_
  unfold mb_works_752
  exact WP.ret (Or.inr ⟨rfl, h.out (v := 4) (KX.f rfl (KX.f rfl (KX.f rfl KX.rf))) h.1.2.2.2.2.2.2.2 rfl (by decide)⟩)
/-- a step that is not left -/
theorem ATK.cur (h : ATK F0 G0 n a0 d0 t0 A m F G k s) (hs : (A k).1 = s) (hc : (G0 30 (G 91 n).toNatClampNeg).toInt.toNat ≤ k) : CUR F0 G0 F G (PHI A m n k (F 78).toInt) := by
  obtain ⟨c, h75, h76, km, k8, ht, hv, hl⟩ := h
  have e : (F 76).toInt.toNat = k := by omega
  refine ⟨n, a0, d0, t0, A, m, c, ⟨by omega, by omega, by omega⟩, by rw [e, hs]; exact ht, by rw [e, hs]; exact hv, by rw [e]⟩
end WORK3
