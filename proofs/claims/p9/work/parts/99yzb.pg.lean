section WORK4
variable {fu : Nat} {F0 : PF} {G0 : PG} {n : Nat} {a0 d0 : Int} {t0 : Nat} {A : AN} {m : Nat} {F F1 : PF} {G G1 : PG} {k : Nat} {s : SH}
theorem TYP.len {g : Nat} (h : TYP F0 G0 g A m) {q : Nat} (hq : q ≤ m) (hl : (A q).1.length ≤ 602) : (G0 30 g).toInt.toNat ≤ q ∧ q < m := by
  refine ⟨?_, ?_⟩
  · rcases Nat.lt_or_ge q (G0 30 g).toInt.toNat with z | z
    · have := h.2.2.2.2.2 q z
      omega
    · exact z
  · rcases Nat.lt_or_ge q m with z | z
    · exact z
    · have e : q = m := by omega
      have := h.2.2.2.2.1
      rw [← e] at this
      omega
theorem TYP.m8 (hP : PRG F0 G0) {g : Nat} (h : TYP F0 G0 g A m) : m ≤ 8000 := by
  have := h.2.1
  have q := hP.2.2.2.1
  have : (sN F0 : Int) = (F0 60).toInt := nN_of q.1
  omega
/-- a turn -/
theorem wk_587 (hP : PRG F0 G0) (h : ATK F0 G0 n a0 d0 t0 A m F G k s) (hs : (A k).1 = s) (hl : s.length ≤ 600) (hc : (G0 30 (G 91 n).toNatClampNeg).toInt.toNat ≤ k) (hn : k + 1 ≤ m) (hs1 : (A (k + 1)).1 = s) : WP (mb_works_587 fu F G) (WQR F0 G0 (PHI A m n k (F 78).toInt)) := by
  have cn := h.1.2.2.2.2.2.2.2
  have ty := h.1.2.2.2.2.2.2.1
  unfold mb_works_587
  refine WP.ite (fun _ => ?_) (fun c => ?_)
  · unfold mb_works_594
    exact WP.ret (Or.inr ⟨rfl, h.1.1, cn, Or.inr ⟨Or.inl h.2.1, _, h.cur hs hc⟩⟩)
  · unfold mb_works_596 mb_works_606 mb_works_616 mb_works_880 mb_works_890
    have c : ¬ (F 78).toInt = 0 := fun e => c (i_eq.mpr (by rw [e]; rfl))
    have b78 := cn.1
    have h76 := h.2.2.1
    have k8 := h.2.2.2.2.1
    have i78 : (F 78 - 1).toInt = (F 78).toInt - 1 := i_subn _ rfl (by omega) (by omega)
    have i76 : (F 76 + 1).toInt = (F 76).toInt + 1 := i_addn _ rfl (by omega) (by omega)
    have K : KX [77, 78] [] F G (fup (fup F 78 (F 78 - 1)) 77 ((fup F 78 (F 78 - 1)) 77 + 1)) G := KX.f rfl (KX.f rfl KX.rf)
    have p := h.cnt K rfl rfl (show CNR (fup (fup F 78 (F 78 - 1)) 77 ((fup F 78 (F 78 - 1)) 77 + 1)) from ⟨⟨by show 0 ≤ (F 78 - 1).toInt; omega, by show (F 78 - 1).toInt ≤ 1000; omega⟩, cn.2⟩)
    have e78 : (fup (fup F 78 (F 78 - 1)) 77 ((fup F 78 (F 78 - 1)) 77 + 1)) 78 = F 78 - 1 := rfl
    have e76 : (fup (fup F 78 (F 78 - 1)) 77 ((fup F 78 (F 78 - 1)) 77 + 1)) 76 = F 76 := rfl
    generalize fup (fup F 78 (F 78 - 1)) 77 ((fup F 78 (F 78 - 1)) 77 + 1) = F2 at p e78 e76
    obtain ⟨c2, h75, -, km, -, ht, hv, -⟩ := p
    have c3 := c2.set (KX.f rfl KX.rf : KX [76] [] F2 G (fup F2 76 (F2 76 + 1)) G) rfl rfl rfl rfl rfl rfl rfl rfl rfl rfl (fun _ _ => rfl) c2.2.2.2.2.2.2.2
    have en : ((fup F2 76 (F2 76 + 1)) 76).toInt.toNat = k + 1 := by
      show (F2 76 + 1).toInt.toNat = _
      rw [e76]
      omega
    obtain ⟨q1, q2⟩ := ty.len hn (by rw [hs1]; omega)
    refine WP.ret (Or.inl ⟨rfl, h75, PHI A m n (k + 1) (F 78 - 1).toInt, ?_, n, a0, d0, t0, A, m, c3, ⟨?_, by rw [en]; exact q1, by rw [en]; exact q2⟩, by rw [en, hs1]; exact ht, by rw [en, hs1]; exact hv, ?_⟩)
    · have m1 := mA.le (A := A) (k := k + 1) (ty.m8 hP)
      have m0 := mA.le (A := A) (k := k) (ty.m8 hP)
      unfold PHI
      rw [i78, show ((F 78).toInt).toNat = ((F 78).toInt - 1).toNat + 1 by omega]
      by_cases c1 : (A (k + 1)).2.2 = true
      · rw [if_pos c1]; omega
      · rw [if_neg c1]; omega
    · show 0 ≤ (F2 76 + 1).toInt
      rw [e76]
      omega
    · rw [en]
      show _ = PHI A m n (k + 1) (F2 78).toInt
      rw [e78]
/-- an input -/
theorem wk_754 (hfu : 8589934592 ≤ fu) (hP : PRG F0 G0) (h : ATK F0 G0 n a0 d0 t0 A m F G k s) (hs : (A k).1 = s) (hl : s.length ≤ 600) (hc : (G0 30 (G 91 n).toNatClampNeg).toInt.toNat ≤ k) (hj : jp (XF F0 G0 (G 91 n).toNatClampNeg) A m k (k + 1) (0 :: s)) : WP (mb_works_754 fu F G) (WQR F0 G0 (PHI A m n k (F 78).toInt)) := by
  have cn := h.1.2.2.2.2.2.2.2
  have b80 := cn.2.2
  unfold mb_works_754
  refine WP.ite (fun _ => ?_) (fun c => ?_)
  · unfold mb_works_761 mb_works_766
    have cu := h.cur hs hc
    obtain ⟨n', a0', d0', t0', A', m', c1, c2, c3, c4, c5⟩ := cu
    have K : KX [75] [] F G (fup F 75 2) G := KX.f rfl KX.rf
    refine WP.ret (Or.inr ⟨rfl, KX.tr h.1.1 K rfl rfl, cn, Or.inr ⟨Or.inr rfl, _, n', a0', d0', t0', A', m', c1.set K rfl rfl rfl rfl rfl rfl rfl rfl rfl rfl (fun _ _ => rfl) cn, c2, c3, c4, rfl⟩⟩)
  · have c : ¬ (F 80).toInt = 0 := fun e => c (i_eq.mpr (by rw [e]; rfl))
    have p := h.push (q := 0) (v := G 88 (0 : Int32).toNatClampNeg) hP hl (fun e => absurd e (by decide)) (by decide)
    unfold mb_works_768
    refine WP.ix (vp_in_iff.mpr ⟨by decide, by decide⟩) (WP.ix p.2 ?_)
    unfold mb_works_783 mb_works_793 mb_works_803
    have i80 : (F 80 - 1).toInt = (F 80).toInt - 1 := i_subn _ rfl (by omega) (by omega)
    have p1 := p.1
    have g91 : (gup G 71 (F 72).toNatClampNeg (G 88 (0 : Int32).toNatClampNeg)) 91 = G 91 := rfl
    generalize gup G 71 (F 72).toNatClampNeg (G 88 (0 : Int32).toNatClampNeg) = G2 at p1 g91
    have K : KX [80] [] (fup F 72 (F 72 + 1)) G2 (fup (fup F 72 (F 72 + 1)) 80 ((fup F 72 (F 72 + 1)) 80 - 1)) G2 := KX.f rfl KX.rf
    have p2 := p1.cnt K rfl rfl (show CNR (fup (fup F 72 (F 72 + 1)) 80 ((fup F 72 (F 72 + 1)) 80 - 1)) from ⟨cn.1, cn.2.1, by show 0 ≤ (F 80 - 1).toInt; omega, by show (F 80 - 1).toInt ≤ 500; omega⟩)
    have e80 : (fup (fup F 72 (F 72 + 1)) 80 ((fup F 72 (F 72 + 1)) 80 - 1)) 80 = F 80 - 1 := rfl
    have e78 : (fup (fup F 72 (F 72 + 1)) 80 ((fup F 72 (F 72 + 1)) 80 - 1)) 78 = F 78 := rfl
    generalize fup (fup F 72 (F 72 + 1)) 80 ((fup F 72 (F 72 + 1)) 80 - 1) = F2 at p2 e80 e78
    have lp : ∀ (j : Nat) (x3 : Int32) (G3 : PG), ATK F0 G0 n a0 d0 t0 A m F2 G3 k (0 :: s) → G3 91 = G 91 → 0 ≤ x3.toInt → x3.toInt ≤ (F 80 - 1).toInt → ((F 80 - 1).toInt - x3.toInt).toNat < j → WP (ml_works_805 fu j x3 F2 G3) (WQR F0 G0 (PHI A m n k (F 78).toInt)) := by
      intro j
      induction j with
      | zero => intro x3 G3 _ _ _ _ q; omega
      | succ j ih =>
        intro x3 G3 p3 g3 x0 x1 hm
        show WP (mb_works_805 fu (ml_works_805 fu j) x3 F2 G3) _
        unfold mb_works_805
        rw [e80]
        refine WP.ite (fun _ => ?_) (fun c3 => ?_)
        · rw [← e78]
          exact p3.fin (fu := fu) hP (by rw [g3]; exact hj)
        · have c3 := mt i_le.mpr c3
          have i1 : (x3 + 1).toInt = x3.toInt + 1 := i_addn _ rfl (by omega) (by omega)
          unfold mb_works_813
          refine WP.ix (vp_in_iff.mpr ⟨by omega, by omega⟩) (WP.ix (vp_in_iff.mpr ⟨by omega, by omega⟩) ?_)
          unfold mb_works_827
          exact ih (x3 + 1) _ (p3.cnt (KX.g rfl KX.rf : KX [] [88] F2 G3 F2 _) rfl rfl p3.1.2.2.2.2.2.2.2) g3 (by omega) (by omega) (by omega)
    have z0 : (0 : Int32).toInt = 0 := rfl
    exact lp fu 0 G2 p2 g91 (by omega) (by omega) (by omega)
/-- cells of a text's own are made 0 -/
theorem wk_836 (hfu : 8589934592 ≤ fu) (hP : PRG F0 G0) (h : ATK F0 G0 n a0 d0 t0 A m F G k s) (x1 x2 : Int32) (hx : 0 ≤ x2.toInt ∧ (cellsOf (kindsOf G0 (G 91 n).toNatClampNeg) : Int) ≤ x1.toInt ∧ x1.toInt + x2.toInt ≤ (G0 29 (G 91 n).toNatClampNeg).toInt) (hj : jp (XF F0 G0 (G 91 n).toNatClampNeg) A m k (k + 1) s) : WP (mb_works_836 fu x1 x2 F G) (WQR F0 G0 (PHI A m n k (F 78).toInt)) := by
  obtain ⟨i1, i2, i3⟩ := h.base (x := x1) hP (by omega) (by omega)
  have b := h.1.bd hP
  have lp : ∀ (j : Nat) (x3 : Int32) (G3 : PG), ATK F0 G0 n a0 d0 t0 A m F G3 k s → G3 91 = G 91 → 0 ≤ x3.toInt → x3.toInt ≤ x2.toInt → (x2.toInt - x3.toInt).toNat < j → WP (ml_works_838 fu j x1 x2 x3 F G3) (WQR F0 G0 (PHI A m n k (F 78).toInt)) := by
    intro j
    induction j with
    | zero => intro x3 G3 _ _ _ _ q; omega
    | succ j ih =>
      intro x3 G3 p3 g3 y0 y1 hm
      show WP (mb_works_838 fu (ml_works_838 fu j) x1 x2 x3 F G3) _
      unfold mb_works_838
      refine WP.ite (fun _ => ?_) (fun c3 => ?_)
      · exact p3.fin (fu := fu) hP (by rw [g3]; exact hj)
      · have c3 := mt i_le.mpr c3
        have j1 : (x3 + 1).toInt = x3.toInt + 1 := i_addn _ rfl (by omega) (by omega)
        have j2 : (F 86 + x1 + x3).toInt = (F 86 + x1).toInt + x3.toInt := i_addn _ rfl (by omega) (by omega)
        have g := p3.1.2.2.2.1
        have sf := p3.safe (x := F 86 + x1 + x3) (v := 0) hP (Or.inr ⟨n, Nat.lt_succ_self n, by rw [g.2.1, g3]; omega, by rw [g.2.1, g3]; omega⟩)
        unfold mb_works_843
        refine WP.ix sf.2 ?_
        unfold mb_works_857
        exact ih (x3 + 1) _ sf.1 g3 (by omega) (by omega) (by omega)
  have z0 : (0 : Int32).toInt = 0 := rfl
  unfold mb_works_836
  exact lp fu 0 G h rfl (by omega) (by omega) (by omega)
end WORK4
