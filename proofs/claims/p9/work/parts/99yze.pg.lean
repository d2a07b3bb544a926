section WORK5
variable {fu : Nat} {F0 : PF} {G0 : PG} {n : Nat} {a0 d0 : Int} {t0 : Nat} {A : AN} {m : Nat} {F F1 : PF} {G G1 : PG} {k : Nat} {s : SH}
theorem argS_cl : ∀ (L : List Nat) (s : SH), (argS L s).length = s.length + cellsOf L := by
  intro L
  induction L with
  | nil => intro s; rfl
  | cons k L ih =>
    intro s
    show (argS L (pushK k s)).length = _
    rw [ih]
    show (pushK k s).length + cellsOf L = s.length + ((if k = 0 then 1 else 2) + cellsOf L)
    unfold pushK
    by_cases e : k = 0
    · rw [if_pos e, if_pos e, List.length_cons]
      omega
    · rw [if_neg e, if_neg e, List.length_cons, List.length_cons]
      omega
theorem wk_619 (hfu : 8589934592 ≤ fu) (hP : PRG F0 G0) (h84 : (F0 84).toInt ≤ 2000) (x1 x2 : Int32) (s0 : SH) (h : ATK F0 G0 n a0 d0 t0 A m F G k (argS (kindsOf G0 x1.toNatClampNeg) s0)) (hc : (G0 30 (G 91 n).toNatClampNeg).toInt.toNat ≤ k) (hf : (A k).2.2 = true) (hx : 0 ≤ x1.toInt ∧ x1.toInt < (F0 24).toInt) (hl : s0.length ≤ 542) (hj : jp (XF F0 G0 (G 91 n).toNatClampNeg) A m k (k + 1) (0 :: s0)) : WP (mb_works_619 fu x1 x2 F G) (WQR F0 G0 (PHI A m n k (F 78).toInt)) := by
  have bd := h.1.bd hP
  have tt := h.t hP
  obtain ⟨c, h75, h76, km, k8, ht, hv, hls⟩ := h
  obtain ⟨K, h85, fr, geo, h83, h86, ty, cn⟩ := id c
  rw [argS_cl] at ht tt hls
  obtain ⟨v1, v2, v3⟩ := VOK.args _ _ _ hv
  have et : (F 72).toInt.toNat - cellsOf (kindsOf G0 x1.toNatClampNeg) = t0 + s0.length := by omega
  rw [et] at v2 v3
  have i76 : (F 76 + 1).toInt = (F 76).toInt + 1 := i_addn _ rfl (by omega) (by omega)
  have n76 : (F 76 + 1).toInt.toNat = k + 1 := by omega
  have n85 : ¬ F 85 = 0 := fun e => by rw [e] at h85; have : (0 : Int32).toInt = 0 := rfl; omega
  have z0 : (0 : Int32).toInt = 0 := rfl
  have clp : CLP F0 G0 (n + 1) (F 87).toInt (F 83).toInt (t0 + s0.length) x1 (F 76 + 1) F G := by
    refine ⟨K, by rw [h85]; omega, hx, ?_, rfl, h83, fun e => absurd e n85, fun _ => rfl, by omega, v3, cn⟩
    refine ⟨a0, d0, t0, A, m, s0, (A (k + 1)).2.1, FRS.cg n a0 d0 t0 fr (fun _ _ => ⟨rfl, rfl⟩) (fun j hj => upd_n (by omega)) (fun _ _ => rfl) (fun _ _ _ _ => ⟨rfl, rfl⟩), geo, ty, ?_, ?_, hl, rfl, v2⟩
    · rw [upd_s, n76]
      exact ⟨by omega, by omega, hj.1⟩
    · rw [upd_s, n76]
      have e1 := hj.2.1
      have e2 := hj.2.2.1
      rw [← e1, ← e2]
  unfold mb_works_619
  refine WP.bind (wk_calls hfu hP h84 x1 x2 (F 76 + 1) clp) ?_
  rintro r F2 G2 (⟨rfl, g75, g78, g76, g72, g91, A2, m2, cw⟩ | ⟨rfl, g75, K2, cn2⟩)
  · dsimp only
    unfold mb_works_631
    have ty2 := cw.2.2.2.2.2.2.1
    rw [g91] at ty2
    obtain ⟨y1, y2, y3, -⟩ := ty2
    have f0 := (hP.2.2.2.2.2.1 x1.toNatClampNeg (by rw [nN_of hx.1]; exact hx.2)).1
    refine WP.bz (Or.inr rfl) (WP.ret (Or.inl ⟨rfl, g75.trans h75, PHI A2 m2 (n + 1) (G0 30 x1.toNatClampNeg).toInt.toNat (F 78).toInt, ?_, n + 1, (F 87).toInt, (F 83).toInt, t0 + s0.length, A2, m2, cw, ?_, ?_, ?_, ?_⟩))
    · have ma := mA.le (A := A2) (k := (G0 30 x1.toNatClampNeg).toInt.toNat) (m := m2) (by have q := hP.2.2.2.1; have : (sN F0 : Int) = (F0 60).toInt := nN_of q.1; omega)
      unfold PHI
      rw [if_pos hf, y3, if_neg (by decide)]
      omega
    · rw [g76, g91]
      exact ⟨f0, Nat.le_refl _, y1⟩
    · rw [g76, y3, g72]
      show ((t0 + s0.length : Nat) : Int) = ((t0 + s0.length : Nat) : Int) + 0
      omega
    · rw [g76, y3]
      exact trivial
    · rw [g76, g78]
  · dsimp only
    unfold mb_works_631
    exact WP.bz (Or.inl rfl) (WP.ret (Or.inr ⟨rfl, K2, cn2, Or.inl (by rw [g75]; decide)⟩))
/-- a return -/
theorem wk_632 (hP : PRG F0 G0) (h : ATK F0 G0 n a0 d0 t0 A m F G k [0]) : WP (mb_works_632 fu F G) (WQR F0 G0 (PHI A m n k (F 78).toInt)) := by
  have bd := h.1.bd hP
  have tt := h.t hP
  obtain ⟨c, h75, h76, km, k8, ht, hv, -⟩ := h
  obtain ⟨K, h85, fr, geo, h83, h86, ty, cn⟩ := id c
  have ht : (F 72).toInt = t0 + 1 := ht
  have i72 : (F 72 - 1).toInt = t0 := by
    have : (F 72 - 1).toInt = (F 72).toInt - 1 := i_subn _ rfl (by omega) (by omega)
    omega
  have i85 : (F 85 - 1).toInt = n := by
    have : (F 85 - 1).toInt = (F 85).toInt - 1 := i_subn _ rfl (by omega) (by omega)
    omega
  have n72 : (F 72 - 1).toNatClampNeg = t0 := by show (F 72 - 1).toInt.toNat = t0; omega
  have n85 : (F 85 - 1).toNatClampNeg = n := by show (F 85 - 1).toInt.toNat = n; omega
  have v72 : vp_in (F 72 - 1) 280000 := vp_in_iff.mpr ⟨by omega, by omega⟩
  have v85 : vp_in (F 85 - 1) 520 := vp_in_iff.mpr ⟨by omega, by omega⟩
  have hx := geo.1
  have vx : vp_in (G 91 n) 500 := vp_in_iff.mpr ⟨hx.1, by have := hP.1; omega⟩
  have z0 : (0 : Int32).toInt = 0 := rfl
  unfold mb_works_632
  have main : WP (mf_returnsHere fu F G) (fun _ F1 G1 => (F1 75 = 1 ∧ ∃ ψ, ψ < PHI A m n k (F 78).toInt ∧ CUR F0 G0 F1 G1 ψ) ∨ (F1 75 = 3 ∧ KX wkA wkB F0 G0 F1 G1 ∧ CNR F1)) := by
    unfold mf_returnsHere mb_returnsHere_0 mb_returnsHere_10
    refine WP.ix (show vp_in (F 72 - 1) 280000 from v72) ?_
    unfold mb_returnsHere_30
    refine WP.ix (show vp_in (F 85 - 1) 520 from v85) ?_
    refine WP.ite (fun e => ?_) (fun e => ?_)
    · unfold mb_returnsHere_47 mb_returnsHere_52
      refine WP.ix (show vp_in (G 91 (F 85 - 1).toNatClampNeg) 500 from by rw [n85]; exact vx) ?_
      have fin : ∀ v : Int32, WP (mb_returnsHere_67 fu v (fup (fup (fup F 72 (F 72 - 1)) 85 (F 85 - 1)) 75 3) G) (fun _ F1 G1 => (F1 75 = 1 ∧ ∃ ψ, ψ < PHI A m n k (F 78).toInt ∧ CUR F0 G0 F1 G1 ψ) ∨ (F1 75 = 3 ∧ KX wkA wkB F0 G0 F1 G1 ∧ CNR F1)) := by
        intro v
        unfold mb_returnsHere_67 mb_returnsHere_70 mb_returnsHere_75
        exact WP.ret (Or.inr ⟨rfl, KX.f rfl (KX.f rfl (KX.f rfl (KX.f rfl (KX.f rfl K)))), cn⟩)
      exact WP.ite (fun _ => fin _) (fun _ => fin _)
    · have e : ¬ (F 85 - 1) = 0 := e
      obtain ⟨n', rfl⟩ : ∃ q, n = q + 1 := ⟨n - 1, by
        rcases Nat.eq_zero_or_pos n with q | q
        · exact absurd (i_eq.mpr (by rw [i85, q]; rfl)) e
        · omega⟩
      obtain ⟨a1, d1, t1, A1, m1, s1, dd, fr1, geo1, ty1, bk1, Ab, l1, te, vo⟩ := fr
      have i85' : (F 85 - 1 - 1).toInt = n' := by
        have : (F 85 - 1 - 1).toInt = (F 85 - 1).toInt - 1 := i_subn _ rfl (by omega) (by omega)
        omega
      have n85' : (F 85 - 1 - 1).toNatClampNeg = n' := by show (F 85 - 1 - 1).toInt.toNat = n'; omega
      unfold mb_returnsHere_76
      refine WP.ix (show vp_in (G 91 (F 85 - 1).toNatClampNeg) 500 from by rw [n85]; exact vx) ?_
      unfold mb_returnsHere_91
      refine WP.ix (show vp_in (F 85 - 1) 520 from v85) ?_
      unfold mb_returnsHere_104
      refine WP.ix (show vp_in (F 85 - 1 - 1) 520 from vp_in_iff.mpr ⟨by omega, by omega⟩) ?_
      unfold mb_returnsHere_119
      refine WP.ix (show vp_in (F 85 - 1) 520 from v85) ?_
      unfold mb_returnsHere_132
      refine WP.ix (show vp_in (F 72 - 1) 280000 from v72) ?_
      unfold mb_returnsHere_142 mb_returnsHere_152
      show WP (some (0, fup (fup (fup (fup (fup (fup (fup F 72 (F 72 - 1)) 85 (F 85 - 1)) 83 (F 83 - G 28 (G 91 (F 85 - 1).toNatClampNeg).toNatClampNeg)) 87 (G 93 (F 85 - 1).toNatClampNeg)) 86 (G 93 (F 85 - 1 - 1).toNatClampNeg)) 76 (G 92 (F 85 - 1).toNatClampNeg)) 72 (F 72 - 1 + 1), gup G 71 (F 72 - 1).toNatClampNeg (G 71 (F 72 - 1).toNatClampNeg))) _
      rw [n85, n85', n72]
      have g28 : G 28 = G0 28 := K.2 28 rfl
      rw [g28]
      have hd : (F 83 - G0 28 (G 91 (n' + 1)).toNatClampNeg).toInt = d0 := by
        have fn := (hP.2.2.2.2.2.1 (G 91 (n' + 1)).toNatClampNeg (by rw [nN_of hx.1]; exact hx.2))
        obtain ⟨-, -, c8, o, o1, o2, o3, o4⟩ := fn
        have g4 := geo.2.2.2.1
        have b := FRS.bd hP (n' + 1) a0 d0 t0 ⟨a1, d1, t1, A1, m1, s1, dd, fr1, geo1, ty1, bk1, Ab, l1, te, vo⟩
        have : (F 83 - G0 28 (G 91 (n' + 1)).toNatClampNeg).toInt = (F 83).toInt - (G0 28 (G 91 (n' + 1)).toNatClampNeg).toInt := i_subn _ rfl (by omega) (by omega)
        omega
      have hd2 : d0 ≤ 2000 := by
        have fn := (hP.2.2.2.2.2.1 (G 91 (n' + 1)).toNatClampNeg (by rw [nN_of hx.1]; exact hx.2))
        obtain ⟨-, -, c8, o, o1, o2, o3, o4⟩ := fn
        have g4 := geo.2.2.2.1
        omega
      have i73 : (F 72 - 1 + 1).toInt = t0 + 1 := by
        have : (F 72 - 1 + 1).toInt = (F 72 - 1).toInt + 1 := i_addn _ rfl (by omega) (by omega)
        omega
      generalize F 83 - G0 28 (G 91 (n' + 1)).toNatClampNeg = w83 at hd
      generalize F 72 - 1 + 1 = w72 at i73
      generalize F 85 - 1 = w85 at i85
      generalize F 72 - 1 = y72
      have KF : KX wkA wkB F G (fup (fup (fup (fup (fup (fup (fup F 72 y72) 85 w85) 83 w83) 87 (G 93 (n' + 1))) 86 (G 93 n')) 76 (G 92 (n' + 1))) 72 w72) (gup G 71 t0 (G 71 t0)) := KX.f rfl (KX.f rfl (KX.f rfl (KX.f rfl (KX.f rfl (KX.f rfl (KX.f rfl (KX.g rfl KX.rf)))))))
      have f85 : (fup (fup (fup (fup (fup (fup (fup F 72 y72) 85 w85) 83 w83) 87 (G 93 (n' + 1))) 86 (G 93 n')) 76 (G 92 (n' + 1))) 72 w72) 85 = w85 := rfl
      have f83 : (fup (fup (fup (fup (fup (fup (fup F 72 y72) 85 w85) 83 w83) 87 (G 93 (n' + 1))) 86 (G 93 n')) 76 (G 92 (n' + 1))) 72 w72) 83 = w83 := rfl
      have f87 : (fup (fup (fup (fup (fup (fup (fup F 72 y72) 85 w85) 83 w83) 87 (G 93 (n' + 1))) 86 (G 93 n')) 76 (G 92 (n' + 1))) 72 w72) 87 = G 93 (n' + 1) := rfl
      have f86 : (fup (fup (fup (fup (fup (fup (fup F 72 y72) 85 w85) 83 w83) 87 (G 93 (n' + 1))) 86 (G 93 n')) 76 (G 92 (n' + 1))) 72 w72) 86 = G 93 n' := rfl
      have f76 : (fup (fup (fup (fup (fup (fup (fup F 72 y72) 85 w85) 83 w83) 87 (G 93 (n' + 1))) 86 (G 93 n')) 76 (G 92 (n' + 1))) 72 w72) 76 = G 92 (n' + 1) := rfl
      have f72 : (fup (fup (fup (fup (fup (fup (fup F 72 y72) 85 w85) 83 w83) 87 (G 93 (n' + 1))) 86 (G 93 n')) 76 (G 92 (n' + 1))) 72 w72) 72 = w72 := rfl
      have f75 : (fup (fup (fup (fup (fup (fup (fup F 72 y72) 85 w85) 83 w83) 87 (G 93 (n' + 1))) 86 (G 93 n')) 76 (G 92 (n' + 1))) 72 w72) 75 = F 75 := rfl
      have f78 : (fup (fup (fup (fup (fup (fup (fup F 72 y72) 85 w85) 83 w83) 87 (G 93 (n' + 1))) 86 (G 93 n')) 76 (G 92 (n' + 1))) 72 w72) 78 = F 78 := rfl
      have f79 : (fup (fup (fup (fup (fup (fup (fup F 72 y72) 85 w85) 83 w83) 87 (G 93 (n' + 1))) 86 (G 93 n')) 76 (G 92 (n' + 1))) 72 w72) 79 = F 79 := rfl
      have f80 : (fup (fup (fup (fup (fup (fup (fup F 72 y72) 85 w85) 83 w83) 87 (G 93 (n' + 1))) 86 (G 93 n')) 76 (G 92 (n' + 1))) 72 w72) 80 = F 80 := rfl
      generalize fup (fup (fup (fup (fup (fup (fup F 72 y72) 85 w85) 83 w83) 87 (G 93 (n' + 1))) 86 (G 93 n')) 76 (G 92 (n' + 1))) 72 w72 = F2 at KF f85 f83 f87 f86 f76 f72 f75 f78 f79 f80
      have eg : gup G 71 t0 (G 71 t0) = G := gup_same rfl
      rw [eg] at KF ⊢
      obtain ⟨z1, z2⟩ := ty1.len bk1.2.2 (by rw [Ab]; show s1.length + 1 ≤ 602; omega)
      refine WP.ret (Or.inl ⟨f75.trans h75, PHI A1 m1 n' (G 92 (n' + 1)).toInt.toNat (F 78).toInt, ?_, n', a1, d1, t1, A1, m1, ⟨KX.tr K KF rfl rfl, by rw [f85, i85]; omega, fr1, ?_, by rw [f83, hd]; exact hd2, f86, ty1, ?_⟩, ⟨by rw [f76]; exact bk1.1, by rw [f76]; exact z1, by rw [f76]; exact z2⟩, ?_, ?_, by rw [f76, f78]⟩)
      · have ma := mA.le (A := A1) (k := (G 92 (n' + 1)).toInt.toNat) (ty1.m8 hP)
        unfold PHI
        rw [Ab, if_neg (fun q => Bool.false_ne_true q)]
        omega
      · rw [f87, f83, hd, geo.2.1]
        exact geo1
      · unfold CNR at cn ⊢
        rw [f78, f79, f80]
        exact cn
      · rw [f76, Ab, f72, i73, te]
        show ((t1 + s1.length : Nat) : Int) + 1 = (t1 : Int) + ((s1.length + 1 : Nat) : Int)
        omega
      · rw [f76, Ab, f72, show w72.toInt.toNat = t0 + 1 by omega]
        refine ⟨by omega, ?_, fun q => absurd q (by decide), fun q => absurd q (by decide)⟩
        rw [show t0 + 1 - 1 = t0 by omega]
        exact vo
  refine WP.bind main ?_
  rintro r F2 G2 (⟨e, q⟩ | ⟨e, K2, c2⟩)
  · dsimp only
    unfold mb_works_636
    rw [if_pos e]
    unfold mb_works_644 mb_works_649
    exact WP.bz (Or.inr rfl) (WP.ret (Or.inl ⟨rfl, e, q⟩))
  · dsimp only
    unfold mb_works_636
    rw [if_neg (by rw [e]; decide)]
    unfold mb_works_648 mb_works_649
    exact WP.bz (Or.inl rfl) (WP.ret (Or.inr ⟨rfl, K2, c2, Or.inl (by rw [e]; decide)⟩))
theorem wk_works (hfu : 8589934592 ≤ fu) (hP : PRG F0 G0) (h84 : (F0 84).toInt ≤ 2000) {φ : Nat} (h : CUR F0 G0 F G φ) (h75 : F 75 = 1) : WP (mf_works fu F G) (WQR F0 G0 φ) := by
  obtain ⟨n, a0, d0, t0, A, m, c, ⟨p0, p1, p2⟩, ht, hv, rfl⟩ := h
  obtain ⟨k, hk⟩ : ∃ k, (F 76).toInt.toNat = k := ⟨_, rfl⟩
  rw [hk] at p1 p2 ht hv ⊢
  have ty := c.2.2.2.2.2.2.1
  have m8 := ty.m8 hP
  obtain ⟨l6, tt⟩ := ty.2.2.2.1 k p1 p2
  obtain ⟨s, hs⟩ : ∃ s, (A k).1 = s := ⟨_, rfl⟩
  rw [hs] at l6 tt ht hv
  have at_ : ATK F0 G0 n a0 d0 t0 A m F G k s := ⟨c, h75, by omega, p2, by omega, ht, hv, by omega⟩
  obtain ⟨g56, g57, g58, g59, ek, v76⟩ := at_.code
  have geo := c.2.2.2.1
  obtain ⟨x1, x2⟩ := XF.c hP geo.1
  rw [← g56, ← g57, ← g58, ← g59] at tt
  unfold mf_works mb_works_0
  refine WP.ix v76 (WP.ix v76 (WP.ix v76 ?_))
  rw [ek]
  rcases tt with ⟨s1, ho, hj⟩ | ⟨e, ha, hj⟩ | ⟨e, s0, hs0, ha, hj, hj1⟩ | ⟨-, tt⟩
  · rcases ho with ⟨e, rfl⟩ | ⟨e, s0, rfl, rfl⟩ | ⟨e, s0, rfl, rfl⟩ | ⟨e, s0, rfl, rfl⟩ | ⟨-, ho⟩
    · rw [if_pos (show (G 56 k).toInt < 1 ∨ 22 < (G 56 k).toInt by rw [e]; decide)]
      exact wk_866 hP at_ l6 (Or.inl ⟨e, hj⟩)
    · rw [if_neg (show ¬ ((G 56 k).toInt < 1 ∨ 22 < (G 56 k).toInt) by rw [e]; decide), if_neg (show ¬ G 56 k = 1 by rw [e]; decide), if_neg (show ¬ G 56 k = 2 by rw [e]; decide), if_neg (show ¬ G 56 k = 3 by rw [e]; decide), if_neg (show ¬ G 56 k = 4 by rw [e]; decide), if_neg (show ¬ G 56 k = 5 by rw [e]; decide), if_neg (show ¬ G 56 k = 6 by rw [e]; decide), if_neg (show ¬ G 56 k = 7 by rw [e]; decide), if_neg (show ¬ G 56 k = 8 by rw [e]; decide), if_neg (show ¬ G 56 k = 9 by rw [e]; decide), if_pos (show G 56 k = 10 from e)]
      exact wk_866 hP at_ l6 (Or.inr (Or.inl ⟨e, s0, rfl, hj⟩))
    · rw [if_neg (show ¬ ((G 56 k).toInt < 1 ∨ 22 < (G 56 k).toInt) by rw [e]; decide), if_neg (show ¬ G 56 k = 1 by rw [e]; decide), if_neg (show ¬ G 56 k = 2 by rw [e]; decide), if_neg (show ¬ G 56 k = 3 by rw [e]; decide), if_neg (show ¬ G 56 k = 4 by rw [e]; decide), if_neg (show ¬ G 56 k = 5 by rw [e]; decide), if_neg (show ¬ G 56 k = 6 by rw [e]; decide), if_neg (show ¬ G 56 k = 7 by rw [e]; decide), if_neg (show ¬ G 56 k = 8 by rw [e]; decide), if_neg (show ¬ G 56 k = 9 by rw [e]; decide), if_neg (show ¬ G 56 k = 10 by rw [e]; decide), if_pos (show G 56 k = 11 from e)]
      exact wk_866 hP at_ l6 (Or.inr (Or.inr (Or.inl ⟨Or.inl e, s0, rfl, hj⟩)))
    · rw [if_pos (show (G 56 k).toInt < 1 ∨ 22 < (G 56 k).toInt by rw [e]; decide)]
      exact wk_866 hP at_ l6 (Or.inr (Or.inr (Or.inl ⟨Or.inr e, s0, rfl, hj⟩)))
    · rw [x1, x2] at ho
      rcases ho with ⟨e, b1, b2, rfl⟩ | ⟨e, b1, b2, b3, rfl⟩ | ⟨e, b1, b2, rfl⟩ | ⟨e, b1, b2, rfl⟩ | ⟨e, b1, rfl⟩ | ⟨e, b1, s0, rfl, rfl⟩ | ⟨e, s0, rfl, rfl⟩ | ⟨e, rfl⟩ | ⟨e, s0, rfl, rfl⟩ | ⟨e, rfl⟩ | ⟨e, rfl⟩ | ⟨e, rfl⟩ | ⟨e, b1, b2, b3, rfl⟩
      · rw [if_neg (show ¬ ((G 56 k).toInt < 1 ∨ 22 < (G 56 k).toInt) by rw [e]; decide), if_pos (show G 56 k = 1 from e)]
        exact wk_132 hP at_ l6 _ (Or.inl ⟨e, b1, b2⟩) hj
      · rw [if_neg (show ¬ ((G 56 k).toInt < 1 ∨ 22 < (G 56 k).toInt) by rw [e]; decide), if_neg (show ¬ G 56 k = 1 by rw [e]; decide), if_pos (show G 56 k = 2 from e)]
        exact wk_182 hP at_ _ (Or.inl ⟨e, b1, b2, b3⟩) hj
      · rw [if_neg (show ¬ ((G 56 k).toInt < 1 ∨ 22 < (G 56 k).toInt) by rw [e]; decide), if_neg (show ¬ G 56 k = 1 by rw [e]; decide), if_neg (show ¬ G 56 k = 2 by rw [e]; decide), if_pos (show G 56 k = 3 from e)]
        exact wk_132 hP at_ l6 _ (Or.inr ⟨by rw [e]; decide, b1, b2⟩) hj
      · rw [if_neg (show ¬ ((G 56 k).toInt < 1 ∨ 22 < (G 56 k).toInt) by rw [e]; decide), if_neg (show ¬ G 56 k = 1 by rw [e]; decide), if_neg (show ¬ G 56 k = 2 by rw [e]; decide), if_neg (show ¬ G 56 k = 3 by rw [e]; decide), if_pos (show G 56 k = 4 from e)]
        exact wk_182 hP at_ _ (Or.inr ⟨by rw [e]; decide, b1, b2⟩) hj
      · rw [if_neg (show ¬ ((G 56 k).toInt < 1 ∨ 22 < (G 56 k).toInt) by rw [e]; decide), if_neg (show ¬ G 56 k = 1 by rw [e]; decide), if_neg (show ¬ G 56 k = 2 by rw [e]; decide), if_neg (show ¬ G 56 k = 3 by rw [e]; decide), if_neg (show ¬ G 56 k = 4 by rw [e]; decide), if_pos (show G 56 k = 5 from e)]
        exact wk_232 hP at_ l6 _ _ b1 hj
      · rw [if_neg (show ¬ ((G 56 k).toInt < 1 ∨ 22 < (G 56 k).toInt) by rw [e]; decide), if_neg (show ¬ G 56 k = 1 by rw [e]; decide), if_neg (show ¬ G 56 k = 2 by rw [e]; decide), if_neg (show ¬ G 56 k = 3 by rw [e]; decide), if_neg (show ¬ G 56 k = 4 by rw [e]; decide), if_neg (show ¬ G 56 k = 5 by rw [e]; decide), if_pos (show G 56 k = 6 from e)]
        exact wk_329 hP at_ _ _ b1 hj
      · rw [if_neg (show ¬ ((G 56 k).toInt < 1 ∨ 22 < (G 56 k).toInt) by rw [e]; decide), if_neg (show ¬ G 56 k = 1 by rw [e]; decide), if_neg (show ¬ G 56 k = 2 by rw [e]; decide), if_neg (show ¬ G 56 k = 3 by rw [e]; decide), if_neg (show ¬ G 56 k = 4 by rw [e]; decide), if_neg (show ¬ G 56 k = 5 by rw [e]; decide), if_neg (show ¬ G 56 k = 6 by rw [e]; decide), if_pos (show G 56 k = 7 from e)]
        exact wk_463 hP at_ hj
      · rw [if_neg (show ¬ ((G 56 k).toInt < 1 ∨ 22 < (G 56 k).toInt) by rw [e]; decide), if_neg (show ¬ G 56 k = 1 by rw [e]; decide), if_neg (show ¬ G 56 k = 2 by rw [e]; decide), if_neg (show ¬ G 56 k = 3 by rw [e]; decide), if_neg (show ¬ G 56 k = 4 by rw [e]; decide), if_neg (show ¬ G 56 k = 5 by rw [e]; decide), if_neg (show ¬ G 56 k = 6 by rw [e]; decide), if_neg (show ¬ G 56 k = 7 by rw [e]; decide), if_pos (show G 56 k = 8 from e)]
        exact wk_493 hP at_ _ hj
      · rw [if_neg (show ¬ ((G 56 k).toInt < 1 ∨ 22 < (G 56 k).toInt) by rw [e]; decide), if_neg (show ¬ G 56 k = 1 by rw [e]; decide), if_neg (show ¬ G 56 k = 2 by rw [e]; decide), if_neg (show ¬ G 56 k = 3 by rw [e]; decide), if_neg (show ¬ G 56 k = 4 by rw [e]; decide), if_neg (show ¬ G 56 k = 5 by rw [e]; decide), if_neg (show ¬ G 56 k = 6 by rw [e]; decide), if_neg (show ¬ G 56 k = 7 by rw [e]; decide), if_neg (show ¬ G 56 k = 8 by rw [e]; decide), if_pos (show G 56 k = 9 from e)]
        exact wk_554 hP at_ l6 hj
      · rw [if_neg (show ¬ ((G 56 k).toInt < 1 ∨ 22 < (G 56 k).toInt) by rw [e]; decide), if_neg (show ¬ G 56 k = 1 by rw [e]; decide), if_neg (show ¬ G 56 k = 2 by rw [e]; decide), if_neg (show ¬ G 56 k = 3 by rw [e]; decide), if_neg (show ¬ G 56 k = 4 by rw [e]; decide), if_neg (show ¬ G 56 k = 5 by rw [e]; decide), if_neg (show ¬ G 56 k = 6 by rw [e]; decide), if_neg (show ¬ G 56 k = 7 by rw [e]; decide), if_neg (show ¬ G 56 k = 8 by rw [e]; decide), if_neg (show ¬ G 56 k = 9 by rw [e]; decide), if_neg (show ¬ G 56 k = 10 by rw [e]; decide), if_neg (show ¬ G 56 k = 11 by rw [e]; decide), if_neg (show ¬ G 56 k = 12 by rw [e]; decide), if_neg (show ¬ G 56 k = 13 by rw [e]; decide), if_neg (show ¬ G 56 k = 14 by rw [e]; decide), if_neg (show ¬ G 56 k = 15 by rw [e]; decide), if_neg (show ¬ G 56 k = 16 by rw [e]; decide), if_neg (show ¬ G 56 k = 17 by rw [e]; decide), if_pos (show G 56 k = 18 from e)]
        exact wk_650 hP at_ hj
      · rw [if_neg (show ¬ ((G 56 k).toInt < 1 ∨ 22 < (G 56 k).toInt) by rw [e]; decide), if_neg (show ¬ G 56 k = 1 by rw [e]; decide), if_neg (show ¬ G 56 k = 2 by rw [e]; decide), if_neg (show ¬ G 56 k = 3 by rw [e]; decide), if_neg (show ¬ G 56 k = 4 by rw [e]; decide), if_neg (show ¬ G 56 k = 5 by rw [e]; decide), if_neg (show ¬ G 56 k = 6 by rw [e]; decide), if_neg (show ¬ G 56 k = 7 by rw [e]; decide), if_neg (show ¬ G 56 k = 8 by rw [e]; decide), if_neg (show ¬ G 56 k = 9 by rw [e]; decide), if_neg (show ¬ G 56 k = 10 by rw [e]; decide), if_neg (show ¬ G 56 k = 11 by rw [e]; decide), if_neg (show ¬ G 56 k = 12 by rw [e]; decide), if_neg (show ¬ G 56 k = 13 by rw [e]; decide), if_neg (show ¬ G 56 k = 14 by rw [e]; decide), if_neg (show ¬ G 56 k = 15 by rw [e]; decide), if_neg (show ¬ G 56 k = 16 by rw [e]; decide), if_neg (show ¬ G 56 k = 17 by rw [e]; decide), if_neg (show ¬ G 56 k = 18 by rw [e]; decide), if_pos (show G 56 k = 19 from e)]
        exact wk_663 hP at_ hj
      · rw [if_neg (show ¬ ((G 56 k).toInt < 1 ∨ 22 < (G 56 k).toInt) by rw [e]; decide), if_neg (show ¬ G 56 k = 1 by rw [e]; decide), if_neg (show ¬ G 56 k = 2 by rw [e]; decide), if_neg (show ¬ G 56 k = 3 by rw [e]; decide), if_neg (show ¬ G 56 k = 4 by rw [e]; decide), if_neg (show ¬ G 56 k = 5 by rw [e]; decide), if_neg (show ¬ G 56 k = 6 by rw [e]; decide), if_neg (show ¬ G 56 k = 7 by rw [e]; decide), if_neg (show ¬ G 56 k = 8 by rw [e]; decide), if_neg (show ¬ G 56 k = 9 by rw [e]; decide), if_neg (show ¬ G 56 k = 10 by rw [e]; decide), if_neg (show ¬ G 56 k = 11 by rw [e]; decide), if_neg (show ¬ G 56 k = 12 by rw [e]; decide), if_neg (show ¬ G 56 k = 13 by rw [e]; decide), if_neg (show ¬ G 56 k = 14 by rw [e]; decide), if_neg (show ¬ G 56 k = 15 by rw [e]; decide), if_neg (show ¬ G 56 k = 16 by rw [e]; decide), if_neg (show ¬ G 56 k = 17 by rw [e]; decide), if_neg (show ¬ G 56 k = 18 by rw [e]; decide), if_neg (show ¬ G 56 k = 19 by rw [e]; decide), if_neg (show ¬ G 56 k = 20 by rw [e]; decide), if_pos (show G 56 k = 21 from e)]
        exact wk_754 hfu hP at_ hs l6 p1 hj
      · rw [if_neg (show ¬ ((G 56 k).toInt < 1 ∨ 22 < (G 56 k).toInt) by rw [e]; decide), if_neg (show ¬ G 56 k = 1 by rw [e]; decide), if_neg (show ¬ G 56 k = 2 by rw [e]; decide), if_neg (show ¬ G 56 k = 3 by rw [e]; decide), if_neg (show ¬ G 56 k = 4 by rw [e]; decide), if_neg (show ¬ G 56 k = 5 by rw [e]; decide), if_neg (show ¬ G 56 k = 6 by rw [e]; decide), if_neg (show ¬ G 56 k = 7 by rw [e]; decide), if_neg (show ¬ G 56 k = 8 by rw [e]; decide), if_neg (show ¬ G 56 k = 9 by rw [e]; decide), if_neg (show ¬ G 56 k = 10 by rw [e]; decide), if_neg (show ¬ G 56 k = 11 by rw [e]; decide), if_neg (show ¬ G 56 k = 12 by rw [e]; decide), if_neg (show ¬ G 56 k = 13 by rw [e]; decide), if_neg (show ¬ G 56 k = 14 by rw [e]; decide), if_neg (show ¬ G 56 k = 15 by rw [e]; decide), if_neg (show ¬ G 56 k = 16 by rw [e]; decide), if_neg (show ¬ G 56 k = 17 by rw [e]; decide), if_neg (show ¬ G 56 k = 18 by rw [e]; decide), if_neg (show ¬ G 56 k = 19 by rw [e]; decide), if_neg (show ¬ G 56 k = 20 by rw [e]; decide), if_neg (show ¬ G 56 k = 21 by rw [e]; decide)]
        exact wk_836 hfu hP at_ _ _ ⟨b1, b2, b3⟩ hj
  · rw [if_neg (show ¬ ((G 56 k).toInt < 1 ∨ 22 < (G 56 k).toInt) by rw [e]; decide), if_neg (show ¬ G 56 k = 1 by rw [e]; decide), if_neg (show ¬ G 56 k = 2 by rw [e]; decide), if_neg (show ¬ G 56 k = 3 by rw [e]; decide), if_neg (show ¬ G 56 k = 4 by rw [e]; decide), if_neg (show ¬ G 56 k = 5 by rw [e]; decide), if_neg (show ¬ G 56 k = 6 by rw [e]; decide), if_neg (show ¬ G 56 k = 7 by rw [e]; decide), if_neg (show ¬ G 56 k = 8 by rw [e]; decide), if_neg (show ¬ G 56 k = 9 by rw [e]; decide), if_neg (show ¬ G 56 k = 10 by rw [e]; decide), if_neg (show ¬ G 56 k = 11 by rw [e]; decide), if_pos (show G 56 k = 12 from e)]
    exact wk_866 hP at_ l6 (Or.inr (Or.inr (Or.inr (Or.inl ⟨e, ha, hj⟩))))
  · have go := wk_866 (fu := fu) hP at_ l6 (Or.inr (Or.inr (Or.inr (Or.inr ⟨e, s0, hs0, ha, hj, hj1⟩))))
    rcases e with e | e
    · rw [if_neg (show ¬ ((G 56 k).toInt < 1 ∨ 22 < (G 56 k).toInt) by rw [e]; decide), if_neg (show ¬ G 56 k = 1 by rw [e]; decide), if_neg (show ¬ G 56 k = 2 by rw [e]; decide), if_neg (show ¬ G 56 k = 3 by rw [e]; decide), if_neg (show ¬ G 56 k = 4 by rw [e]; decide), if_neg (show ¬ G 56 k = 5 by rw [e]; decide), if_neg (show ¬ G 56 k = 6 by rw [e]; decide), if_neg (show ¬ G 56 k = 7 by rw [e]; decide), if_neg (show ¬ G 56 k = 8 by rw [e]; decide), if_neg (show ¬ G 56 k = 9 by rw [e]; decide), if_neg (show ¬ G 56 k = 10 by rw [e]; decide), if_neg (show ¬ G 56 k = 11 by rw [e]; decide), if_neg (show ¬ G 56 k = 12 by rw [e]; decide), if_pos (show G 56 k = 13 from e)]
      exact go
    · rw [if_neg (show ¬ ((G 56 k).toInt < 1 ∨ 22 < (G 56 k).toInt) by rw [e]; decide), if_neg (show ¬ G 56 k = 1 by rw [e]; decide), if_neg (show ¬ G 56 k = 2 by rw [e]; decide), if_neg (show ¬ G 56 k = 3 by rw [e]; decide), if_neg (show ¬ G 56 k = 4 by rw [e]; decide), if_neg (show ¬ G 56 k = 5 by rw [e]; decide), if_neg (show ¬ G 56 k = 6 by rw [e]; decide), if_neg (show ¬ G 56 k = 7 by rw [e]; decide), if_neg (show ¬ G 56 k = 8 by rw [e]; decide), if_neg (show ¬ G 56 k = 9 by rw [e]; decide), if_neg (show ¬ G 56 k = 10 by rw [e]; decide), if_neg (show ¬ G 56 k = 11 by rw [e]; decide), if_neg (show ¬ G 56 k = 12 by rw [e]; decide), if_neg (show ¬ G 56 k = 13 by rw [e]; decide), if_pos (show G 56 k = 14 from e)]
      exact go
  · rcases tt with ⟨e, b1, b2⟩ | ⟨e, b1, b2, b3, s0, b4, b5, hj⟩ | ⟨e, b1⟩ | ⟨e, s0, rfl⟩
    · rw [if_neg (show ¬ ((G 56 k).toInt < 1 ∨ 22 < (G 56 k).toInt) by rw [e]; decide), if_neg (show ¬ G 56 k = 1 by rw [e]; decide), if_neg (show ¬ G 56 k = 2 by rw [e]; decide), if_neg (show ¬ G 56 k = 3 by rw [e]; decide), if_neg (show ¬ G 56 k = 4 by rw [e]; decide), if_neg (show ¬ G 56 k = 5 by rw [e]; decide), if_neg (show ¬ G 56 k = 6 by rw [e]; decide), if_neg (show ¬ G 56 k = 7 by rw [e]; decide), if_neg (show ¬ G 56 k = 8 by rw [e]; decide), if_neg (show ¬ G 56 k = 9 by rw [e]; decide), if_neg (show ¬ G 56 k = 10 by rw [e]; decide), if_neg (show ¬ G 56 k = 11 by rw [e]; decide), if_neg (show ¬ G 56 k = 12 by rw [e]; decide), if_neg (show ¬ G 56 k = 13 by rw [e]; decide), if_neg (show ¬ G 56 k = 14 by rw [e]; decide), if_pos (show G 56 k = 15 from e)]
      exact wk_587 hP at_ hs l6 p1 b1 b2
    · rw [if_neg (show ¬ ((G 56 k).toInt < 1 ∨ 22 < (G 56 k).toInt) by rw [e]; decide), if_neg (show ¬ G 56 k = 1 by rw [e]; decide), if_neg (show ¬ G 56 k = 2 by rw [e]; decide), if_neg (show ¬ G 56 k = 3 by rw [e]; decide), if_neg (show ¬ G 56 k = 4 by rw [e]; decide), if_neg (show ¬ G 56 k = 5 by rw [e]; decide), if_neg (show ¬ G 56 k = 6 by rw [e]; decide), if_neg (show ¬ G 56 k = 7 by rw [e]; decide), if_neg (show ¬ G 56 k = 8 by rw [e]; decide), if_neg (show ¬ G 56 k = 9 by rw [e]; decide), if_neg (show ¬ G 56 k = 10 by rw [e]; decide), if_neg (show ¬ G 56 k = 11 by rw [e]; decide), if_neg (show ¬ G 56 k = 12 by rw [e]; decide), if_neg (show ¬ G 56 k = 13 by rw [e]; decide), if_neg (show ¬ G 56 k = 14 by rw [e]; decide), if_neg (show ¬ G 56 k = 15 by rw [e]; decide), if_pos (show G 56 k = 16 from e)]
      have b3' : (G 57 k).toInt < (F0 24).toInt := by
        have q := hP.1
        have b3 : (G 57 k).toInt < ((F0 24).toInt.toNat : Int) := b3
        omega
      have b4 : s = argS (kindsOf G0 (G 57 k).toNatClampNeg) s0 := b4
      rw [b4] at at_
      exact wk_619 hfu hP h84 _ _ s0 at_ p1 b1 ⟨b2, b3'⟩ b5 hj
    · rw [if_neg (show ¬ ((G 56 k).toInt < 1 ∨ 22 < (G 56 k).toInt) by rw [e]; decide), if_neg (show ¬ G 56 k = 1 by rw [e]; decide), if_neg (show ¬ G 56 k = 2 by rw [e]; decide), if_neg (show ¬ G 56 k = 3 by rw [e]; decide), if_neg (show ¬ G 56 k = 4 by rw [e]; decide), if_neg (show ¬ G 56 k = 5 by rw [e]; decide), if_neg (show ¬ G 56 k = 6 by rw [e]; decide), if_neg (show ¬ G 56 k = 7 by rw [e]; decide), if_neg (show ¬ G 56 k = 8 by rw [e]; decide), if_neg (show ¬ G 56 k = 9 by rw [e]; decide), if_neg (show ¬ G 56 k = 10 by rw [e]; decide), if_neg (show ¬ G 56 k = 11 by rw [e]; decide), if_neg (show ¬ G 56 k = 12 by rw [e]; decide), if_neg (show ¬ G 56 k = 13 by rw [e]; decide), if_neg (show ¬ G 56 k = 14 by rw [e]; decide), if_neg (show ¬ G 56 k = 15 by rw [e]; decide), if_neg (show ¬ G 56 k = 16 by rw [e]; decide), if_pos (show G 56 k = 17 from e)]
      rw [b1] at at_
      exact wk_632 hP at_
    · rw [if_neg (show ¬ ((G 56 k).toInt < 1 ∨ 22 < (G 56 k).toInt) by rw [e]; decide), if_neg (show ¬ G 56 k = 1 by rw [e]; decide), if_neg (show ¬ G 56 k = 2 by rw [e]; decide), if_neg (show ¬ G 56 k = 3 by rw [e]; decide), if_neg (show ¬ G 56 k = 4 by rw [e]; decide), if_neg (show ¬ G 56 k = 5 by rw [e]; decide), if_neg (show ¬ G 56 k = 6 by rw [e]; decide), if_neg (show ¬ G 56 k = 7 by rw [e]; decide), if_neg (show ¬ G 56 k = 8 by rw [e]; decide), if_neg (show ¬ G 56 k = 9 by rw [e]; decide), if_neg (show ¬ G 56 k = 10 by rw [e]; decide), if_neg (show ¬ G 56 k = 11 by rw [e]; decide), if_neg (show ¬ G 56 k = 12 by rw [e]; decide), if_neg (show ¬ G 56 k = 13 by rw [e]; decide), if_neg (show ¬ G 56 k = 14 by rw [e]; decide), if_neg (show ¬ G 56 k = 15 by rw [e]; decide), if_neg (show ¬ G 56 k = 16 by rw [e]; decide), if_neg (show ¬ G 56 k = 17 by rw [e]; decide), if_neg (show ¬ G 56 k = 18 by rw [e]; decide), if_neg (show ¬ G 56 k = 19 by rw [e]; decide), if_pos (show G 56 k = 20 from e)]
      exact wk_724 hP at_
end WORK5
