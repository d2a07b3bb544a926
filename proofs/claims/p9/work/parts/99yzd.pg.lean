section CALLS2
variable {fu : Nat} {F0 : PF} {G0 : PG} {N : Nat} {a d : Int} {t : Nat} {F : PF} {G : PG}
theorem wk_130 (hP : PRG F0 G0) (h84 : (F0 84).toInt ≤ 2000) (x1 x3 x4 x5 : Int32) (h : CLP F0 G0 N a d t x1 x3 F G) (hx4 : x4.toInt = a) (hx5 : x5.toInt = cellsOf (kindsOf G0 x1.toNatClampNeg)) (F2 : PF) (KF : KX [72, 83] [] F G F2 G) (e83 : (F2 83).toInt = d + (G0 28 x1.toNatClampNeg).toInt) (hd : (F2 83).toInt ≤ 2000) (e72 : (F2 72).toInt = t) : ∀ (j : Nat) (x6 : Int32) (G2 : PG), KX [] [90] F2 G F2 G2 → 0 ≤ x6.toInt → x6.toInt ≤ (G0 29 x1.toNatClampNeg).toInt → (∀ j : Nat, (j : Int) < a → G2 90 j = G 90 j) → (∀ p : Nat, (p : Int) < x6.toInt → p < cellsOf (kindsOf G0 x1.toNatClampNeg) → G2 90 (a.toNat + p) = G 71 (t + p)) → ((G0 29 x1.toNatClampNeg).toInt - x6.toInt).toNat < j → WP (ml_calls_130 fu j x1 x3 x4 x5 x6 F2 G2) (CLQ F0 G0 N a d t x1 F) := by
  have hK := h.1
  have hx := h.2.2.1
  have b := FRS.bd hP N a d t h.2.2.2.1
  have fnt := hP.2.2.2.2.2.1 x1.toNatClampNeg (by rw [nN_of hx.1]; exact hx.2)
  obtain ⟨f0, -, c8, o, o1, o2, o3, o4⟩ := fnt
  have h37 := hP.2.2.1
  have hx5' : x1.toInt < 500 := by have := hP.1; omega
  have v1 : vp_in x1 500 := vp_in_iff.mpr ⟨hx.1, hx5'⟩
  intro j
  induction j with
  | zero => intro x6 G2 _ _ _ _ _ q; omega
  | succ j ih =>
    intro x6 G2 K2 y0 y1 hlo hhi hm
    show WP (mb_calls_130 fu (ml_calls_130 fu j) x1 x3 x4 x5 x6 F2 G2) _
    have g29 : G2 29 = G0 29 := (K2.2 29 rfl).trans (hK.2 29 rfl)
    unfold mb_calls_130
    rw [g29]
    refine WP.ix v1 (WP.ite (fun c => ?_) (fun c => ?_))
    · have c := i_le.mp c
      exact wk_180 hP h84 x1 x3 x4 h hx4 F2 G2 (KX.tr (KX.tr KX.rf KF rfl rfl) K2 rfl rfl) e83 hd e72 hlo (fun p hp => hhi p (by omega) hp)
    · have c := mt i_le.mpr c
      have i1 : (x6 + 1).toInt = x6.toInt + 1 := i_addn _ rfl (by omega) (by omega)
      have i4 : (x4 + x6).toInt = a + x6.toInt := by
        have : (x4 + x6).toInt = x4.toInt + x6.toInt := i_addn _ rfl (by omega) (by omega)
        omega
      have v46 : vp_in (x4 + x6) 20000 := vp_in_iff.mpr ⟨by omega, by omega⟩
      have n46 : (x4 + x6).toNatClampNeg = a.toNat + x6.toInt.toNat := by show (x4 + x6).toInt.toNat = _; omega
      have nx : ∀ v : Int32, (x6.toInt < cellsOf (kindsOf G0 x1.toNatClampNeg) → v = G 71 (t + x6.toInt.toNat)) → WP (mb_calls_173 fu (ml_calls_130 fu j) x1 x3 x4 x5 x6 v (x4 + x6) F2 G2) (CLQ F0 G0 N a d t x1 F) := by
        intro v hv
        unfold mb_calls_173
        refine WP.ix v46 ?_
        unfold mb_calls_174
        refine ih (x6 + 1) _ (KX.g rfl K2) (by omega) (by omega) (fun i hi => ?_) (fun p hp hc => ?_) (by omega)
        · rw [gup_x (by rw [n46]; omega)]
          exact hlo i hi
        · by_cases e : p = x6.toInt.toNat
          · rw [n46, e, gup_i]
            exact hv (by omega)
          · rw [gup_x (by rw [n46]; omega)]
            exact hhi p (by omega) hc
      unfold mb_calls_141
      refine WP.ite (fun c5 => ?_) (fun c5 => ?_)
      · have c5 := i_le.mp c5
        unfold mb_calls_172
        exact nx 0 (fun q => by omega)
      · have c5 := mt i_le.mpr c5
        have i7 : (F2 72 + x6).toInt = t + x6.toInt := by
          have : (F2 72 + x6).toInt = (F2 72).toInt + x6.toInt := i_addn _ rfl (by omega) (by omega)
          omega
        have n7 : (F2 72 + x6).toNatClampNeg = t + x6.toInt.toNat := by show (F2 72 + x6).toInt.toNat = _; omega
        have g71 : G2 71 = G 71 := K2.2 71 rfl
        unfold mb_calls_157
        refine WP.ix (vp_in_iff.mpr ⟨by omega, by omega⟩) (nx _ (fun _ => ?_))
        rw [n7, g71]
theorem wk_72 (hfu : 8589934592 ≤ fu) (hP : PRG F0 G0) (h84 : (F0 84).toInt ≤ 2000) (x1 x3 x4 : Int32) (h : CLP F0 G0 N a d t x1 x3 F G) (hx4 : x4.toInt = a) (F2 : PF) (KF : KX [83] [] F G F2 G) (e83 : (F2 83).toInt = d + (G0 28 x1.toNatClampNeg).toInt) (hd : (F2 83).toInt ≤ 2000) : ∀ (j : Nat) (x5 x6 : Int32), 0 ≤ x6.toInt → x6.toInt ≤ (G0 27 x1.toNatClampNeg).toInt → x5.toInt = cellsOf ((List.range x6.toInt.toNat).map (fun i => (G0 34 ((G0 31 x1.toNatClampNeg).toInt.toNat + i)).toInt.toNat)) → ((G0 27 x1.toNatClampNeg).toInt - x6.toInt).toNat < j → WP (ml_calls_72 fu j x1 x3 x4 x5 x6 F2 G) (CLQ F0 G0 N a d t x1 F) := by
  have hK := h.1
  have hx := h.2.2.1
  have b := FRS.bd hP N a d t h.2.2.2.1
  have nx1 := nN_of hx.1
  obtain ⟨q1, q2, q3, q4, q5⟩ := hP.2.2.2.2.1 x1.toNatClampNeg (by rw [nx1]; exact hx.2)
  have q6 := hP.2.2.2.2.2.2.2.2.2 x1.toNatClampNeg (by rw [nx1]; exact hx.2)
  have fnt := hP.2.2.2.2.2.1 x1.toNatClampNeg (by rw [nx1]; exact hx.2)
  obtain ⟨f0, -, c8, o, o1, o2, o3, o4⟩ := fnt
  have hx5' : x1.toInt < 500 := by have := hP.1; omega
  have v1 : vp_in x1 500 := vp_in_iff.mpr ⟨hx.1, hx5'⟩
  have h37 := hP.2.2.1
  intro j
  induction j with
  | zero => intro x5 x6 _ _ _ q; omega
  | succ j ih =>
    intro x5 x6 y0 y1 y2 hm
    show WP (mb_calls_72 fu (ml_calls_72 fu j) x1 x3 x4 x5 x6 F2 G) _
    have g27 : G 27 = G0 27 := hK.2 27 rfl
    have g31 : G 31 = G0 31 := hK.2 31 rfl
    have g34 : G 34 = G0 34 := hK.2 34 rfl
    unfold mb_calls_72
    rw [g27]
    refine WP.ix v1 (WP.ite (fun c => ?_) (fun c => ?_))
    · have c := i_le.mp c
      have e6 : x6.toInt.toNat = (G0 27 x1.toNatClampNeg).toInt.toNat := by omega
      have e5 : x5.toInt = cellsOf (kindsOf G0 x1.toNatClampNeg) := by rw [y2, e6]; rfl
      have e72 := h.2.2.2.2.2.2.2.2.1
      have s72 : F2 72 = F 72 := KF.1 72 rfl
      have i72 : (F2 72 - x5).toInt = t := by
        have : (F2 72 - x5).toInt = (F2 72).toInt - x5.toInt := i_subn _ rfl (by rw [s72]; omega) (by rw [s72]; omega)
        rw [this, s72]
        omega
      unfold mb_calls_116 mb_calls_127
      exact wk_130 hP h84 x1 x3 x4 x5 h hx4 e5 (fup F2 72 (F2 72 - x5)) (KX.f rfl (KX.tr KX.rf KF rfl rfl)) e83 hd i72 fu 0 G KX.rf (by decide) (by have : (0 : Int32).toInt = 0 := rfl; omega) (fun _ _ => rfl) (fun p hp => by have : (0 : Int32).toInt = 0 := rfl; omega) (by have : (0 : Int32).toInt = 0 := rfl; omega)
    · have c := mt i_le.mpr c
      have i1 : (x6 + 1).toInt = x6.toInt + 1 := i_addn _ rfl (by omega) (by omega)
      have i3 : (G0 31 x1.toNatClampNeg + x6).toInt = (G0 31 x1.toNatClampNeg).toInt + x6.toInt := i_addn _ rfl (by omega) (by omega)
      have n3 : (G0 31 x1.toNatClampNeg + x6).toNatClampNeg = (G0 31 x1.toNatClampNeg).toInt.toNat + x6.toInt.toNat := by show (G0 31 x1.toNatClampNeg + x6).toInt.toNat = _; omega
      have rs : List.range (x6 + 1).toInt.toNat = List.range x6.toInt.toNat ++ [x6.toInt.toNat] := by
        rw [show (x6 + 1).toInt.toNat = x6.toInt.toNat + 1 by omega, List.range_succ]
      have ca := cellsOf_app (k := (G0 34 ((G0 31 x1.toNatClampNeg).toInt.toNat + x6.toInt.toNat)).toInt.toNat) ((List.range x6.toInt.toNat).map (fun i => (G0 34 ((G0 31 x1.toNatClampNeg).toInt.toNat + i)).toInt.toNat))
      have le := cellsOf_le ((List.range x6.toInt.toNat).map (fun i => (G0 34 ((G0 31 x1.toNatClampNeg).toInt.toNat + i)).toInt.toNat))
      rw [List.length_map, List.length_range] at le
      have gx : ∀ z : Int32, z.toInt = (if (G0 34 ((G0 31 x1.toNatClampNeg).toInt.toNat + x6.toInt.toNat)).toInt.toNat = 0 then 1 else 2 : Nat) → z.toInt ≤ 2 → 0 ≤ z.toInt → WP (mb_calls_107 fu (ml_calls_72 fu j) x1 x3 x4 x6 z x5 F2 G) (CLQ F0 G0 N a d t x1 F) := by
        intro z hz z2 z1
        unfold mb_calls_107
        refine ih _ _ (by omega) (by omega) ?_ (by omega)
        have i5 : (x5 + z).toInt = x5.toInt + z.toInt := i_addn _ rfl (by omega) (by omega)
        rw [i5, rs, List.map_append, List.map_cons, List.map_nil, ca, y2, hz]
        omega
      unfold mb_calls_83
      rw [g31, g34]
      refine WP.ix v1 (WP.ix (vp_in_iff.mpr ⟨by omega, by omega⟩) ?_)
      rw [n3]
      have q5 := q5 ((G0 31 x1.toNatClampNeg).toInt.toNat + x6.toInt.toNat)
      refine WP.ite (fun e => ?_) (fun e => ?_)
      · unfold mb_calls_102
        refine gx 1 ?_ (by decide) (by decide)
        rw [if_pos (by rw [e]; rfl)]
        rfl
      · unfold mb_calls_106
        refine gx 2 ?_ (by decide) (by decide)
        rw [if_neg (fun q => e (i_eq.mpr (by have : (0 : Int32).toInt = 0 := rfl; omega)))]
        rfl
theorem wk_calls (hfu : 8589934592 ≤ fu) (hP : PRG F0 G0) (h84 : (F0 84).toInt ≤ 2000) (x1 x2 x3 : Int32) (h : CLP F0 G0 N a d t x1 x3 F G) : WP (mf_calls fu x1 x2 x3 F G) (CLQ F0 G0 N a d t x1 F) := by
  have hK := h.1
  have hx := h.2.2.1
  have nx1 := nN_of hx.1
  have b := FRS.bd hP N a d t h.2.2.2.1
  obtain ⟨q1, q2, q3, q4, q5⟩ := hP.2.2.2.2.1 x1.toNatClampNeg (by rw [nx1]; exact hx.2)
  have fnt := hP.2.2.2.2.2.1 x1.toNatClampNeg (by rw [nx1]; exact hx.2)
  obtain ⟨f0, -, c8, o, o1, o2, o3, o4⟩ := fnt
  have hx5' : x1.toInt < 500 := by have := hP.1; omega
  have v1 : vp_in x1 500 := vp_in_iff.mpr ⟨hx.1, hx5'⟩
  have g28 : G 28 = G0 28 := hK.2 28 rfl
  have e84 : F 84 = F0 84 := hK.1 84 rfl
  obtain ⟨-, h85, -, -, h83, hd2, a0, a1, h72, hpr, cn⟩ := id h
  have i83 : (F 83 + G0 28 x1.toNatClampNeg).toInt = d + (G0 28 x1.toNatClampNeg).toInt := by
    have : (F 83 + G0 28 x1.toNatClampNeg).toInt = (F 83).toInt + (G0 28 x1.toNatClampNeg).toInt := i_addn _ rfl (by omega) (by omega)
    omega
  unfold mf_calls mb_calls_0
  refine WP.ix v1 ?_
  rw [g28, e84]
  refine WP.ite (fun c => ?_) (fun _ => ?_)
  · have c := i_le.mp c
    unfold mb_calls_31
    refine WP.ix v1 ?_
    rw [g28]
    generalize hv83 : F 83 + G0 28 x1.toNatClampNeg = v83 at i83 c
    have KF : KX [83] [] F G (fup F 83 v83) G := KX.f rfl KX.rf
    have f83 : ((fup F 83 v83) 83).toInt = d + (G0 28 x1.toNatClampNeg).toInt := i83
    have f83' : ((fup F 83 v83) 83).toInt ≤ 2000 := by show v83.toInt ≤ 2000; omega
    have f85 : (fup F 83 v83) 85 = F 85 := rfl
    have f87 : (fup F 83 v83) 87 = F 87 := rfl
    have f37 : (fup F 83 v83) 37 = F 37 := rfl
    generalize fup F 83 v83 = F2 at KF f83 f83' f85 f87 f37
    have z0 : (0 : Int32).toInt = 0 := rfl
    have go : ∀ x4 : Int32, x4.toInt = a → WP (mb_calls_64 fu x1 x3 x4 F2 G) (CLQ F0 G0 N a d t x1 F) := by
      intro x4 h4
      unfold mb_calls_64
      exact wk_72 hfu hP h84 x1 x3 x4 h h4 F2 KF f83 f83' fu 0 0 (by omega) (by omega) rfl (by omega)
    unfold mb_calls_46
    rw [f85]
    refine WP.ite (fun e => ?_) (fun e => ?_)
    · unfold mb_calls_53
      exact go _ (by rw [f37, hK.1 37 rfl]; exact (a0 e).symm)
    · unfold mb_calls_60
      exact go _ (by rw [f87]; exact (a1 e).symm)
  · unfold mb_calls_18 mb_calls_24 mb_calls_29
    exact WP.ret (Or.inr ⟨rfl, rfl, KX.f rfl (KX.f rfl hK), cn⟩)
end CALLS2
