section CALLS
variable {fu : Nat} {F0 : PF} {G0 : PG} {N : Nat} {a d : Int} {t : Nat} {F : PF} {G : PG}
/-- before a call: N frames, a the first cell, d the words, t the operands below -/
def CLP (F0 : PF) (G0 : PG) (N : Nat) (a d : Int) (t : Nat) (x1 x3 : Int32) (F : PF) (G : PG) : Prop := KX wkA wkB F0 G0 F G ∧ (F 85).toInt = N ∧ (0 ≤ x1.toInt ∧ x1.toInt < (F0 24).toInt) ∧ FRS F0 G0 (G 91) (upd (G 92) N x3) (G 93) (G 71) (G 90) N a d t ∧ (F 83).toInt = d ∧ d ≤ 2000 ∧ (F 85 = 0 → a = (F0 37).toInt) ∧ (¬ F 85 = 0 → a = (F 87).toInt) ∧ (F 72).toInt = t + cellsOf (kindsOf G0 x1.toNatClampNeg) ∧ (∀ p : Nat, pairAt (kindsOf G0 x1.toNatClampNeg) p → ∀ i : Int, 0 ≤ i → i < (G 71 (t + p + 1)).toInt → SFA F0 G0 (G 91) (G 93) N ((G 71 (t + p)).toInt + i)) ∧ CNR F
/-- behind it -/
def CLQ (F0 : PF) (G0 : PG) (N : Nat) (a d : Int) (t : Nat) (x1 : Int32) (F : PF) (r : Int32) (F1 : PF) (G1 : PG) : Prop := (r = 1 ∧ F1 75 = F 75 ∧ F1 78 = F 78 ∧ F1 76 = G0 30 x1.toNatClampNeg ∧ (F1 72).toInt = t ∧ G1 91 N = x1 ∧ ∃ (A : AN) (m : Nat), CWR F0 G0 N a d t A m F1 G1) ∨ (r = 0 ∧ F1 75 = 6 ∧ KX wkA wkB F0 G0 F1 G1 ∧ CNR F1)
theorem wk_180 (hP : PRG F0 G0) (h84 : (F0 84).toInt ≤ 2000) (x1 x3 x4 : Int32) (h : CLP F0 G0 N a d t x1 x3 F G) (hx4 : x4.toInt = a) (F2 : PF) (G2 : PG) (K2 : KX [72, 83] [90] F G F2 G2) (e83 : (F2 83).toInt = d + (G0 28 x1.toNatClampNeg).toInt) (hd : (F2 83).toInt ≤ 2000) (e72 : (F2 72).toInt = t) (hlo : ∀ j : Nat, (j : Int) < a → G2 90 j = G 90 j) (hhi : ∀ p : Nat, p < cellsOf (kindsOf G0 x1.toNatClampNeg) → G2 90 (a.toNat + p) = G 71 (t + p)) : WP (mb_calls_180 fu x1 x3 x4 F2 G2) (CLQ F0 G0 N a d t x1 F) := by
  obtain ⟨K, h85, hx, fr, h83, hd2, -, -, h72, hpr, cn⟩ := h
  obtain ⟨b1, b2, b3, b4, b5⟩ := FRS.bd hP N a d t fr
  have fnt := hP.2.2.2.2.2.1 x1.toNatClampNeg (by rw [nN_of hx.1]; exact hx.2)
  obtain ⟨f0, ⟨A, m, ty⟩, -, o, o1, o2, o3, o4⟩ := fnt
  have h37 := hP.2.2.1
  have hx5 : x1.toInt < 500 := by have := hP.1; omega
  have v1 : vp_in x1 500 := vp_in_iff.mpr ⟨hx.1, hx5⟩
  have e85 : F2 85 = F 85 := K2.1 85 rfl
  have v85 : vp_in (F2 85) 520 := by rw [e85]; exact vp_in_iff.mpr ⟨by omega, by omega⟩
  have n85 : (F2 85).toNatClampNeg = N := by rw [e85]; show (F 85).toInt.toNat = N; omega
  have i85 : (F2 85 + 1).toInt = N + 1 := by
    have : (F2 85 + 1).toInt = (F2 85).toInt + 1 := i_addn _ rfl (by rw [e85]; omega) (by rw [e85]; omega)
    rw [this, e85]
    omega
  unfold mb_calls_180
  refine WP.ix v85 ?_
  unfold mb_calls_190
  refine WP.ix v85 ?_
  unfold mb_calls_200
  refine WP.ix v85 ?_
  rw [n85]
  unfold mb_calls_211 mb_calls_221 mb_calls_227
  refine WP.ix v1 ?_
  unfold mb_calls_240
  refine WP.ix v1 ?_
  unfold mb_calls_250
  have g29 : (gup (gup (gup G2 91 N x1) 92 N x3) 93 N x4) 29 = G0 29 := (K2.2 29 rfl).trans (K.2 29 rfl)
  have g30 : (gup (gup (gup G2 91 N x1) 92 N x3) 93 N x4) 30 = G0 30 := (K2.2 30 rfl).trans (K.2 30 rfl)
  rw [g29, g30]
  have i87 : (x4 + G0 29 x1.toNatClampNeg).toInt = a + (G0 29 x1.toNatClampNeg).toInt := by
    have : (x4 + G0 29 x1.toNatClampNeg).toInt = x4.toInt + (G0 29 x1.toNatClampNeg).toInt := i_addn _ rfl (by omega) (by omega)
    omega
  have KG : KX [] [91, 92, 93] F2 G2 F2 (gup (gup (gup G2 91 N x1) 92 N x3) 93 N x4) := KX.g rfl (KX.g rfl (KX.g rfl KX.rf))
  have g91 : (gup (gup (gup G2 91 N x1) 92 N x3) 93 N x4) 91 = upd (G 91) N x1 := by
    rw [gup_o (show 91 ≠ 93 by decide), gup_o (show 91 ≠ 92 by decide), gup_u, K2.2 91 rfl]
  have g92 : (gup (gup (gup G2 91 N x1) 92 N x3) 93 N x4) 92 = upd (G 92) N x3 := by
    rw [gup_o (show 92 ≠ 93 by decide), gup_u, gup_o (show 92 ≠ 91 by decide), K2.2 92 rfl]
  have g93 : (gup (gup (gup G2 91 N x1) 92 N x3) 93 N x4) 93 = upd (G 93) N x4 := by
    rw [gup_u, gup_o (show 93 ≠ 92 by decide), gup_o (show 93 ≠ 91 by decide), K2.2 93 rfl]
  generalize gup (gup (gup G2 91 N x1) 92 N x3) 93 N x4 = G3 at KG g91 g92 g93
  generalize hv87 : x4 + G0 29 x1.toNatClampNeg = v87 at i87
  generalize hv85 : F2 85 + 1 = v85' at i85
  have KF : KX [85, 86, 87, 76] [] F2 G3 (fup (fup (fup (fup F2 85 v85') 86 x4) 87 v87) 76 (G0 30 x1.toNatClampNeg)) G3 := KX.f rfl (KX.f rfl (KX.f rfl (KX.f rfl KX.rf)))
  have f85 : (fup (fup (fup (fup F2 85 v85') 86 x4) 87 v87) 76 (G0 30 x1.toNatClampNeg)) 85 = v85' := rfl
  have f86 : (fup (fup (fup (fup F2 85 v85') 86 x4) 87 v87) 76 (G0 30 x1.toNatClampNeg)) 86 = x4 := rfl
  have f87 : (fup (fup (fup (fup F2 85 v85') 86 x4) 87 v87) 76 (G0 30 x1.toNatClampNeg)) 87 = v87 := rfl
  have f76 : (fup (fup (fup (fup F2 85 v85') 86 x4) 87 v87) 76 (G0 30 x1.toNatClampNeg)) 76 = G0 30 x1.toNatClampNeg := rfl
  show WP (some (1, fup (fup (fup (fup F2 85 v85') 86 x4) 87 v87) 76 (G0 30 x1.toNatClampNeg), G3)) _
  generalize fup (fup (fup (fup F2 85 v85') 86 x4) 87 v87) 76 (G0 30 x1.toNatClampNeg) = F3 at KF f85 f86 f87 f76
  have KK : KX wkA wkB F G F3 G3 := KX.tr (KX.tr (KX.tr KX.rf K2 rfl rfl) KG rfl rfl) KF rfl rfl
  have cel : G3 90 = G2 90 := KG.2 90 rfl
  have ops : G3 71 = G 71 := (KG.2 71 rfl).trans (K2.2 71 rfl)
  have fnN : ∀ j, j < N → upd (G 91) N x1 j = G 91 j ∧ upd (G 93) N x4 j = G 93 j := fun j hj => ⟨upd_n (by omega), upd_n (by omega)⟩
  have pcs : ∀ j, j < N → PCS G0 (G 91) (G 93) (G 90) (G2 90) j := by
    intro j hj p hp
    have l := pairAt_lt _ _ hp
    have b := b1.1 j hj
    exact ⟨hlo _ (by omega), hlo _ (by omega)⟩
  have s72 : F3 72 = F2 72 := KF.1 72 rfl
  have s83 : F3 83 = F2 83 := KF.1 83 rfl
  have s78 : F3 78 = F 78 := by rw [KF.1 78 rfl, K2.1 78 rfl]
  refine WP.ret (Or.inl ⟨rfl, by rw [KF.1 75 rfl, K2.1 75 rfl], s78, f76, by rw [s72]; exact e72, by rw [g91]; exact upd_s, A, m, KX.tr K KK rfl rfl, by rw [f85]; exact i85, ?_, ?_, by rw [s83]; exact hd, ?_, ?_, ?_⟩)
  · rw [g91, g92, g93, ops, cel]
    exact FRS.cg N a d t fr fnN (fun _ _ => rfl) (fun _ _ => rfl) pcs
  · rw [g91, g93, cel, f87, s83]
    unfold GEO
    rw [upd_s, upd_s]
    refine ⟨hx, hx4, i87, e83, fun p hp i i0 i1 => ?_⟩
    have l := pairAt_lt _ _ hp
    rw [show a.toNat + p + 1 = a.toNat + (p + 1) by omega, hhi (p + 1) (by omega)] at i1
    rw [hhi p (by omega)]
    exact SFA.cg fnN _ (hpr p hp i i0 i1)
  · rw [f86, g93, upd_s]
  · rw [g91, upd_s]
    exact ty
  · unfold CNR at cn ⊢
    rw [s78, KF.1 79 rfl, K2.1 79 rfl, KF.1 80 rfl, K2.1 80 rfl]
    exact cn
end CALLS
