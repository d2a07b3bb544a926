section JK4
variable {fu : Nat}
theorem cp_startC (F : PF) (G : PG) : PP (cf_X5_startConstant fu F G) (fun _ F' G' => fup (fup F 46 1) 47 1 = F' ∧ G = G') := by
  unfold cf_X5_startConstant cb_X5_startConstant_0 cb_X5_startConstant_5 cb_X5_startConstant_10
  exact PP.ret ⟨rfl, rfl⟩
theorem cp_endsC (F : PF) (G : PG) : PP (cf_X5_endsConstant fu F G) (fun r F' G' => fup F 46 0 = F' ∧ G = G' ∧ ((r = 0 ∧ (F 45 = 0 ∨ F 47 = 0)) ∨ (r = 1 ∧ ¬ F 45 = 0 ∧ ¬ F 47 = 0))) := by
  have e5 : fup F 46 0 45 = F 45 := fup_n (by decide)
  have e7 : fup F 46 0 47 = F 47 := fup_n (by decide)
  unfold cf_X5_endsConstant cb_X5_endsConstant_0 cb_X5_endsConstant_5 cb_X5_endsConstant_12 cb_X5_endsConstant_19 cb_X5_endsConstant_23 cb_X5_endsConstant_24
  rw [e5, e7]
  by_cases a : F 45 = 0
  · rw [if_pos a]
    exact PP.bz (fun _ => PP.ret ⟨rfl, rfl, .inl ⟨rfl, .inl a⟩⟩)
  · rw [if_neg a]
    by_cases b : F 47 = 0
    · rw [if_pos b]
      exact PP.bz (fun _ => PP.ret ⟨rfl, rfl, .inl ⟨rfl, .inr b⟩⟩)
    · rw [if_neg b]
      exact PP.bz (fun _ => PP.ret ⟨rfl, rfl, .inr ⟨rfl, a, b⟩⟩)
theorem cp_cut {x : Int32} {F : PF} {G : PG} (h0 : 0 ≤ x.toInt) : PP (cf_X1_cut fu x F G) (fun _ F' G' => G = G' ∧ KX [6] [] F G F' G' ∧ (F' 6).toInt ≤ x.toInt ∧ (x.toInt ≤ (F 6).toInt → F' 6 = x) ∧ ((F 6).toInt ≤ x.toInt → F' 6 = F 6)) := by
  have l0 : (0 : Int32).toInt = 0 := rfl
  unfold cf_X1_cut cb_X1_cut_0
  rw [if_neg (show ¬ x < 0 from fun z => absurd (i_lt.mp z) (by omega))]
  unfold cb_X1_cut_4
  refine PP.ite (fun c => ?_) (fun c => ?_)
  · have c' := i_le.mp c
    unfold cb_X1_cut_17
    exact PP.ret ⟨rfl, KX.rf, c', fun z => i_eq.mpr (by omega), fun _ => rfl⟩
  · have c' := mt i_le.mpr c
    unfold cb_X1_cut_12 cb_X1_cut_17
    refine PP.ret ⟨rfl, KX.f rfl KX.rf, ?_, fun _ => fup_s, fun z => absurd z (by omega)⟩
    rw [fup_s]
    exact Int.le_refl _
/-- the value of a constant that both have written -/
theorem jk_val {X : JCX} (hX : X.1 = true) {N i j : Nat} {d κ : Int} {Fc Fm F1 F2 F3 F4 : PF} {Gc Gm G1 G2 : PG} (h : jAl X 1 N i j d κ [] [0] [] Fc Gc Fm Gm F1 G1 F2 G2) (z6 : 0 ≤ (Fc 6).toInt) (z60 : 0 ≤ (Fm 60).toInt) (c8 : (F1 6).toInt ≤ 8400) (hx : 0 < xn F1 ∧ xn F1 ≤ 1048576) (kc : KX [46] [] F1 G1 F3 G1) (km : KX [54] [] F2 G2 F4 G2) : JP (cf_X6_valueFrom fu (Fc 6) F3 G1) (mf_reckon fu (Fm 60) F4 G2) (fun r1 _ _ r2 _ _ => r1 = r2) := by
  obtain ⟨mu, A, lq, -, ⟨-, s1, s2, mo, m0⟩, low, ⟨AB, muB⟩, -, -, -, -, T⟩ := (h.2.2.2.2.2.2.2 rfl).2 (fun _ => wN Fc) (fun _ => ([], some X.2.2.1)) rfl rfl
  have D6 := h.2.1.2.2.2.1
  have D60 := h.2.1.2.2.2.2.1
  have e6 : Fc 6 = nI (mu (sN Fm)) := by
    rw [m0]
    exact (jnI z6).symm
  have e60 : Fm 60 = nI (sN Fm) := (jnI z60).symm
  have A0 : A (sN Fm) = ([], some X.2.2.1) := (low (sN Fm) (Nat.le_refl _)).2
  have AL : (A (sN Fm)).1.length = 0 := by rw [A0]; rfl
  have f6 : F3 6 = F1 6 := kc.1 6 rfl
  have f60 : F4 60 = F2 60 := km.1 60 rfl
  have l0 : (0 : Int32).toInt = 0 := rfl
  have w1 : wN F1 = (F1 6).toInt.toNat := rfl
  have w2 : sN F2 = (F2 60).toInt.toNat := rfl
  have xe : xn F3 = xn F1 := by
    unfold xn
    rw [kc.1 300 rfl]
  unfold cf_X6_valueFrom cb_X6_valueFrom_0 cb_X6_valueFrom_5 cb_X6_valueFrom_10 mf_reckon mb_reckon_0 mb_reckon_5
  rw [e60]
  refine jk_run (X := (X.1, X.2.1, lq.1 ++ lq.2, X.2.2.2)) (Fc := F3) (Gc := G1) (Fm := F4) (Gm := G2) (B := sN F2) (k0 := sN Fm) (A := A) (mu := mu) hX ?_ ?_ ?_ mo (by rw [AB]) (fun k a b => ?_) (sN F2) fu fu (sN Fm) 0 _ G1 _ G2 (by omega) (Nat.le_refl _) s1 ⟨_, by rw [A0]⟩ (KX.f rfl (KX.f rfl KX.rf)) (KX.f rfl KX.rf) ?_ ?_ ?_ ?_ (fun i hi => ?_) (by omega) (Int.le_refl _) (by omega)
  · rw [f60]
    omega
  · rw [f6, muB]
    omega
  · rw [muB]
    omega
  · rcases T k a b with z | ⟨x, z, -⟩
    · exact z
    · cases z
  · unfold jXn
    rw [fup_s, xn_fup (by decide), xn_fup (by decide), xe]
    exact ⟨by omega, by omega, hx.1, hx.2⟩
  · rw [fup_n (by decide), fup_s]
    exact e6
  · rw [fup_s, AL]
    rfl
  · rw [fup_s, AL]
    rfl
  · omega
end JK4
