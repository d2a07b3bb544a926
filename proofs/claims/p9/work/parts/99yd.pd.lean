theorem nN_of {x : Int32} (h : 0 ≤ x.toInt) : (x.toNatClampNeg : Int) = x.toInt := Int.toNat_of_nonneg h
/-- what was told of all, and its words -/
def GI (F : PF) (G : PG) : Prop := F 46 = 1 → F 47 = 0 → F 15 = 0 ∧ (∀ k : Nat, (k : Int) < (F 14).toInt → G 23 k = 0 ∧ G 19 k = 0 ∧ ((G 17 k = 0 ∧ ¬ G 21 k = -1) ∨ (G 17 k = 1 ∧ 0 ≤ (G 20 k).toInt ∧ (G 20 k).toInt < (F 37).toInt) ∨ (G 17 k = 2 ∧ 1 ≤ (G 21 k).toInt ∧ 0 ≤ (G 20 k).toInt ∧ (G 20 k).toInt + (G 21 k).toInt ≤ (F 37).toInt))) ∧ (F 36).toInt ≤ 2000 ∧ ∀ k : Nat, (k : Int) < (F 36).toInt → 0 ≤ (G 39 k).toInt ∧ (0 ≤ (G 38 k).toInt ∧ (G 38 k).toInt ≤ 4) ∧ (G 39 k).toInt + (G 38 k).toInt ≤ (F 37).toInt
def gio (a b : List Nat) : Bool := !(a.contains 15 || a.contains 46 || a.contains 14 || a.contains 36 || a.contains 37 || b.contains 17 || b.contains 19 || b.contains 20 || b.contains 21 || b.contains 23 || b.contains 38 || b.contains 39)
theorem GI.kx {a b : List Nat} {F F1 : PF} {G G1 : PG} (h : GI F G) (K : KX a b F G F1 G1) (hM : M7 F F1) (e : gio a b = true) : GI F1 G1 := by
  unfold gio at e
  simp only [Bool.not_eq_true', Bool.or_eq_false_iff] at e
  obtain ⟨⟨⟨⟨⟨⟨⟨⟨⟨⟨⟨e15, e46⟩, e14⟩, e36⟩, e37⟩, g17⟩, g19⟩, g20⟩, g21⟩, g23⟩, g38⟩, g39⟩ := e
  intro h46 h47
  rw [K.1 46 e46] at h46
  rw [K.1 15 e15, K.1 14 e14, K.1 36 e36, K.1 37 e37, K.2 17 g17, K.2 19 g19, K.2 20 g20, K.2 21 g21, K.2 23 g23, K.2 38 g38, K.2 39 g39]
  exact h h46 (hM h47)
/-- before a piece of a text on the level of all -/
def YA (F : PF) (G : PG) : Prop := TBL F G ∧ (F 44 = 0 ∧ F 70 = 0 ∧ F 54 = 0 ∧ F 43 = 0) ∧ (0 ≤ (F 42).toInt ∧ (F 42).toInt ≤ (F 7).toInt) ∧ (0 ≤ (F 60).toInt ∧ (F 60).toInt ≤ 2 * tT F G) ∧ (0 ≤ (F 14).toInt ∧ 5 * (F 14).toInt ≤ tT F G) ∧ (0 ≤ (F 24).toInt ∧ (F 24).toInt ≤ 500) ∧ (F 46 = 0 ∨ ∀ g : Nat, (g : Int) < (F 24).toInt → 0 ≤ (G 27 g).toInt ∧ 0 ≤ (G 31 g).toInt ∧ (G 31 g).toInt + (G 27 g).toInt ≤ 900) ∧ (0 ≤ (F 36).toInt ∧ (F 36).toInt ≤ 500 * tT F G ∧ 0 ≤ (F 37).toInt ∧ (F 37).toInt ≤ 8000 ∧ ((F 36).toInt ≤ 2000 → (F 37).toInt ≤ 4 * (F 36).toInt)) 
/-- along it -/
def GR (F0 : PF) (G0 : PG) (j δ w : Int) (F : PF) (G : PG) : Prop := KX [14, 36, 37, 42, 43, 44, 45, 47, 48, 49, 54, 55, 60, 62, 70, 72] [16, 17, 18, 19, 20, 21, 22, 23, 38, 39, 40, 41, 56, 57, 58, 59, 67, 68, 69, 71] F0 G0 F G ∧ (F 44 = 0 ∧ F 70 = 0 ∧ F 54 = 0) ∧ ((F 43).toInt = j ∧ 0 ≤ j ∧ j ≤ 40) ∧ ((0 ≤ (F 42).toInt ∧ (F 42).toInt ≤ (F0 7).toInt) ∧ (F0 42).toInt ≤ (F 42).toInt) ∧ F 60 = F0 60 ∧ (0 ≤ (F 14).toInt ∧ 5 * (F 14).toInt ≤ tT F G + δ) ∧ (0 ≤ (F 36).toInt ∧ (F 36).toInt ≤ 500 * tT F0 G0 + w ∧ 0 ≤ (F 37).toInt ∧ (F 37).toInt ≤ 8000 ∧ ((F 36).toInt ≤ 2000 → (F 37).toInt ≤ 4 * (F 36).toInt)) ∧ (GI F0 G0 → GI F G) ∧ CB F0 G0 G ∧ (F0 37).toInt ≤ (F 37).toInt
theorem CB.rf {F : PF} {G : PG} : CB F G G := fun _ _ => ⟨rfl, rfl, rfl, rfl⟩
section GRS
variable {fu : Nat} {F0 F F1 : PF} {G0 G G1 : PG} {j δ w : Int}
theorem GR.rf (h : YA F0 G0) : GR F0 G0 0 0 0 F0 G0 := by
  obtain ⟨a1, ⟨b1, b2, b3, b4⟩, a3, a4, a5, a6, a7, a8⟩ := h
  exact ⟨KX.rf, ⟨b1, b2, b3⟩, ⟨by rw [b4]; rfl, by decide, by decide⟩, ⟨a3, Int.le_refl _⟩, rfl, by omega, by omega, id, CB.rf, Int.le_refl _⟩
theorem GR.t (h : GR F0 G0 j δ w F G) (h0 : YA F0 G0) : TBL F G ∧ (0 ≤ tT F G ∧ tT F G ≤ 4000) ∧ vp_in (F 42) 4002 ∧ tT F0 G0 + ((F 42).toInt - (F0 42).toInt) ≤ tT F G ∧ 0 ≤ tT F0 G0 := by
  obtain ⟨K, hz, hj, h42, h60, hD, hw, hI, hC⟩ := h
  have T1 := h0.1.kx K rfl rfl rfl rfl rfl
  have := T1.2.1
  have := T1.2.2.2.1
  have e7 := K.1 7 rfl
  rw [e7] at this
  have m := h0.1.mon h0.2.2.1.1 h42.2 h42.1.2
  refine ⟨T1, T1.rng h42.1.1 (by rw [e7]; exact h42.1.2), vp_in_iff.mpr ⟨h42.1.1, by omega⟩, ?_, (h0.1.rng h0.2.2.1.1 h0.2.2.1.2).1⟩
  unfold tT
  rw [K.2 6 rfl]
  omega
theorem GR.yp (h : GR F0 G0 j δ w F G) (h0 : YA F0 G0) (hδ : δ ≤ 1) : YP F G := by
  have ht := h.t h0
  obtain ⟨K, hz, hj, h42, h60, hD, hw, hI, hC⟩ := h
  obtain ⟨a1, b, a3, a4, a5, a6, a7, a8⟩ := h0
  have z : (0 : Int32).toInt = 0 := rfl
  refine ⟨ht.1, hz.1, by rw [K.1 7 rfl]; exact h42.1, by omega, by rw [h60]; exact a4.1, by rw [hz.2.1]; decide, by rw [h60, hz.2.1]; omega, ⟨hD.1, by omega⟩, by rw [K.1 24 rfl]; exact a6, ?_⟩
  rw [K.1 46 rfl, K.1 24 rfl, K.2 27 rfl, K.2 31 rfl]
  exact a7
theorem GR.adv (h : GR F0 G0 j δ w F G) (h0 : YA F0 G0) (hk : ¬ G 4 (F 42).toNatClampNeg = 0) : GR F0 G0 j (δ - 1) w (fup F 42 (F 42 + 1)) G := by
  have ht := h.t h0
  obtain ⟨K, hz, hj, h42, h60, hD, hw, hI, hC⟩ := h
  have e7 := K.1 7 rfl
  obtain ⟨a1, a2, a3⟩ := ht.1.adv h42.1.1 (by rw [e7]; exact h42.1.2) hk
  have := lnT.pos (G 4 (F 42).toNatClampNeg) (G 5 (F 42).toNatClampNeg)
  have e : tT (fup F 42 (F 42 + 1)) G = (G 6 (F 42 + 1).toNatClampNeg).toInt := rfl
  have e1 : tT F G = (G 6 (F 42).toNatClampNeg).toInt := rfl
  rw [e7] at a2
  refine ⟨KX.f rfl K, hz, hj, ⟨⟨by show 0 ≤ (F 42 + 1).toInt; omega, by show (F 42 + 1).toInt ≤ _; omega⟩, by show _ ≤ (F 42 + 1).toInt; omega⟩, h60, ⟨hD.1, ?_⟩, hw, hI, hC⟩
  show 5 * (F 14).toInt ≤ _
  rw [e]
  omega
theorem GR.adv42 (h : GR F0 G0 j δ w F G) (h0 : YA F0 G0) (hk : ¬ G 4 (F 42).toNatClampNeg = 0) : (F0 42).toInt < (F 42 + 1).toInt := by
  have ht := h.t h0
  obtain ⟨K, hz, hj, h42, h60, hD, hw, hI, hC⟩ := h
  have a1 := (ht.1.adv h42.1.1 (by rw [K.1 7 rfl]; exact h42.1.2) hk).1
  omega
theorem GR.adv3 (h : GR F0 G0 j δ w F G) (h0 : YA F0 G0) (hk : G 4 (F 42).toNatClampNeg = 2) (hv : (G 5 (F 42).toNatClampNeg).toInt ≤ 2) : GR F0 G0 j (δ - 3) w (fup F 42 (F 42 + 1)) G := by
  have ht := h.t h0
  obtain ⟨K, hz, hj, h42, h60, hD, hw, hI, hC⟩ := h
  have e7 := K.1 7 rfl
  obtain ⟨a1, a2, a3⟩ := ht.1.adv h42.1.1 (by rw [e7]; exact h42.1.2) (k_ne hk (by decide))
  have l3 : lnT (G 4 (F 42).toNatClampNeg) (G 5 (F 42).toNatClampNeg) = 3 := by
    unfold lnT
    rw [if_neg (fun q => absurd (hk.symm.trans q.1) (by decide)), if_pos ⟨hk, hv⟩]
  have e : tT (fup F 42 (F 42 + 1)) G = (G 6 (F 42 + 1).toNatClampNeg).toInt := rfl
  have e1 : tT F G = (G 6 (F 42).toNatClampNeg).toInt := rfl
  rw [e7] at a2
  refine ⟨KX.f rfl K, hz, hj, ⟨⟨by show 0 ≤ (F 42 + 1).toInt; omega, by show (F 42 + 1).toInt ≤ _; omega⟩, by show _ ≤ (F 42 + 1).toInt; omega⟩, h60, ⟨hD.1, ?_⟩, hw, hI, hC⟩
  show 5 * (F 14).toInt ≤ _
  rw [e]
  omega
theorem GR.m43 {i : Int} {v : Int32} (h : GR F0 G0 j δ w F G) (hv : v.toInt = i) (h1 : 0 ≤ i) (h2 : i ≤ 40) : GR F0 G0 i δ w (fup F 43 v) G := by
  obtain ⟨K, hz, hj, h42, h60, hD, hw, hI, hC⟩ := h
  exact ⟨KX.f rfl K, hz, ⟨hv, h1, h2⟩, h42, h60, hD, hw, hI, hC⟩
theorem GR.op (h : GR F0 G0 j δ w F G) (h0 : YA F0 G0) (hk : ¬ G 4 (F 42).toNatClampNeg = 0) (hne : ¬ F 43 = 40) : GR F0 G0 (j + 1) (δ - 1) w (fup (fup F 43 (F 43 + 1)) 42 (F 42 + 1)) G := by
  have e := h.2.2.1
  have o := o_inc ⟨by omega, by omega⟩ hne
  exact GR.adv (F := fup F 43 (F 43 + 1)) (h.m43 (i := j + 1) (by omega) (by omega) (by omega)) h0 hk
theorem GR.cl (h : GR F0 G0 (j + 1) δ w F G) (h0 : YA F0 G0) (hj : 0 ≤ j) (hk : ¬ G 4 (F 42).toNatClampNeg = 0) : GR F0 G0 j (δ - 1) w (fup (fup F 42 (F 42 + 1)) 43 (F 43 - 1)) G := by
  have e := h.2.2.1
  have d := dec43 (x := F 43) (by omega)
  exact GR.m43 (F := fup F 42 (F 42 + 1)) (h.adv h0 hk) (by show (F 43 - 1).toInt = j; omega) hj (by omega)
def gpo (a b : List Nat) : Bool := a.all [14, 36, 37, 42, 43, 44, 45, 47, 48, 49, 54, 55, 60, 62, 70, 72].contains && b.all [16, 17, 18, 19, 20, 21, 22, 23, 38, 39, 40, 41, 56, 57, 58, 59, 67, 68, 69, 71].contains && !(a.contains 60 || a.contains 44 || a.contains 70 || a.contains 54 || a.contains 43 || a.contains 36 || a.contains 42 || a.contains 14 || a.contains 37 || b.contains 6 || (b.contains 56 || b.contains 57 || b.contains 58 || b.contains 59))
theorem gpo.e {a b : List Nat} (h : gpo a b = true) : (a.all [14, 36, 37, 42, 43, 44, 45, 47, 48, 49, 54, 55, 60, 62, 70, 72].contains = true ∧ b.all [16, 17, 18, 19, 20, 21, 22, 23, 38, 39, 40, 41, 56, 57, 58, 59, 67, 68, 69, 71].contains = true) ∧ a.contains 60 = false ∧ a.contains 44 = false ∧ a.contains 70 = false ∧ a.contains 54 = false ∧ a.contains 43 = false ∧ a.contains 36 = false ∧ a.contains 42 = false ∧ a.contains 14 = false ∧ a.contains 37 = false ∧ b.contains 6 = false ∧ b.contains 56 = false ∧ b.contains 57 = false ∧ b.contains 58 = false ∧ b.contains 59 = false := by
  unfold gpo at h
  simp only [Bool.and_eq_true, Bool.not_eq_true', Bool.or_eq_false_iff] at h
  have q := h.2.1
  have p := h.2.2
  exact ⟨h.1, q.1.1.1.1.1.1.1.1.1, q.1.1.1.1.1.1.1.1.2, q.1.1.1.1.1.1.1.2, q.1.1.1.1.1.1.2, q.1.1.1.1.1.2, q.1.1.1.1.2, q.1.1.1.2, q.1.1.2, q.1.2, q.2, p.1.1.1, p.1.1.2, p.1.2, p.2⟩
theorem GR.kx {a b : List Nat} (h : GR F0 G0 j δ w F G) (K1 : KX a b F G F1 G1) (hM : M7 F F1) (eq : gpo a b = true) (eg : gio a b = true) : GR F0 G0 j δ w F1 G1 := by
  obtain ⟨⟨ea, eb⟩, e60, e44, e70, e54, e43, e36, e42, e14, e37, g6, k1, k2, k3, k4⟩ := gpo.e eq
  obtain ⟨K, hz, hj, h42, h60, hD, hw, hI, hC⟩ := h
  have e : tT F1 G1 = tT F G := by unfold tT; rw [K1.1 42 e42, K1.2 6 g6]
  exact ⟨KX.tr K K1 ea eb, by rw [K1.1 44 e44, K1.1 70 e70, K1.1 54 e54]; exact hz, by rw [K1.1 43 e43]; exact hj, by rw [K1.1 42 e42]; exact h42, (K1.1 60 e60).trans h60, by rw [K1.1 14 e14, e]; exact hD, by rw [K1.1 36 e36, K1.1 37 e37]; exact hw, fun g => (hI g).kx K1 hM eg, hC.1.kx K1 k1 k2 k3 k4, by rw [K1.1 37 e37]; exact hC.2⟩
theorem GR.le {δ1 w1 : Int} (h : GR F0 G0 j δ w F G) (hd : δ ≤ δ1) (hw1 : w ≤ w1) : GR F0 G0 j δ1 w1 F G := by
  obtain ⟨K, hz, hj, h42, h60, hD, hw, hI, hC⟩ := h
  exact ⟨K, hz, hj, h42, h60, ⟨hD.1, by omega⟩, ⟨hw.1, by omega, hw.2.2⟩, hI, hC⟩
theorem GR.note (q : GR F0 G0 j δ w F G) (k p : Int32) (hk : 0 < k.toInt) : WP (mf_note fu k p F G) (fun _ F1 G1 => G = G1 ∧ F1 42 = F 42 ∧ GR F0 G0 j δ w F1 G1) := by
  refine WP.mono (WP.pp (ws_note k p hk) (mm_note k p hk F G)) ?_
  rintro r F1 G1 ⟨M, K, rfl⟩
  exact ⟨rfl, K.1 42 rfl, q.kx K M.1 rfl rfl⟩
theorem GR.dc (q : GR F0 G0 j δ w F G) (h0 : YA F0 G0) (g : GI F0 G0) (h : F 46 = 1) : DC F G := by
  obtain ⟨K, hz, hj, h42, h60, hD, hw, hI, hC⟩ := q
  refine ⟨⟨hD.1, by rw [K.1 24 rfl]; exact h0.2.2.2.2.2.1.1, by rw [h]; decide⟩, fun z k hk e => ?_⟩
  obtain ⟨-, -, q⟩ := (hI g h z).2.1 k hk
  rcases q with q | q | q
  · exact q.2
  · rw [q.1] at e
    exact absurd e (by decide)
  · rw [q.1] at e
    exact absurd e (by decide)
theorem GR.twice (hfu : 8589934592 ≤ fu) (q : GR F0 G0 j δ w F G) (h0 : YA F0 G0) (hδ : δ ≤ 1) (x : Int32) (v : vp_in x 4002) : WP (mf_twice fu x F G) (fun _ F1 G1 => G = G1 ∧ F1 42 = F 42 ∧ GR F0 G0 j δ w F1 G1 ∧ M7 F F1 ∧ F1 46 = F 46) := by
  have yd := (q.yp h0 hδ).2.2.2.2.2.2.2
  refine WP.mono (WP.pp (ws_twice hfu x v yd.1 yd.2.1) (mn_twice x F G)) ?_
  rintro r F1 G1 ⟨M, K⟩
  exact ⟨(funext (fun k => K.2 k rfl)).symm, K.1 42 rfl, q.kx K M rfl rfl, M, K.1 46 rfl⟩
theorem GR.decl (q : GR F0 G0 j δ w F G) (h0 : YA F0 G0) (hδ : δ ≤ 0) (x1 x2 x3 x4 x5 : Int32) (v : vp_in x1 4002) (hn : GI F0 G0 → F 46 = 1 → F 47 = 0 → (x2 = 0 ∧ ¬ x5 = -1) ∨ (x2 = 1 ∧ 0 ≤ x4.toInt ∧ x4.toInt < (F 37).toInt) ∨ (x2 = 2 ∧ 1 ≤ x5.toInt ∧ 0 ≤ x4.toInt ∧ x4.toInt + x5.toInt ≤ (F 37).toInt)) : WP (mf_declare fu x1 x2 x3 x4 x5 0 F G) (fun _ F1 G1 => GR F0 G0 j (δ + 5) w F1 G1) := by
  have ht := q.t h0
  have hD := q.2.2.2.2.2.1
  have wd := wa_declare (fu := fu) (G := G) x1 x2 x3 x4 x5 0 v (F := F) (Or.inr ⟨hD.1, by omega⟩)
  refine WP.mono (wd.of (mp_declare x1 x2 x3 x4 x5 0 F G)) ?_
  rintro r F1 G1 ⟨K1, hd⟩
  obtain ⟨K, hz, hj, h42, h60, hD, hw, hI, hC⟩ := q
  have e : tT F1 G1 = tT F G := by unfold tT; rw [K1.1 42 rfl, K1.2 6 rfl]
  refine ⟨KX.tr K K1 rfl rfl, by rw [K1.1 44 rfl, K1.1 70 rfl, K1.1 54 rfl]; exact hz, by rw [K1.1 43 rfl]; exact hj, by rw [K1.1 42 rfl]; exact h42, (K1.1 60 rfl).trans h60, ?_, by rw [K1.1 36 rfl, K1.1 37 rfl]; exact hw, ?_, hC.1.kx K1 rfl rfl rfl rfl, by rw [K1.1 37 rfl]; exact hC.2⟩
  rw [e]
  rcases hd with ⟨-, rfl, -⟩ | ⟨-, hd⟩
  · exact ⟨hD.1, by omega⟩
  · have i1 : (F 14 + 1).toInt = (F 14).toInt + 1 := i_addn _ rfl (by omega) (by omega)
    rw [hd.2.1]
    exact ⟨by omega, by omega⟩
  intro g h46 h47
  rw [K1.1 46 rfl] at h46
  rw [K1.1 47 rfl] at h47
  obtain ⟨c0, c1, c2, c3⟩ := hI g h46 h47
  rw [K1.1 15 rfl, K1.1 36 rfl, K1.1 37 rfl, K1.2 38 rfl, K1.2 39 rfl]
  refine ⟨c0, ?_, c2, c3⟩
  rcases hd with ⟨z, -⟩ | ⟨-, d1, d2, d3, d4, d5, d6, d7, d8⟩
  · rw [z] at h46
    exact absurd h46 (by decide)
  · intro k hk
    have i1 : (F 14 + 1).toInt = (F 14).toInt + 1 := i_addn _ rfl (by omega) (by omega)
    rw [d2] at hk
    by_cases e : k = (F 14).toNatClampNeg
    · rw [e, d4, d5, d6, d7, d8]
      exact ⟨rfl, c0, hn g h46 h47⟩
    · have := nN_of hD.1
      obtain ⟨f1, f2, f3, f4, f5⟩ := d3 k e
      rw [f1, f2, f3, f4, f5]
      refine c1 k ?_
      omega
/-- behind a constant's value -/
theorem GR.val (q : GR F0 G0 j δ w F G) (v : VQ F G F1 G1) (h44 : F1 44 = 0) (t1 : 0 ≤ (F1 42).toInt ∧ (F1 42).toInt ≤ (F 7).toInt) (t2 : (F 42).toInt ≤ (F1 42).toInt) (t3 : tT F G + 1 ≤ tT F1 G1) : GR F0 G0 j (δ - 1) w F1 G1 := by
  obtain ⟨K, hz, hj, h42, h60, hD, hw, hI, hC⟩ := q
  obtain ⟨v1, v2, v3, v4, v5, v6, v7⟩ := v
  have wv : F1 44 = 0 ∧ F1 43 = F 43 ∧ F1 70 = F 70 := by
    rcases v6 with z | z
    · exact z
    · rw [h44] at z
      exact absurd z (by decide)
  rw [K.1 7 rfl] at t1
  exact ⟨KX.tr K v1 rfl rfl, ⟨h44, wv.2.2.trans hz.2.1, v3.trans hz.2.2⟩, by rw [wv.2.1]; exact hj, ⟨t1, by omega⟩, v2.trans h60, by rw [v1.1 14 rfl]; omega, by rw [v1.1 36 rfl, v1.1 37 rfl]; exact hw, fun g => (hI g).kx v1 v5 rfl, hC.1.tr (by show (F0 60).toNatClampNeg ≤ (F 60).toNatClampNeg; rw [h60]; exact Nat.le_refl _) v4, by rw [v1.1 37 rfl]; exact hC.2⟩
end GRS
theorem wz_constantTold {fu : Nat} (hfu : 8589934592 ≤ fu) {F0 F : PF} {G0 G : PG} (h0 : YA F0 G0) (q : GR F0 G0 0 (-4) 0 F G) : WP (mf_constantTold fu F G) (fun r F1 G1 => (r = 1 ∧ GR F0 G0 0 0 0 F1 G1 ∧ (F0 42).toInt < (F1 42).toInt) ∨ (r = 0 ∧ 0 < (F1 44).toInt)) := by
  have v0 := (q.t h0).2.2.1
  unfold mf_constantTold mb_constantTold_0
  have go : ∀ (x1 : Int32) (F1 : PF) (G1 : PG), vp_in x1 4002 → (GR F0 G0 0 (-5) 0 F1 G1 ∨ 0 < (F1 44).toInt) → WP (mb_constantTold_4 fu x1 F1 G1) (fun r F1 G1 => (r = 1 ∧ GR F0 G0 0 0 0 F1 G1 ∧ (F0 42).toInt < (F1 42).toInt) ∨ (r = 0 ∧ 0 < (F1 44).toInt)) := by
    intro x1 F1 G1 v1 hq
    unfold mb_constantTold_4
    rcases hq with q1 | z
    · refine WP.bind (ws_sign 32 (q1.t h0).2.2.1) ?_
      rintro r F2 G2 (⟨rfl, rfl, rfl, s, -⟩ | ⟨rfl, u, -⟩)
      · dsimp only
        unfold mb_constantTold_11
        rw [if_neg (by decide)]
        have q2 := q1.adv h0 (k_ne (sgn_k s).1 (by decide))
        generalize fup F1 42 (F1 42 + 1) = F2 at q2
        unfold mb_constantTold_16
        have y2 := q2.yp h0 (by decide)
        have f70 : (F2 70).toInt = 0 := by rw [q2.2.1.2.1]; rfl
        refine WP.bind (wz_value hfu F2 G1 y2 (by have := y2.2.2.2.1.1; omega) (Or.inl q2.2.1.2.2)) ?_
        rintro v F3 G3 ⟨hv, ht⟩
        dsimp only
        unfold mb_constantTold_20
        rcases ht with z | ⟨z44, t1, t2, t3⟩
        · refine WP.ite (fun c => ?_) (fun _ => ?_)
          · have := i_le.mp c
            have : (0 : Int32).toInt = 0 := rfl
            omega
          · unfold mb_constantTold_28
            exact WP.ret (Or.inr ⟨rfl, z⟩)
        · rw [if_pos (show F3 44 ≤ 0 by rw [z44]; decide)]
          have q3 := q2.val hv z44 t1 t2 t3
          unfold mb_constantTold_30
          refine WP.bind (q3.twice hfu h0 (by decide) x1 v1) ?_
          rintro r F4 G4 ⟨rfl, -, q4, M4, e46⟩
          dsimp only
          have dc : ∀ a b c : Int32, (GI F0 G0 → F4 46 = 1 → F4 47 = 0 → ¬ a = -1) → WP (mb_constantTold_54 fu a b c 0 x1 F4 G3) (fun r F1 G1 => (r = 1 ∧ GR F0 G0 0 0 0 F1 G1 ∧ (F0 42).toInt < (F1 42).toInt) ∨ (r = 0 ∧ 0 < (F1 44).toInt)) := by
            intro a b c hc
            unfold mb_constantTold_54
            refine WP.bind (q4.decl h0 (by decide) x1 0 c b a v1 (fun g u1 u2 => Or.inl ⟨rfl, hc g u1 u2⟩)) (fun r F5 G5 q5 => ?_)
            dsimp only
            unfold mb_constantTold_58
            refine WP.bind (ws_sign 29 (q5.t h0).2.2.1) ?_
            rintro r F6 G6 (⟨rfl, rfl, rfl, s, -⟩ | ⟨rfl, u, -⟩)
            · dsimp only
              unfold mb_constantTold_64
              exact WP.bz (Or.inr rfl) (WP.ret (Or.inl ⟨rfl, (q5.adv h0 (k_ne (sgn_k s).1 (by decide))).le (by decide) (by decide), q5.adv42 h0 (k_ne (sgn_k s).1 (by decide))⟩))
            · dsimp only
              unfold mb_constantTold_64
              exact WP.bz (Or.inl rfl) (WP.ret (Or.inr ⟨rfl, u.1⟩))
          unfold mb_constantTold_40 mb_constantTold_53 mb_constantTold_49
          refine WP.ite (fun _ => dc _ _ _ (fun _ _ _ => by decide)) (fun c => dc _ _ _ (fun g u1 u2 => ?_))
          rw [e46] at u1
          have n3 := hv.2.2.2.2.2.2 (q2.dc h0 g ((hv.1.1 46 rfl).symm.trans u1))
          rcases n3 with n3 | n3
          · exact absurd n3 c
          · exact absurd (M4 u2) n3
      · dsimp only
        unfold mb_constantTold_11 mb_constantTold_14
        rw [if_pos rfl]
        exact WP.ret (Or.inr ⟨rfl, u.1⟩)
    · refine WP.bind (wb_sign 32 z) ?_
      rintro r F2 G2 ⟨rfl, rfl, rfl⟩
      dsimp only
      unfold mb_constantTold_11 mb_constantTold_14
      rw [if_pos rfl]
      exact WP.ret (Or.inr ⟨rfl, z⟩)
  refine WP.bind (ws_name v0) ?_
  rintro r F1 G1 (⟨rfl, rfl, rfl, k1, -⟩ | ⟨rfl, u⟩)
  · exact go (F 42) _ _ v0 (Or.inl (q.adv h0 (k_ne k1 (by decide))))
  · exact go 0 F1 G1 (vp_in_iff.mpr ⟨by decide, by decide⟩) (Or.inr u.1)
/-- the word and the cell of one number for all -/
def GA (F : PF) (r : Int32) (F1 : PF) (G1 : PG) : Prop := 0 ≤ r.toInt ∧ F1 42 = F 42 ∧ (r.toInt ≤ 2000 → 0 ≤ (G1 39 r.toNatClampNeg).toInt ∧ (G1 39 r.toNatClampNeg).toInt ≤ 8000) ∧ (F1 46 = 1 → F1 47 = 0 → r.toInt < 2000 ∧ (G1 39 r.toNatClampNeg).toInt < (F1 37).toInt)
theorem wz_globalAt {fu : Nat} (hfu : 8589934592 ≤ fu) {F0 F : PF} {G0 G : PG} {δ : Int} (h0 : YA F0 G0) (q : GR F0 G0 0 δ 0 F G) (hδ : δ ≤ 0) (x1 : Int32) (v1 : vp_in x1 4002) : WP (mf_globalAt fu x1 F G) (fun r F1 G1 => GR F0 G0 0 δ 1 F1 G1 ∧ G1 4 = G 4 ∧ GA F r F1 G1) := by
  unfold mf_globalAt mb_globalAt_0
  refine WP.bind (q.twice hfu h0 (by omega) x1 v1) ?_
  rintro r F1 G1 ⟨rfl, e42, q1, -, -⟩
  dsimp only
  have ht := q1.t h0
  have l2 : (2000 : Int32).toInt = 2000 := rfl
  obtain ⟨K, hz, hj, h42, h60, hD, hw, hI, hC⟩ := q1
  have i36 : (F1 36 + 1).toInt = (F1 36).toInt + 1 := i_addn _ rfl (by omega) (by omega)
  -- the cell
  have fin : ∀ (F2 : PF) (G2 : PG), KX [36, 47, 48, 49] [38, 39, 40] F1 G F2 G2 → M7 F1 F2 → F2 36 = F1 36 + 1 → (F1 46 = 1 → 2000 ≤ (F1 36).toInt → ¬ F2 47 = 0) → ((F1 36).toInt ≤ 2000 → G2 39 (F1 36).toNatClampNeg = F1 37 ∧ G2 38 (F1 36).toNatClampNeg = 1 ∧ ∀ k, k ≠ (F1 36).toNatClampNeg → G2 38 k = G 38 k ∧ G2 39 k = G 39 k) → WP (mb_globalAt_73 fu (F1 36) F2 G2) (fun r F1 G1 => GR F0 G0 0 δ 1 F1 G1 ∧ G1 4 = G 4 ∧ GA F r F1 G1) := by
    intro F2 G2 K2 M2 e36 n47 g39
    have t2 : tT F2 G2 = tT F1 G := by unfold tT; rw [K2.1 42 rfl, K2.2 6 rfl]
    have f37 : F2 37 = F1 37 := K2.1 37 rfl
    unfold mb_globalAt_73
    refine WP.ite (fun c => ?_) (fun c => ?_)
    · have c := i_le.mp c
      unfold mb_globalAt_100
      have nn : F2 46 = 1 → ¬ F2 47 = 0 := fun u => n47 ((K2.1 46 rfl).symm.trans u) (by omega)
      refine WP.ret ⟨⟨KX.tr K K2 rfl rfl, by rw [K2.1 44 rfl, K2.1 70 rfl, K2.1 54 rfl]; exact hz, by rw [K2.1 43 rfl]; exact hj, by rw [K2.1 42 rfl]; exact h42, (K2.1 60 rfl).trans h60, by rw [K2.1 14 rfl, t2]; exact hD, by rw [e36, f37]; omega, fun _ u1 u2 => absurd u2 (nn u1), hC.1.kx K2 rfl rfl rfl rfl, by rw [f37]; exact hC.2⟩, K2.2 4 rfl, hw.1, (K2.1 42 rfl).trans e42, fun z => by rw [(g39 z).1]; omega, fun u1 u2 => absurd u2 (nn u1)⟩
    · have c := mt i_le.mpr c
      obtain ⟨g1, g2, g3⟩ := g39 (by omega)
      unfold mb_globalAt_80
      rw [f37]
      refine WP.ix (vp_in_iff.mpr ⟨by omega, by omega⟩) ?_
      unfold mb_globalAt_90 mb_globalAt_100
      rw [f37]
      have i37 : (F1 37 + 1).toInt = (F1 37).toInt + 1 := i_addn _ rfl (by omega) (by omega)
      have cb2 : CB F0 G0 G2 := hC.1.kx K2 rfl rfl rfl rfl
      refine WP.ret ⟨⟨KX.f rfl (KX.g rfl (KX.tr K K2 rfl rfl)), ?_, ?_, ?_, (K2.1 60 rfl).trans h60, ?_, ?_, ?_, cb2, by have := hC.2; show (F0 37).toInt ≤ (F1 37 + 1).toInt; omega⟩, K2.2 4 rfl, hw.1, (K2.1 42 rfl).trans e42, fun z => ?_, fun u1 u2 => ?_⟩
      · show F2 44 = 0 ∧ F2 70 = 0 ∧ F2 54 = 0
        rw [K2.1 44 rfl, K2.1 70 rfl, K2.1 54 rfl]; exact hz
      · show (F2 43).toInt = 0 ∧ _
        rw [K2.1 43 rfl]; exact hj
      · show (0 ≤ (F2 42).toInt ∧ (F2 42).toInt ≤ _) ∧ _ ≤ (F2 42).toInt
        rw [K2.1 42 rfl]; exact h42
      · show 0 ≤ (F2 14).toInt ∧ 5 * (F2 14).toInt ≤ tT F2 G2 + δ
        rw [K2.1 14 rfl, t2]; exact hD
      · show 0 ≤ (F2 36).toInt ∧ (F2 36).toInt ≤ _ ∧ 0 ≤ (F1 37 + 1).toInt ∧ (F1 37 + 1).toInt ≤ 8000 ∧ ((F2 36).toInt ≤ 2000 → (F1 37 + 1).toInt ≤ 4 * (F2 36).toInt)
        rw [e36]
        omega
      · intro g u1 u2
        have u1 : F1 46 = 1 := (K2.1 46 rfl).symm.trans u1
        obtain ⟨c0, c1, c2, c3⟩ := hI g u1 (M2 u2)
        show F2 15 = 0 ∧ (∀ k : Nat, (k : Int) < (F2 14).toInt → G2 23 k = 0 ∧ G2 19 k = 0 ∧ ((G2 17 k = 0 ∧ ¬ G2 21 k = -1) ∨ (G2 17 k = 1 ∧ 0 ≤ (G2 20 k).toInt ∧ (G2 20 k).toInt < (F1 37 + 1).toInt) ∨ (G2 17 k = 2 ∧ 1 ≤ (G2 21 k).toInt ∧ 0 ≤ (G2 20 k).toInt ∧ (G2 20 k).toInt + (G2 21 k).toInt ≤ (F1 37 + 1).toInt))) ∧ (F2 36).toInt ≤ 2000 ∧ ∀ k : Nat, (k : Int) < (F2 36).toInt → 0 ≤ (G2 39 k).toInt ∧ (0 ≤ (G2 38 k).toInt ∧ (G2 38 k).toInt ≤ 4) ∧ (G2 39 k).toInt + (G2 38 k).toInt ≤ (F1 37 + 1).toInt
        rw [K2.1 15 rfl, K2.1 14 rfl, K2.2 23 rfl, K2.2 19 rfl, K2.2 17 rfl, K2.2 20 rfl, K2.2 21 rfl, e36]
        refine ⟨c0, fun k hk => ?_, by omega, fun k hk => ?_⟩
        · obtain ⟨b1, b2, b3⟩ := c1 k hk
          refine ⟨b1, b2, ?_⟩
          rcases b3 with b | b | b
          · exact Or.inl b
          · exact Or.inr (Or.inl ⟨b.1, b.2.1, by omega⟩)
          · exact Or.inr (Or.inr ⟨b.1, b.2.1, b.2.2.1, by omega⟩)
        · by_cases e : k = (F1 36).toNatClampNeg
          · rw [e, g1, g2]
            have : (1 : Int32).toInt = 1 := rfl
            omega
          · have := nN_of hw.1
            obtain ⟨p1, p2⟩ := g3 k e
            rw [p1, p2]
            have := c3 k (by omega)
            omega
      · show 0 ≤ (G2 39 (F1 36).toNatClampNeg).toInt ∧ (G2 39 (F1 36).toNatClampNeg).toInt ≤ 8000
        rw [g1]
        omega
      · show _ ∧ (G2 39 (F1 36).toNatClampNeg).toInt < (F1 37 + 1).toInt
        rw [g1]
        omega
  have mid : ∀ (F2 : PF) (G2 : PG), KX [36, 47, 48, 49] [] F1 G F2 G2 → M7 F1 F2 → F2 36 = F1 36 + 1 → (F1 46 = 1 → 2000 ≤ (F1 36).toInt → ¬ F2 47 = 0) → WP (mb_globalAt_42 fu (F1 36) F2 G2) (fun r F1 G1 => GR F0 G0 0 δ 1 F1 G1 ∧ G1 4 = G 4 ∧ GA F r F1 G1) := by
    intro F2 G2 K2 M2 e36 n47
    unfold mb_globalAt_42
    refine WP.ite (fun c => ?_) (fun c => ?_)
    · have c := i_lt.mp c
      exact fin F2 G2 (KX.tr KX.rf K2 rfl rfl) M2 e36 n47 (fun z => by omega)
    · have c := mt i_lt.mpr c
      have v : vp_in (F1 36) 2001 := vp_in_iff.mpr ⟨hw.1, by omega⟩
      unfold mb_globalAt_49
      refine WP.ix v ?_
      unfold mb_globalAt_56
      refine WP.ix v ?_
      unfold mb_globalAt_63
      refine WP.ix v ?_
      rw [K2.1 37 rfl]
      refine fin F2 _ (KX.g rfl (KX.g rfl (KX.g rfl (KX.tr KX.rf K2 rfl rfl)))) M2 e36 n47 (fun _ => ⟨?_, ?_, fun k hk => ⟨?_, ?_⟩⟩)
      · exact gup_i (G := gup (gup G2 38 _ _) 40 _ _) (k := 39)
      · exact gup_i (G := G2) (k := 38)
      · rw [← K2.2 38 rfl]
        exact gup_x (G := G2) (k := 38) hk
      · rw [← K2.2 39 rfl]
        exact gup_x (G := gup (gup G2 38 _ _) 40 _ _) (k := 39) hk
  unfold mb_globalAt_5 mb_globalAt_20
  have Ka : KX [36, 47, 48, 49] [] F1 G (fup F1 36 (F1 36 + 1)) G := KX.f rfl KX.rf
  refine WP.ite (fun c => mid _ _ Ka (M7.f (by decide) M7.rf) rfl (fun _ u => ?_)) (fun _ => ?_)
  · have c : (F1 36 + 1).toInt ≤ _ := i_le.mp c
    omega
  unfold mb_globalAt_30
  refine WP.ix v1 (WP.bind (WP.pp ((wa_note 11 _).of (mp_note 11 _ (by decide) _ _)) (mm_note 11 _ (by decide) _ _)) ?_)
  rintro r F3 G3 ⟨M3, K3, rfl, n3, -⟩
  dsimp only
  refine mid F3 G (KX.tr Ka K3 rfl rfl) M3.1 (K3.1 36 rfl) (fun u _ z => ?_)
  have := n3 (show ¬ F1 46 = 0 by rw [u]; decide)
  rw [z] at this
  exact absurd this (by decide)
