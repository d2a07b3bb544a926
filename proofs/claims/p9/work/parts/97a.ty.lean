theorem EOK.arr {X : TX} {L : List Nat} {F : PF} {G : PG} {m : Int32} (hT : TP X L F G) (h54 : F 54 = 0) (h47 : F 47 = 0) (h : EOK F G m) : (¬ G 23 m.toNatClampNeg = 0 → arr X (G 20 m.toNatClampNeg) (G 21 m.toNatClampNeg) 1) ∧ (G 23 m.toNatClampNeg = 0 → arr X (G 20 m.toNatClampNeg) (G 21 m.toNatClampNeg) 0) := by
  obtain ⟨h0, h1, h2⟩ := h
  rcases hT.2.1 h54 h47 m.toNatClampNeg (by show (m.toInt.toNat : Int) < _; omega) with ⟨q, -⟩ | ⟨q, -⟩ | ⟨-, q⟩
  · rw [h2] at q; exact absurd q (by decide)
  · rw [h2] at q; exact absurd q (by decide)
  · exact q
theorem EOK.mk {a b : List Nat} {F0 F : PF} {G0 G : PG} {m : Int32} (hm : mnR F0 m) (hne : ¬ m = -1) (K : KX a b F0 G0 F G) (e : tpo a b = true) (hk : G 17 m.toNatClampNeg = 2) : EOK F G m := by
  rcases hm with q | ⟨q1, q2⟩
  · exact absurd q hne
  · refine ⟨q1, ?_, hk⟩
    rw [K.1 14 (tpo.e e).1]
    exact q2
theorem DI.ld1 {X : TX} {L : List Nat} {a b : List Nat} {F0 F : PF} {G0 G : PG} {m : Int32} (hT : TP X L F0 G0) (h54 : F0 54 = 0) (h47 : F0 47 = 0) (K : KX a b F0 G0 F G) (e : tpo a b = true) (hm : mnR F0 m) (hne : ¬ m = -1) (k0 : ¬ G 17 m.toNatClampNeg = 0) (k2 : ¬ G 17 m.toNatClampNeg = 2) (hl : ¬ G 23 m.toNatClampNeg = 0) : 0 ≤ (G 20 m.toNatClampNeg).toInt ∧ (G 20 m.toNatClampNeg).toInt < (X.2.2.2.2.1 : Int) ∧ icell X.2.2.2.2.2 (G 20 m.toNatClampNeg).toInt.toNat := by
  obtain ⟨-, -, ⟨q, -⟩ | ⟨-, q, -⟩ | ⟨q, -⟩⟩ := DI.at hT h54 h47 K e hm hne
  · exact absurd q k0
  · exact q hl
  · exact absurd q k2
theorem DI.ld3 {X : TX} {L : List Nat} {a b : List Nat} {F0 F : PF} {G0 G : PG} {m : Int32} (hT : TP X L F0 G0) (h54 : F0 54 = 0) (h47 : F0 47 = 0) (K : KX a b F0 G0 F G) (e : tpo a b = true) (hm : mnR F0 m) (hne : ¬ m = -1) (k0 : ¬ G 17 m.toNatClampNeg = 0) (k2 : ¬ G 17 m.toNatClampNeg = 2) (hl : G 23 m.toNatClampNeg = 0) : 0 ≤ (G 20 m.toNatClampNeg).toInt ∧ (G 20 m.toNatClampNeg).toInt < (X.2.2.2.1 : Int) := by
  obtain ⟨-, -, ⟨q, -⟩ | ⟨-, -, q⟩ | ⟨q, -⟩⟩ := DI.at hT h54 h47 K e hm hne
  · exact absurd q k0
  · exact q hl
  · exact absurd q k2
theorem DI.ar {X : TX} {L : List Nat} {a b : List Nat} {F0 F : PF} {G0 G : PG} {m : Int32} (hT : TP X L F0 G0) (h54 : F0 54 = 0) (h47 : F0 47 = 0) (K : KX a b F0 G0 F G) (e : tpo a b = true) (hm : mnR F0 m) (hne : ¬ m = -1) (k2 : G 17 m.toNatClampNeg = 2) : (¬ G 23 m.toNatClampNeg = 0 → arr X (G 20 m.toNatClampNeg) (G 21 m.toNatClampNeg) 1) ∧ (G 23 m.toNatClampNeg = 0 → arr X (G 20 m.toNatClampNeg) (G 21 m.toNatClampNeg) 0) := by
  obtain ⟨-, -, ⟨q, -⟩ | ⟨q, -, -⟩ | ⟨-, q⟩⟩ := DI.at hT h54 h47 K e hm hne
  · rw [k2] at q; exact absurd q (by decide)
  · rw [k2] at q; exact absurd q (by decide)
  · exact q
theorem kinds_len {G : PG} {f : Nat} : (kindsOf G f).length = (G 27 f).toInt.toNat := by
  unfold kindsOf
  rw [List.length_map, List.length_range]
theorem kinds_get {G : PG} {f j : Nat} (h : j < (kindsOf G f).length) : (kindsOf G f)[j] = (G 34 ((G 31 f).toInt.toNat + j)).toInt.toNat := by
  have h1 : j < ((List.range (G 27 f).toInt.toNat).map (fun j => (G 34 ((G 31 f).toInt.toNat + j)).toInt.toNat)).length := h
  show ((List.range (G 27 f).toInt.toNat).map (fun j => (G 34 ((G 31 f).toInt.toNat + j)).toInt.toNat))[j]'h1 = _
  rw [List.getElem_map, List.getElem_range]
/-- one more argument -/
theorem argS_take {X : TX} {L : List Nat} {a b : List Nat} {F0 F : PF} {G0 G : PG} {f k : Int32} {s : SH} (hT : TP X L F0 G0) (h54 : F0 54 = 0) (K : KX a b F0 G0 F G) (e : tpo a b = true) (hf : FOK F0 f) (hk : 0 ≤ k.toInt) (hlt : k.toInt < (G 27 f.toNatClampNeg).toInt) : argS ((kindsOf G0 f.toNatClampNeg).take (k + 1).toInt.toNat) s = pushK (G 34 (G 31 f.toNatClampNeg + k).toNatClampNeg).toInt.toNat (argS ((kindsOf G0 f.toNatClampNeg).take k.toInt.toNat) s) ∧ k.toInt < (G0 27 f.toNatClampNeg).toInt ∧ k.toInt ≤ 3 ∧ (k + 1).toInt = k.toInt + 1 := by
  obtain ⟨e14, e24, e37, e53, e54, g17, g20, g21, g23, g27, g31, g34⟩ := tpo.e e
  rw [K.2 27 g27] at hlt
  rw [K.2 31 g31, K.2 34 g34]
  obtain ⟨b0, b1, b2, b3, b4⟩ := hT.2.2.1 h54 f.toNatClampNeg (by have := hf.1; have := hf.2; show (f.toInt.toNat : Int) < _; omega)
  have ek : (k + 1).toInt = k.toInt + 1 := i_addn k rfl (by omega) (by omega)
  have e31 : (G0 31 f.toNatClampNeg + k).toInt = (G0 31 f.toNatClampNeg).toInt + k.toInt := i_addn _ rfl (by omega) (by omega)
  refine ⟨?_, hlt, by omega, ek⟩
  have en : (k + 1).toInt.toNat = k.toInt.toNat + 1 := by omega
  have hl : k.toInt.toNat < (kindsOf G0 f.toNatClampNeg).length := by rw [kinds_len]; omega
  rw [en, List.take_succ_eq_append_getElem hl, argS_app]
  show pushK _ _ = _
  congr 1
  rw [kinds_get hl]
  have : (G0 31 f.toNatClampNeg + k).toNatClampNeg = (G0 31 f.toNatClampNeg).toInt.toNat + k.toInt.toNat := by
    show (G0 31 f.toNatClampNeg + k).toInt.toNat = _
    omega
  rw [this]
theorem argS_all {X : TX} {L : List Nat} {a b : List Nat} {F0 F : PF} {G0 G : PG} {f k : Int32} {s : SH} (hT : TP X L F0 G0) (K : KX a b F0 G0 F G) (e : tpo a b = true) (hf : FOK F0 f) (hk : 0 ≤ k.toInt) (hge : ¬ k.toInt < (G 27 f.toNatClampNeg).toInt) : argS ((kindsOf G0 f.toNatClampNeg).take k.toInt.toNat) s = argS (kindsOf G0 f.toNatClampNeg) s := by
  obtain ⟨e14, e24, e37, e53, e54, g17, g20, g21, g23, g27, g31, g34⟩ := tpo.e e
  rw [K.2 27 g27] at hge
  rw [List.take_of_length_le]
  rw [kinds_len]
  omega
theorem call_pre {X : TX} {L : List Nat} {F0 : PF} {G0 : PG} {f : Int32} {s : SH} (hT : TP X L F0 G0) (h54 : F0 54 = 0) (hne : ¬ F0 43 = 40) (hf : FOK F0 f) (hb : bd 8 F0 s) : 0 ≤ f.toInt ∧ f.toInt < (X.2.1 : Int) ∧ argS (kindsOf G0 f.toNatClampNeg) s = argS (X.2.2.1 f.toInt.toNat) s ∧ s.length ≤ 542 ∧ (argS (kindsOf G0 f.toNatClampNeg) s).length ≤ 600 := by
  have e1 := hT.1
  have hx1 : X.2.1 = (F0 24).toInt.toNat := by rw [← e1]; rfl
  have hx2 : X.2.2.1 = kindsOf G0 := by rw [← e1]; rfl
  obtain ⟨b0, b1, b2, b3, b4⟩ := hT.2.2.1 h54 f.toNatClampNeg (by have := hf.1; have := hf.2; show (f.toInt.toNat : Int) < _; omega)
  have ho := (o_inc ⟨hT.2.2.2.2.2.1, hT.2.2.2.2.2.2.1⟩ hne)
  unfold bd at hb
  rw [if_pos h54] at hb
  have hl := argS_len (kindsOf G0 f.toNatClampNeg) s
  rw [kinds_len] at hl
  have := hf.1
  have := hf.2
  refine ⟨hf.1, by rw [hx1]; omega, by rw [hx2]; rfl, by omega, by omega⟩
theorem fnR.ok {F : PF} {f : Int32} (h : fnR F f) (hne : ¬ f = -1) : FOK F f := by
  rcases h with q | q
  · exact absurd q hne
  · exact q
theorem FOK.kx {a b : List Nat} {F0 F : PF} {G0 G : PG} {f : Int32} (h : FOK F0 f) (K : KX a b F0 G0 F G) (e : tpo a b = true) : FOK F f := by
  unfold FOK
  rw [K.1 24 (tpo.e e).2.1]
  exact h
theorem pushK_ne {k : Int32} {s : SH} (h : 0 ≤ k.toInt) (hk : ¬ k = 0) : pushK k.toInt.toNat s = 3 :: 2 :: s := by
  unfold pushK
  rw [if_neg]
  intro q
  exact hk (i_eq.mpr (by show k.toInt = 0; omega))
theorem pushK_z {k : Int32} {s : SH} (hk : k = 0) : pushK k.toInt.toNat s = 0 :: s := by
  rw [hk]
  rfl
theorem FTb.k {X : TX} {L : List Nat} {F : PF} {G : PG} {f : Int32} (hT : TP X L F G) (h54 : F 54 = 0) (hF : FOK F f) (j : Nat) : 0 ≤ (G 34 j).toInt := (hT.2.2.1 h54 f.toNatClampNeg (by have := hF.1; have := hF.2; show (f.toInt.toNat : Int) < _; omega)).2.2.2.2 j
