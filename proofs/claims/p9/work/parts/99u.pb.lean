/-- a constant's value is reckoned -/
theorem wz_value {fu : Nat} (hfu : 8589934592 ≤ fu) (F : PF) (G : PG) (h0 : YP F G) (h70 : (F 70).toInt ≤ 10 * (F 43).toInt) (h54 : F 54 = 0 ∨ F 54 = 1) : WP (mf_value fu F G) (fun _ F1 G1 => VQ F G F1 G1 ∧ (0 < (F1 44).toInt ∨ (F1 44 = 0 ∧ (0 ≤ (F1 42).toInt ∧ (F1 42).toInt ≤ (F 7).toInt) ∧ (F 42).toInt ≤ (F1 42).toInt ∧ tT F G + 1 ≤ tT F1 G1))) := by
  obtain ⟨y1, y2, y3, y4, y5, y6, y7, y8⟩ := id h0
  have vp : VP F := ⟨y5, y2, y6⟩
  have key : WP (mf_value fu F G) (fun _ F1 G1 => 0 < (F1 44).toInt ∨ (F1 44 = 0 ∧ (0 ≤ (F1 42).toInt ∧ (F1 42).toInt ≤ (F 7).toInt) ∧ (F 42).toInt ≤ (F1 42).toInt ∧ tT F G + 1 ≤ tT F1 G1)) := by
    unfold mf_value mb_value_0 mb_value_10 mb_value_15
    have yp' : YP (fup (fup F 54 1) 55 0) G := h0
    have tp : TP (XS [] (fup (fup F 54 1) 55 0) G) [] (fup (fup F 54 1) 55 0) G := ⟨rfl, fun q => absurd (show (1 : Int32) = 0 from q) (by decide), fun q => absurd (show (1 : Int32) = 0 from q) (by decide), y8.1.1, y8.2.1.1, y4.1, y4.2, y6, y5⟩
    have d4 : dS 4 = 6 := rfl
    have ps : pS 4 0 0 (fup (fup F 54 1) 55 0) G := ⟨fun _ => h70, by show (F 70).toInt ≤ 10 * (F 43).toInt + 10; omega, fun z => absurd z (by decide), fun z => absurd z (by decide), fun z => absurd z (by decide), fun z => absurd z (by decide)⟩
    refine WP.bind (WP.pp (mzS1 hfu 300 4 0 0 (fup (fup F 54 1) 55 0) G (by decide) yp' ps (by show 7 * (40 - (F 43).toInt) + dS 4 ≤ _; omega)) (PP.and (mcS1 300 4 0 0 (fup (fup F 54 1) 55 0) G y5 y6) (mtS1 (X := XS [] (fup (fup F 54 1) 55 0) G) (L := []) 300 4 0 0 (fup (fup F 54 1) 55 0) G tp))) ?_
    rintro r F2 G2 ⟨⟨⟨-, c1, c2, -, -⟩, ht⟩, hz⟩
    dsimp only
    unfold mb_value_24
    refine WP.bz h54 ?_
    have c2 : (F 60).toNatClampNeg ≤ (F2 60).toNatClampNeg := c2
    have c2 : (F 60).toInt.toNat ≤ (F2 60).toInt.toNat := c2
    have post : 0 < (F2 44).toInt ∨ (F2 44 = 0 ∧ (0 ≤ (F2 42).toInt ∧ (F2 42).toInt ≤ (F 7).toInt) ∧ (F 42).toInt ≤ (F2 42).toInt ∧ tT F G + 1 ≤ tT F2 G2) := by
      rcases hz with ⟨-, z1, z2, z3, z4, z5, z6, z7, z8⟩ | ⟨-, -, z, -⟩
      · have k4 : κS 4 = -1 := rfl
        rw [k4] at z7
        have z7 : (F2 60).toInt + 2 * tT F G ≤ (F 60).toInt + 2 * tT F2 G2 + -1 := z7
        exact Or.inr ⟨z2, z3, z8, by omega⟩
      · exact Or.inl z
    have fin : ∀ (v : Int32) (F3 : PF) (G3 : PG), KX [72] [71] (fup F2 54 (F 54)) G2 F3 G3 → WP (mb_value_60 fu (F 60) v F3 G3) (fun _ F1 G1 => 0 < (F1 44).toInt ∨ (F1 44 = 0 ∧ (0 ≤ (F1 42).toInt ∧ (F1 42).toInt ≤ (F 7).toInt) ∧ (F 42).toInt ≤ (F1 42).toInt ∧ tT F G + 1 ≤ tT F1 G1)) := by
      intro v F3 G3 K
      unfold mb_value_60 mb_value_66
      refine WP.ret ?_
      have e1 : tT (fup F3 60 (F 60)) G3 = tT F2 G2 := by
        show (G3 6 (F3 42).toNatClampNeg).toInt = _
        rw [K.1 42 rfl, K.2 6 rfl]
        rfl
      rw [e1]
      show 0 < (F3 44).toInt ∨ (F3 44 = 0 ∧ (0 ≤ (F3 42).toInt ∧ (F3 42).toInt ≤ (F 7).toInt) ∧ (F 42).toInt ≤ (F3 42).toInt ∧ _)
      rw [K.1 44 rfl, K.1 42 rfl]
      exact post
    have no : WP (mb_value_51 fu (F 60) (fup F2 54 (F 54)) G2) (fun _ F1 G1 => 0 < (F1 44).toInt ∨ (F1 44 = 0 ∧ (0 ≤ (F1 42).toInt ∧ (F1 42).toInt ≤ (F 7).toInt) ∧ (F 42).toInt ≤ (F1 42).toInt ∧ tT F G + 1 ≤ tT F1 G1)) := fin 0 _ _ KX.rf
    unfold mb_value_30
    refine WP.ite (fun _ => no) (fun c44 => ?_)
    unfold mb_value_37
    refine WP.ite (fun _ => no) (fun c46 => ?_)
    unfold mb_value_44
    refine WP.ite (fun c55 => ?_) (fun _ => no)
    rcases hz with ⟨rfl, hz⟩ | ⟨-, -, z, -⟩
    · have w60 : (F2 60).toInt ≤ 9000 := by
        have := vp_in_iff.mp (hz.w yp' (by decide)).1
        omega
      have e54 : F2 54 = 1 := hz.1.1 54 rfl
      have lv : LV F2 := ⟨c46, fun q => absurd (e54.symm.trans q) (by decide), fun _ => c55⟩
      have te := (ht.2 rfl).2.2.2.2 lv
      have te : TE (XS [] (fup (fup F 54 1) 55 0) G) (fup (fup F 54 1) 55 0) G F2 G2 0 (fun s => 0 :: s) := te
      have E := te (fun _ => ([], 0, false)) [] 0 rfl (by
        unfold bd
        rw [if_neg (show ¬ (fup (fup F 54 1) 55 0) 54 = 0 from (show ¬ (1 : Int32) = 0 by decide))]
        show (0 : Int) + 0 ≤ 14 * (F 43).toInt + 0
        omega)
      have E2 := EX.st (F1 := fup F2 54 (F 54)) (G1 := G2) E rfl (fun _ _ _ => rfl)
      unfold mb_value_55
      refine WP.bind (ms_reckon hfu E2 rfl rfl (show 0 ≤ (F 60).toInt from y5) ⟨hz.2.2.2.2.1, w60⟩) ?_
      intro v F3 G3 K
      dsimp only
      exact fin v F3 G3 K
    · exact absurd (show (0 : Int32) < F2 44 from i_lt.mpr z) c44
  exact WP.pp key (mg_value F G vp) |>.mono (fun _ _ _ q => q)
theorem wz_sizeHere {fu : Nat} (hfu : 8589934592 ≤ fu) (F : PF) (G : PG) (h0 : YP F G) (h70 : (F 70).toInt ≤ 10 * (F 43).toInt) (h54 : F 54 = 0 ∨ F 54 = 1) : WP (mf_sizeHere fu F G) (fun r F1 G1 => VQ F G F1 G1 ∧ (r = -1 ∨ (1 ≤ r.toInt ∧ r.toInt ≤ 500)) ∧ (0 < (F1 44).toInt ∨ (F1 44 = 0 ∧ (0 ≤ (F1 42).toInt ∧ (F1 42).toInt ≤ (F 7).toInt) ∧ (F 42).toInt ≤ (F1 42).toInt ∧ tT F G + 1 ≤ tT F1 G1))) := by
  have vp : VP F := ⟨h0.2.2.2.2.1, h0.2.1, h0.2.2.2.2.2.1⟩
  have key : WP (mf_sizeHere fu F G) (fun _ F1 G1 => 0 < (F1 44).toInt ∨ (F1 44 = 0 ∧ (0 ≤ (F1 42).toInt ∧ (F1 42).toInt ≤ (F 7).toInt) ∧ (F 42).toInt ≤ (F1 42).toInt ∧ tT F G + 1 ≤ tT F1 G1)) := by
    unfold mf_sizeHere mb_sizeHere_0
    refine WP.ix h0.v (WP.bind (wz_value hfu F G h0 h70 h54) ?_)
    rintro r F1 G1 ⟨-, q⟩
    dsimp only
    have one : WP (mb_sizeHere_29 fu F1 G1) (fun _ F1 G1 => 0 < (F1 44).toInt ∨ (F1 44 = 0 ∧ (0 ≤ (F1 42).toInt ∧ (F1 42).toInt ≤ (F 7).toInt) ∧ (F 42).toInt ≤ (F1 42).toInt ∧ tT F G + 1 ≤ tT F1 G1)) := by
      unfold mb_sizeHere_29
      exact WP.ret q
    have nt : ∀ p : Int32, WP (mb_sizeHere_54 fu p F1 G1) (fun _ F1 G1 => 0 < (F1 44).toInt ∨ (F1 44 = 0 ∧ (0 ≤ (F1 42).toInt ∧ (F1 42).toInt ≤ (F 7).toInt) ∧ (F 42).toInt ≤ (F1 42).toInt ∧ tT F G + 1 ≤ tT F1 G1)) := by
      intro p
      unfold mb_sizeHere_54
      refine WP.bind (ws_note 10 p (by decide)) ?_
      rintro r F2 G2 ⟨K, rfl⟩
      dsimp only
      unfold mb_sizeHere_61
      refine WP.ret ?_
      have e1 : tT F2 G1 = tT F1 G1 := by unfold tT; rw [K.1 42 rfl]
      rw [e1, K.1 44 rfl, K.1 42 rfl]
      exact q
    unfold mb_sizeHere_14 mb_sizeHere_22 mb_sizeHere_31 mb_sizeHere_40 mb_sizeHere_45 mb_sizeHere_52 mb_sizeHere_38
    exact WP.ite (fun _ => one) (fun _ => WP.ite (fun _ => one) (fun _ => WP.ite (fun _ => WP.ite (fun _ => nt _) (fun _ => WP.ite (fun _ => nt _) (fun _ => WP.ret q))) (fun _ => WP.ret q)))
  exact WP.mono (WP.pp key (mg_sizeHere F G vp)) (fun _ _ _ q => ⟨q.1.1, q.1.2.1, q.2⟩)
/-- before a statement: all is in its room -/
def YG (F : PF) (G : PG) : Prop := GP F ∧ TBL F G ∧ (0 ≤ (F 42).toInt ∧ (F 42).toInt ≤ (F 7).toInt) ∧ (F 60).toInt ≤ 2 * tT F G + 600 ∧ (0 ≤ (F 14).toInt ∧ 5 * (F 14).toInt ≤ tT F G) ∧ (0 ≤ (F 24).toInt ∧ (F 24).toInt ≤ 500) ∧ (F 46 = 0 ∨ ∀ f : Nat, (f : Int) < (F 24).toInt → 0 ≤ (G 27 f).toInt ∧ 0 ≤ (G 31 f).toInt ∧ (G 31 f).toInt + (G 27 f).toInt ≤ 900) ∧ vp_in (F 50) 500
/-- along a statement's text -/
def WR (F0 : PF) (G0 : PG) (κ j δ : Int) (F : PF) (G : PG) : Prop := KX [14, 15, 42, 43, 44, 45, 47, 48, 49, 51, 52, 53, 54, 55, 60, 62, 63, 64, 65, 66, 70, 72] [16, 17, 18, 19, 20, 21, 22, 23, 56, 57, 58, 59, 67, 68, 69, 71] F0 G0 F G ∧ GP F ∧ (0 ≤ (F 42).toInt ∧ (F 42).toInt ≤ (F0 7).toInt) ∧ (F 43).toInt = (F0 43).toInt + j ∧ F 51 = F0 51 ∧ ((F 60).toInt + 2 * tT F0 G0 ≤ (F0 60).toInt + 2 * tT F G + κ ∧ (F0 42).toInt ≤ (F 42).toInt) ∧ (0 ≤ (F 14).toInt ∧ 5 * (F 14).toInt ≤ tT F G + δ)
def WF0 (F0 : PF) (G0 : PG) (F : PF) (G : PG) : Prop := KX [14, 15, 42, 43, 44, 45, 47, 48, 49, 51, 52, 53, 54, 55, 60, 62, 63, 64, 65, 66, 70, 72] [16, 17, 18, 19, 20, 21, 22, 23, 56, 57, 58, 59, 67, 68, 69, 71] F0 G0 F G ∧ 0 < (F 44).toInt ∧ (0 ≤ (F 14).toInt ∧ (F 14).toInt ≤ 900)
theorem WR.rf {F : PF} {G : PG} (h : YG F G) : WR F G 0 0 0 F G := ⟨KX.rf, h.1, h.2.2.1, by omega, rfl, ⟨by omega, Int.le_refl _⟩, by have := h.2.2.2.2.1; omega⟩
theorem WR.t {F0 F : PF} {G0 G : PG} {κ j δ : Int} (h : WR F0 G0 κ j δ F G) (h0 : YG F0 G0) : TBL F G ∧ (0 ≤ tT F G ∧ tT F G ≤ 4000) ∧ vp_in (F 42) 4002 := by
  obtain ⟨K, hg, h42, h43, h51, hΦ, hD⟩ := h
  have T1 := h0.2.1.kx K rfl rfl rfl rfl rfl
  have := T1.2.1
  have := T1.2.2.2.1
  have e7 := K.1 7 rfl
  rw [e7] at this
  exact ⟨T1, T1.rng h42.1 (by rw [e7]; exact h42.2), vp_in_iff.mpr ⟨h42.1, by omega⟩⟩
theorem WR.yp {F0 F : PF} {G0 G : PG} {κ j δ : Int} (h : WR F0 G0 κ j δ F G) (h0 : YG F0 G0) (hκ : κ ≤ 0) (hδ : δ ≤ 1) : YP F G := by
  have ht := h.t h0
  obtain ⟨K, hg, h42, h43, h51, hΦ, hD⟩ := h
  obtain ⟨a1, a2, a3, a4, a5, a6, a7, a8⟩ := h0
  obtain ⟨b1, b2, b3, b4, b5, b6, b7, b8⟩ := hg
  have z : (0 : Int32).toInt = 0 := rfl
  refine ⟨ht.1, b2, by rw [K.1 7 rfl]; exact h42, ⟨by omega, b6⟩, b1, by rw [b3]; decide, by rw [b3]; omega, ⟨hD.1, by omega⟩, by rw [K.1 24 rfl]; exact a6, ?_⟩
  rw [K.1 46 rfl, K.1 24 rfl, K.2 27 rfl, K.2 31 rfl]
  exact a7
theorem WR.yg {F0 F : PF} {G0 G : PG} {κ j : Int} (h : WR F0 G0 κ j 0 F G) (h0 : YG F0 G0) (hκ : κ ≤ 0) : YG F G := by
  have ht := h.t h0
  obtain ⟨K, hg, h42, h43, h51, hΦ, hD⟩ := h
  obtain ⟨a1, a2, a3, a4, a5, a6, a7, a8⟩ := h0
  refine ⟨hg, ht.1, by rw [K.1 7 rfl]; exact h42, by omega, ⟨hD.1, by omega⟩, by rw [K.1 24 rfl]; exact a6, ?_, by rw [K.1 50 rfl]; exact a8⟩
  rw [K.1 46 rfl, K.1 24 rfl, K.2 27 rfl, K.2 31 rfl]
  exact a7
theorem WR.adv {F0 F : PF} {G0 G : PG} {κ j δ : Int} (h : WR F0 G0 κ j δ F G) (h0 : YG F0 G0) (hk : ¬ G 4 (F 42).toNatClampNeg = 0) : WR F0 G0 (κ - 2) j (δ - 1) (fup F 42 (F 42 + 1)) G := by
  have ht := h.t h0
  obtain ⟨K, hg, h42, h43, h51, hΦ, hD⟩ := h
  have e7 := K.1 7 rfl
  obtain ⟨a1, a2, a3⟩ := ht.1.adv h42.1 (by rw [e7]; exact h42.2) hk
  have := lnT.pos (G 4 (F 42).toNatClampNeg) (G 5 (F 42).toNatClampNeg)
  have e : tT (fup F 42 (F 42 + 1)) G = (G 6 (F 42 + 1).toNatClampNeg).toInt := rfl
  have e1 : tT F G = (G 6 (F 42).toNatClampNeg).toInt := rfl
  refine ⟨KX.f rfl K, hg, ⟨by show 0 ≤ (F 42 + 1).toInt; omega, by show (F 42 + 1).toInt ≤ _; rw [e7] at a2; omega⟩, h43, h51, ⟨?_, by show _ ≤ (F 42 + 1).toInt; omega⟩, hD.1, ?_⟩
  · show (F 60).toInt + _ ≤ _
    rw [e]
    omega
  · show 5 * (F 14).toInt ≤ _
    rw [e]
    omega
/-- a longer word -/
theorem WR.adv3 {F0 F : PF} {G0 G : PG} {κ j δ : Int} (h : WR F0 G0 κ j δ F G) (h0 : YG F0 G0) (hk : G 4 (F 42).toNatClampNeg = 2) (hv : (G 5 (F 42).toNatClampNeg).toInt ≤ 2) : WR F0 G0 (κ - 2) j (δ - 3) (fup F 42 (F 42 + 1)) G := by
  have ht := h.t h0
  obtain ⟨K, hg, h42, h43, h51, hΦ, hD⟩ := h
  have e7 := K.1 7 rfl
  obtain ⟨a1, a2, a3⟩ := ht.1.adv h42.1 (by rw [e7]; exact h42.2) (k_ne hk (by decide))
  have l3 : lnT (G 4 (F 42).toNatClampNeg) (G 5 (F 42).toNatClampNeg) = 3 := by
    unfold lnT
    rw [if_neg (fun q => absurd (hk.symm.trans q.1) (by decide)), if_pos ⟨hk, hv⟩]
  have e : tT (fup F 42 (F 42 + 1)) G = (G 6 (F 42 + 1).toNatClampNeg).toInt := rfl
  have e1 : tT F G = (G 6 (F 42).toNatClampNeg).toInt := rfl
  refine ⟨KX.f rfl K, hg, ⟨by show 0 ≤ (F 42 + 1).toInt; omega, by show (F 42 + 1).toInt ≤ _; rw [e7] at a2; omega⟩, h43, h51, ⟨?_, by show _ ≤ (F 42 + 1).toInt; omega⟩, hD.1, ?_⟩
  · show (F 60).toInt + _ ≤ _
    rw [e]
    omega
  · show 5 * (F 14).toInt ≤ _
    rw [e]
    omega
theorem WR.m43 {F0 F : PF} {G0 G : PG} {κ j i δ : Int} {v : Int32} (h : WR F0 G0 κ j δ F G) (hv : v.toInt = (F0 43).toInt + i) (h1 : 1 ≤ v.toInt) (h2 : v.toInt ≤ 40) (h3 : (F 51).toInt ≤ v.toInt) : WR F0 G0 κ i δ (fup F 43 v) G := by
  obtain ⟨K, ⟨b1, b2, b3, b4, b5, b6, b7, b8⟩, h42, h43, h51, hΦ, hD⟩ := h
  exact ⟨KX.f rfl K, ⟨b1, b2, b3, b4, h1, h2, b7, h3⟩, h42, hv, h51, hΦ, hD⟩
theorem WR.op {F0 F : PF} {G0 G : PG} {κ j δ : Int} (h : WR F0 G0 κ j δ F G) (h0 : YG F0 G0) (hk : ¬ G 4 (F 42).toNatClampNeg = 0) (hne : ¬ F 43 = 40) : WR F0 G0 (κ - 2) (j + 1) (δ - 1) (fup (fup F 43 (F 43 + 1)) 42 (F 42 + 1)) G := by
  obtain ⟨b1, b2, b3, b4, b5, b6, b7, b8⟩ := id h.2.1
  have o := o_inc ⟨by omega, b6⟩ hne
  have a := h.m43 (i := j + 1) (v := F 43 + 1) (by have := h.2.2.2.1; omega) (by omega) o.2.2 (by omega)
  exact WR.adv (F := fup F 43 (F 43 + 1)) a h0 hk
theorem WR.dn {F0 F : PF} {G0 G : PG} {κ j δ : Int} (h : WR F0 G0 κ (j + 1) δ F G) (h0 : YG F0 G0) (hj : 0 ≤ j) : WR F0 G0 κ j δ (fup F 43 (F 43 - 1)) G := by
  obtain ⟨b1, b2, b3, b4, b5, b6, b7, b8⟩ := id h.2.1
  obtain ⟨c1, c2, c3, c4, c5, c6, c7, c8⟩ := h0.1
  have e := h.2.2.2.1
  have f := h.2.2.2.2.1
  have d := dec43 b5
  exact h.m43 (by omega) (by omega) (by omega) (by rw [f]; omega)
theorem WR.cl {F0 F : PF} {G0 G : PG} {κ j δ : Int} (h : WR F0 G0 κ (j + 1) δ F G) (h0 : YG F0 G0) (hj : 0 ≤ j) (hk : ¬ G 4 (F 42).toNatClampNeg = 0) : WR F0 G0 (κ - 2) j (δ - 1) (fup (fup F 42 (F 42 + 1)) 43 (F 43 - 1)) G := WR.dn (F := fup F 42 (F 42 + 1)) (h.adv h0 hk) h0 hj
theorem WR.le {F0 F : PF} {G0 G : PG} {κ κ1 j δ δ1 : Int} (h : WR F0 G0 κ j δ F G) (hk : κ ≤ κ1) (hd : δ ≤ δ1) : WR F0 G0 κ1 j δ1 F G := by
  obtain ⟨K, hg, h42, h43, h51, hΦ, hD⟩ := h
  exact ⟨K, hg, h42, h43, h51, ⟨by omega, hΦ.2⟩, hD.1, by omega⟩
def wpo (a b : List Nat) : Bool := a.all [14, 15, 42, 43, 44, 45, 47, 48, 49, 51, 52, 53, 54, 55, 60, 62, 63, 64, 65, 66, 70, 72].contains && b.all [16, 17, 18, 19, 20, 21, 22, 23, 56, 57, 58, 59, 67, 68, 69, 71].contains && !(a.contains 60 || a.contains 44 || a.contains 70 || a.contains 54 || a.contains 43 || a.contains 51 || a.contains 42 || a.contains 14 || b.contains 6)
theorem wpo.e {a b : List Nat} (h : wpo a b = true) : (a.all [14, 15, 42, 43, 44, 45, 47, 48, 49, 51, 52, 53, 54, 55, 60, 62, 63, 64, 65, 66, 70, 72].contains = true ∧ b.all [16, 17, 18, 19, 20, 21, 22, 23, 56, 57, 58, 59, 67, 68, 69, 71].contains = true) ∧ a.contains 60 = false ∧ a.contains 44 = false ∧ a.contains 70 = false ∧ a.contains 54 = false ∧ a.contains 43 = false ∧ a.contains 51 = false ∧ a.contains 42 = false ∧ a.contains 14 = false ∧ b.contains 6 = false := by
  unfold wpo at h
  simp only [Bool.and_eq_true, Bool.not_eq_true', Bool.or_eq_false_iff] at h
  exact ⟨h.1, h.2.1.1.1.1.1.1.1.1, h.2.1.1.1.1.1.1.1.2, h.2.1.1.1.1.1.1.2, h.2.1.1.1.1.1.2, h.2.1.1.1.1.2, h.2.1.1.1.2, h.2.1.1.2, h.2.1.2, h.2.2⟩
theorem WR.kx {a b : List Nat} {F0 F F1 : PF} {G0 G G1 : PG} {κ j δ : Int} (h : WR F0 G0 κ j δ F G) (K1 : KX a b F G F1 G1) (eq : wpo a b = true) : WR F0 G0 κ j δ F1 G1 := by
  obtain ⟨⟨ea, eb⟩, e60, e44, e70, e54, e43, e51, e42, e14, g6⟩ := wpo.e eq
  obtain ⟨K, hg, h42, h43, h51, hΦ, hD⟩ := h
  have e : tT F1 G1 = tT F G := by unfold tT; rw [K1.1 42 e42, K1.2 6 g6]
  refine ⟨KX.tr K K1 ea eb, hg.kx K1 e60 e44 e70 e54 e43 e51, by rw [K1.1 42 e42]; exact h42, by rw [K1.1 43 e43]; exact h43, (K1.1 51 e51).trans h51, ?_, ?_⟩
  · rw [K1.1 60 e60, e, K1.1 42 e42]; exact hΦ
  · rw [K1.1 14 e14, e]; exact hD
theorem WR.step {fu : Nat} {F0 F : PF} {G0 G : PG} {κ j δ : Int} (h : WR F0 G0 κ j δ F G) (h0 : YG F0 G0) (hκ : κ ≤ 300) (w a b : Int32) : WP (mf_step fu w a b F G) (fun r F1 G1 => r = F 60 ∧ vp_in (F 60) 9000 ∧ KX [60] [56, 57, 58] F G F1 G1 ∧ (sN F1 = sN F + 1 ∧ CB F G G1) ∧ WR F0 G0 (κ + 1) j δ F1 G1) := by
  have ht := h.t h0
  have v60 : vp_in (F 60) 9000 := vp_in_iff.mpr ⟨h.2.1.1, by have := h.2.2.2.2.2.1; have := h0.2.2.2.1; omega⟩
  refine WP.mono (ws_step w a b v60) ?_
  rintro r F1 G1 ⟨K1, rfl, e60, eg, hn⟩
  obtain ⟨n0, n1⟩ := vp_in_iff.mp hn
  have e : (F 60 + 1).toInt = (F 60).toInt + 1 := i_addn _ rfl (by omega) (by omega)
  obtain ⟨K, ⟨b1, b2, b3, b4, b5, b6, b7, b8⟩, h42, h43, h51, hΦ, hD⟩ := h
  have et : tT F1 G1 = tT F G := by unfold tT; rw [K1.1 42 rfl, K1.2 6 rfl]
  refine ⟨rfl, hn, K1, ⟨?_, CB.stp (fun _ _ => cEq.rf) (Nat.le_refl _) eg⟩, KX.tr K K1 rfl rfl, ?_, by rw [K1.1 42 rfl]; exact h42, by rw [K1.1 43 rfl]; exact h43, (K1.1 51 rfl).trans h51, ?_, ?_⟩
  · show (F1 60).toNatClampNeg = _
    rw [e60]
    exact nI_inc hn
  · unfold GP
    rw [K1.1 44 rfl, K1.1 70 rfl, K1.1 54 rfl, K1.1 43 rfl, K1.1 51 rfl, e60]
    exact ⟨by omega, b2, b3, b4, b5, b6, b7, b8⟩
  · rw [e60, et, K1.1 42 rfl]
    omega
  · rw [K1.1 14 rfl, et]
    exact hD
theorem WR.flt {F0 F F1 : PF} {G0 G G1 : PG} {κ j δ : Int} (h : WR F0 G0 κ j δ F G) (h0 : YG F0 G0) (hδ : δ ≤ 1) (u : FLT F F1 G G1) : WF0 F0 G0 F1 G1 := by
  have ht := h.t h0
  obtain ⟨u1, rfl, K1⟩ := u
  obtain ⟨K, hg, h42, h43, h51, hΦ, hD⟩ := h
  exact ⟨KX.tr K K1 rfl rfl, u1, by rw [K1.1 14 rfl]; omega⟩
/-- a piece within, made by the expressions -/
theorem WR.ex {F0 F F1 : PF} {G0 G G1 : PG} {κ κ1 j δ : Int} (h : WR F0 G0 κ j δ F G) (q : YR F G κ1 0 F1 G1) (g : GS F G 1 F1 G1) (hle : tT F G ≤ tT F1 G1) : WR F0 G0 (κ + κ1) j δ F1 G1 := by
  have g1 := h.2.1.gs g
  obtain ⟨K, hg, h42, h43, h51, hΦ, hD⟩ := h
  obtain ⟨K1, q44, q42, q43, q60, q70, qΦ⟩ := q
  have g7 := g.2.2.2.2.2.2 rfl
  rw [K.1 7 rfl] at q42
  refine ⟨KX.tr K K1 rfl rfl, g1, q42, by omega, g7.2.2.2.1.trans h51, by omega, ?_⟩
  rw [K1.1 14 rfl]
  omega
theorem WR.exB {F0 F F1 : PF} {G0 G G1 : PG} {κ j δ : Int} (h : WR F0 G0 κ j δ F G) (h0 : YG F0 G0) (hδ : δ ≤ 1) (q : YF F G F1 G1) : WF0 F0 G0 F1 G1 := by
  have ht := h.t h0
  obtain ⟨K, hg, h42, h43, h51, hΦ, hD⟩ := h
  obtain ⟨K1, q44, -, -⟩ := q
  exact ⟨KX.tr K K1 rfl rfl, q44, by rw [K1.1 14 rfl]; omega⟩
theorem YR.up {F F1 : PF} {G G1 : PG} {κ : Int} (q : YR F G κ 0 F1 G1) (g : GS F G 1 F1 G1) (hg : GP F) (hκ : κ ≤ 1) : tT F G ≤ tT F1 G1 := by
  have s : (F 60).toInt.toNat ≤ (F1 60).toInt.toNat := g.2.2.1
  have := q.2.2.2.2.2.2.1
  have := hg.1
  have := g.2.1
  omega
theorem WR.expr {fu : Nat} (hfu : 8589934592 ≤ fu) {F0 F : PF} {G0 G : PG} {κ j δ : Int} (h : WR F0 G0 κ j δ F G) (h0 : YG F0 G0) (hκ : κ ≤ 0) (hδ : δ ≤ 1) (i : Nat) (x y : Int32) (hi : i = 1 ∨ i = 3 ∨ i = 4) (hp : (i = 1 → vp_in x 4002) ∧ (i = 3 → x = -1 ∨ (0 ≤ x.toInt ∧ x.toInt < 900))) : WP (mS1 fu 300 i x y F G) (fun r F1 G1 => KX [42, 43, 44, 45, 47, 48, 49, 55, 60, 62, 70] [56, 57, 58, 59, 67, 68, 69] F G F1 G1 ∧ GS F G r F1 G1 ∧ ((r = 1 ∧ WR F0 G0 (κ - 1) j δ F1 G1) ∨ (r = 0 ∧ WF0 F0 G0 F1 G1))) := by
  have hg := h.2.1
  have yp := h.yp h0 hκ hδ
  have z : (0 : Int32).toInt = 0 := rfl
  have f70 : (F 70).toInt = 0 := by rw [hg.2.2.1]; rfl
  have ps : pS i x y F G := ⟨fun _ => by have := hg.2.2.2.2.1; omega, by have := hg.2.2.2.2.1; omega, fun q => hp.1 (by omega), fun q => by omega, fun q => by omega, fun q => hp.2 q⟩
  have ds : dS i ≤ 7 := by
    rcases hi with rfl | rfl | rfl <;> decide
  refine WP.mono (WP.pp (mzS1 hfu 300 i x y F G (by omega) yp ps (by have := hg.2.2.2.2.1; omega)) (mg_S1 i x y (by omega) F G hg)) ?_
  rintro r F1 G1 ⟨⟨K, g, -⟩, hz⟩
  have k1 : κS i = -1 := by
    rcases hi with rfl | rfl | rfl <;> rfl
  refine ⟨K, g, ?_⟩
  rcases hz with ⟨rfl, q⟩ | ⟨rfl, q⟩
  · rw [k1] at q
    exact Or.inl ⟨rfl, h.ex q g (q.up g hg (by decide))⟩
  · exact Or.inr ⟨rfl, h.exB h0 hδ q⟩
