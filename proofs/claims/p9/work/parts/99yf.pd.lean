section ARR2
variable {fu : Nat} {F0 : PF} {G0 : PG}
/-- the words of an array are there -/
def AWD (F : PF) (G G1 : PG) (x3 x7 : Int) : Prop := (∀ k : Nat, (k : Int) < (F 36).toInt → G1 38 k = G 38 k ∧ G1 39 k = G 39 k) ∧ ∀ k : Nat, (F 36).toInt ≤ k → (k : Int) < (F 36).toInt + x7 → 0 ≤ (G1 39 k).toInt ∧ (0 ≤ (G1 38 k).toInt ∧ (G1 38 k).toInt ≤ 4) ∧ (G1 39 k).toInt + (G1 38 k).toInt ≤ (F 37).toInt + x3
/-- F G: behind the size; F1 G1: the words are told -/
def AW (F : PF) (G : PG) (x3 x5 x6 : Int32) (F1 : PF) (G1 : PG) : Prop := KX [47, 48, 49] [38, 39, 40] F G F1 G1 ∧ M7 F F1 ∧ (x6 = 1 → (F 36).toInt + x5.toInt ≤ 2000 ∧ AWD F G G1 x3.toInt x5.toInt) ∧ (¬ x6 = 1 → x6 = 0 ∧ 2000 < (F 36).toInt + x5.toInt ∧ (F 46 = 1 → ¬ F1 47 = 0))
theorem wy_193 (hfu : 8589934592 ≤ fu) (h0 : YA F0 G0) (x1 x2 x3 x5 x6 : Int32) (v1 : vp_in x1 4002) (h3 : x3 = -1 ∨ (1 ≤ x3.toInt ∧ x3.toInt ≤ 500)) (F : PF) (G : PG) (q : GR F0 G0 0 (-7) 0 F G) (n3 : GI F0 G0 → F 46 = 1 → F 47 = 0 → ¬ x3 = -1) (h5 : (0 ≤ x5.toInt ∧ x5.toInt ≤ 500) ∧ (¬ x3 = -1 → x3.toInt ≤ 4 * x5.toInt)) (F1 : PF) (G1 : PG) (hA : AW F G x3 x5 x6 F1 G1) : WP (mb_array_193 fu x1 x2 x3 (F 37) x5 x6 F1 G1) (AQ F0 G0) := by
  have ht := q.t h0
  obtain ⟨K, hz, hj, h42, h60, hD, hw, hI, hC⟩ := q
  obtain ⟨K1, M1, w1, w2⟩ := hA
  have f36 : F1 36 = F 36 := K1.1 36 rfl
  have f37 : F1 37 = F 37 := K1.1 37 rfl
  have i36 : (F1 36 + x5).toInt = (F 36).toInt + x5.toInt := by rw [f36]; exact i_addn _ rfl (by omega) (by omega)
  -- the cells
  have go : ∀ x7 : Int32, (x7 = 0 ∨ (x7 = x3 ∧ ¬ x3 = -1 ∧ x6 = 1)) → (GI F0 G0 → F1 46 = 1 → F1 47 = 0 → x7 = x3) → WP (mb_array_219 fu x1 x2 x3 (F 37) x7 (fup F1 36 (F1 36 + x5)) G1) (AQ F0 G0) := by
    intro x7 hx hp
    have z0 : (0 : Int32).toInt = 0 := rfl
    have h7 : 0 ≤ x7.toInt ∧ x7.toInt ≤ 500 ∧ (F 37).toInt + x7.toInt ≤ 8000 ∧ ((F 36).toInt + x5.toInt ≤ 2000 → (F 37).toInt + x7.toInt ≤ 4 * ((F 36).toInt + x5.toInt)) := by
      rcases hx with rfl | ⟨rfl, n, e6⟩
      · omega
      · have := (w1 e6).1
        have := h5.2 n
        rcases h3 with h3 | h3
        · exact absurd h3 n
        · omega
    have lp : ∀ (m : Nat) (x8 : Int32) (G2 : PG), KX [] [41] F1 G1 F1 G2 → 0 ≤ x8.toInt → x8.toInt ≤ x7.toInt → (x7.toInt - x8.toInt).toNat < m → WP (ml_array_224 fu m x1 x2 x3 (F 37) x7 x8 (fup F1 36 (F1 36 + x5)) G2) (AQ F0 G0) := by
      intro m
      induction m with
      | zero => intro x8 G2 _ _ _ h; omega
      | succ m ih =>
        intro x8 G2 K2 p1 p2 hm
        show WP (mb_array_224 fu (ml_array_224 fu m) x1 x2 x3 (F 37) x7 x8 (fup F1 36 (F1 36 + x5)) G2) _
        unfold mb_array_224
        refine WP.ite (fun c => ?_) (fun c => ?_)
        · unfold mb_array_250
          have i37 : (F 37 + x7).toInt = (F 37).toInt + x7.toInt := i_addn _ rfl (by omega) (by omega)
          show WP (mb_array_261 fu x1 x2 x3 (F 37) x7 (fup (fup F1 36 (F1 36 + x5)) 37 (F1 37 + x7)) G2) _
          rw [f37]
          have hn : AN1 (GI F0 G0) x3 (F 37) (fup (fup F1 36 (F1 36 + x5)) 37 (F 37 + x7)) := by
            intro g u1 u2
            have u1 : F1 46 = 1 := u1
            have u2 : F1 47 = 0 := u2
            refine ⟨n3 g ((K1.1 46 rfl).symm.trans u1) (M1 u2), by omega, ?_⟩
            show _ ≤ (F 37 + x7).toInt
            rw [← hp g u1 u2]
            omega
          refine wy_261 hfu h0 x1 x2 x3 (F 37) x7 v1 (h3.imp id (fun z => z.1)) (by omega) (by omega) (by omega) _ _ ⟨KX.f rfl (KX.f rfl (KX.tr (KX.tr K K1 rfl rfl) K2 rfl rfl)), ?_, ?_, ?_, ?_, ?_, ?_, ?_, (hC.1.kx K1 rfl rfl rfl rfl).kx K2 rfl rfl rfl rfl, by have := hC.2; show (F0 37).toInt ≤ (F 37 + x7).toInt; omega⟩ hn
          · show F1 44 = 0 ∧ F1 70 = 0 ∧ F1 54 = 0
            rw [K1.1 44 rfl, K1.1 70 rfl, K1.1 54 rfl]; exact hz
          · show (F1 43).toInt = 0 ∧ _
            rw [K1.1 43 rfl]; exact hj
          · show (0 ≤ (F1 42).toInt ∧ (F1 42).toInt ≤ _) ∧ _ ≤ (F1 42).toInt
            rw [K1.1 42 rfl]; exact h42
          · show F1 60 = _
            exact (K1.1 60 rfl).trans h60
          · show 0 ≤ (F1 14).toInt ∧ 5 * (F1 14).toInt ≤ (G2 6 (F1 42).toNatClampNeg).toInt + (-7)
            rw [K1.1 14 rfl, K1.1 42 rfl, K2.2 6 rfl, K1.2 6 rfl]; exact hD
          · show 0 ≤ (F1 36 + x5).toInt ∧ (F1 36 + x5).toInt ≤ _ ∧ 0 ≤ (F 37 + x7).toInt ∧ (F 37 + x7).toInt ≤ 8000 ∧ ((F1 36 + x5).toInt ≤ 2000 → (F 37 + x7).toInt ≤ 4 * (F1 36 + x5).toInt)
            rw [i36, i37]
            omega
          · intro g u1 u2
            have u1 : F1 46 = 1 := u1
            have u2 : F1 47 = 0 := u2
            have u3 : F 46 = 1 := (K1.1 46 rfl).symm.trans u1
            obtain ⟨c0, c1, c2, c3⟩ := hI g u3 (M1 u2)
            have e7 := hp g u1 u2
            have e6 : x6 = 1 := Decidable.byContradiction (fun n => (w2 n).2.2 u3 u2)
            obtain ⟨w3, w4, w5⟩ := w1 e6
            show F1 15 = 0 ∧ (∀ k : Nat, (k : Int) < (F1 14).toInt → G2 23 k = 0 ∧ G2 19 k = 0 ∧ ((G2 17 k = 0 ∧ ¬ G2 21 k = -1) ∨ (G2 17 k = 1 ∧ 0 ≤ (G2 20 k).toInt ∧ (G2 20 k).toInt < (F 37 + x7).toInt) ∨ (G2 17 k = 2 ∧ 1 ≤ (G2 21 k).toInt ∧ 0 ≤ (G2 20 k).toInt ∧ (G2 20 k).toInt + (G2 21 k).toInt ≤ (F 37 + x7).toInt))) ∧ (F1 36 + x5).toInt ≤ 2000 ∧ ∀ k : Nat, (k : Int) < (F1 36 + x5).toInt → 0 ≤ (G2 39 k).toInt ∧ (0 ≤ (G2 38 k).toInt ∧ (G2 38 k).toInt ≤ 4) ∧ (G2 39 k).toInt + (G2 38 k).toInt ≤ (F 37 + x7).toInt
            rw [K1.1 15 rfl, K1.1 14 rfl, K2.2 23 rfl, K2.2 19 rfl, K2.2 17 rfl, K2.2 20 rfl, K2.2 21 rfl, K1.2 23 rfl, K1.2 19 rfl, K1.2 17 rfl, K1.2 20 rfl, K1.2 21 rfl, K2.2 38 rfl, K2.2 39 rfl, i36, i37]
            refine ⟨c0, fun k hk => ?_, w3, fun k hk => ?_⟩
            · obtain ⟨b1, b2, b3⟩ := c1 k hk
              refine ⟨b1, b2, ?_⟩
              rcases b3 with b | b | b
              · exact Or.inl b
              · exact Or.inr (Or.inl ⟨b.1, b.2.1, by omega⟩)
              · exact Or.inr (Or.inr ⟨b.1, b.2.1, b.2.2.1, by omega⟩)
            · by_cases e : (k : Int) < (F 36).toInt
              · obtain ⟨p1, p2⟩ := w4 k e
                rw [p1, p2]
                have := c3 k e
                omega
              · have := w5 k (by omega) hk
                rw [e7]
                exact this
        · have c := mt i_le.mpr c
          unfold mb_array_231
          have i8 : (x8 + 1).toInt = x8.toInt + 1 := i_addn _ rfl (by omega) (by omega)
          have i9 : (F 37 + x8).toInt = (F 37).toInt + x8.toInt := i_addn _ rfl (by omega) (by omega)
          have v9 : vp_in ((fup F1 36 (F1 36 + x5)) 37 + x8) 8008 := by
            show vp_in (F1 37 + x8) 8008
            rw [f37]
            exact vp_in_iff.mpr ⟨by omega, by omega⟩
          refine WP.ix v9 ?_
          unfold mb_array_244
          exact ih _ _ (KX.g rfl K2) (by omega) (by omega) (by omega)
    unfold mb_array_219
    exact lp fu 0 G1 KX.rf (by omega) (by omega) (by omega)
  unfold mb_array_193 mb_array_204
  have e46 : F1 46 = 1 → F 46 = 1 := fun u => (K1.1 46 rfl).symm.trans u
  refine WP.ite (fun c => ?_) (fun c => ?_)
  · exact go 0 (Or.inl rfl) (fun g u1 u2 => absurd c (n3 g (e46 u1) (M1 u2)))
  · unfold mb_array_209
    refine WP.ite (fun c6 => ?_) (fun c6 => ?_)
    · refine go 0 (Or.inl rfl) (fun _ u1 u2 => ?_)
      have n6 : ¬ x6 = 1 := by rw [c6]; decide
      exact absurd u2 ((w2 n6).2.2 (e46 u1))
    · have e6 : x6 = 1 := Decidable.byContradiction (fun n => c6 (w2 n).1)
      exact go x3 (Or.inr ⟨rfl, c, e6⟩) (fun _ _ _ => rfl)
theorem mul4 {x : Int32} (h1 : 0 ≤ x.toInt) (h2 : x.toInt ≤ 500) : ((4 : Int32) * x).toInt = 4 * x.toInt := by
  have e : x = nI x.toInt.toNat := by
    rw [i_eq, nI_toInt (by omega)]
    omega
  have : (4 : Int32) * x = x + x + x + x := by
    rw [show (4 : Int32) = 1 + 1 + 1 + 1 from rfl, Int32.add_mul, Int32.add_mul, Int32.add_mul, Int32.one_mul]
  rw [this]
  have a1 : (x + x).toInt = x.toInt + x.toInt := i_addn _ rfl (by omega) (by omega)
  have a2 : (x + x + x).toInt = (x + x).toInt + x.toInt := i_addn _ rfl (by omega) (by omega)
  have a3 : (x + x + x + x).toInt = (x + x + x).toInt + x.toInt := i_addn _ rfl (by omega) (by omega)
  omega
theorem wy_102 (hfu : 8589934592 ≤ fu) (h0 : YA F0 G0) (x1 x2 x3 x5 : Int32) (v1 : vp_in x1 4002) (h3 : x3 = -1 ∨ (1 ≤ x3.toInt ∧ x3.toInt ≤ 500)) (F : PF) (G : PG) (q : GR F0 G0 0 (-7) 0 F G) (n3 : GI F0 G0 → F 46 = 1 → F 47 = 0 → ¬ x3 = -1) (h5 : (0 ≤ x5.toInt ∧ x5.toInt ≤ 500) ∧ (¬ x3 = -1 → x3.toInt ≤ 4 * x5.toInt)) (h6 : (x2 = 0 → x5.toInt ≤ x3.toInt ∨ x5.toInt = 0) ∧ (¬ x2 = 0 → 4 * x5.toInt < x3.toInt + 4 ∨ x5.toInt = 0)) (hf : (F 36).toInt + x5.toInt ≤ 2000) : ∀ (m : Nat) (x7 : Int32) (G1 : PG), KX [] [38, 39, 40] F G F G1 → AWD F G G1 x3.toInt x7.toInt → 0 ≤ x7.toInt → x7.toInt ≤ x5.toInt → (x5.toInt - x7.toInt).toNat < m → WP (ml_array_102 fu m x1 x2 x3 (F 37) x5 1 x7 F G1) (AQ F0 G0) := by
  have hw := q.2.2.2.2.2.2.1
  intro m
  induction m with
  | zero => intro x7 G1 _ _ _ _ h; omega
  | succ m ih =>
    intro x7 G1 K1 aw p1 p2 hm
    show WP (mb_array_102 fu (ml_array_102 fu m) x1 x2 x3 (F 37) x5 1 x7 F G1) _
    unfold mb_array_102
    refine WP.ite (fun c => ?_) (fun c => ?_)
    · have c := i_le.mp c
      have e : x7 = x5 := i_eq.mpr (by omega)
      subst e
      exact wy_193 hfu h0 x1 x2 x3 x7 1 v1 h3 F G q n3 h5 F G1 ⟨KX.tr KX.rf K1 rfl rfl, M7.rf, fun _ => ⟨hf, aw⟩, fun n => absurd rfl n⟩
    · have c := mt i_le.mpr c
      have i7 : (x7 + 1).toInt = x7.toInt + 1 := i_addn _ rfl (by omega) (by omega)
      have i36 : (F 36 + x7).toInt = (F 36).toInt + x7.toInt := i_addn _ rfl (by omega) (by omega)
      have i4 := mul4 (x := x7) (by omega) (by omega)
      have v : vp_in (F 36 + x7) 2001 := vp_in_iff.mpr ⟨by omega, by omega⟩
      have nn := nN_of (x := F 36 + x7) (by omega)
      unfold mb_array_109
      rw [if_neg (by decide)]
      unfold mb_array_114
      -- one word
      have pt : ∀ z0 y : Int32, 0 ≤ (F 37 + z0).toInt → (0 ≤ y.toInt ∧ y.toInt ≤ 4) → (F 37 + z0).toInt + y.toInt ≤ (F 37).toInt + x3.toInt → ∀ b : Int32, WP (mb_array_187 fu (ml_array_102 fu m) x1 x2 x3 (F 37) x5 1 x7 F (gup (gup (gup G1 39 (F 36 + x7).toNatClampNeg (F 37 + z0)) 40 (F 36 + x7).toNatClampNeg b) 38 (F 36 + x7).toNatClampNeg y)) (AQ F0 G0) := by
        intro z0 y hz1 hy hz b
        unfold mb_array_187
        refine ih _ _ (KX.g rfl (KX.g rfl (KX.g rfl K1))) ⟨fun k hk => ?_, fun k hk1 hk2 => ?_⟩ (by omega) (by omega) (by omega)
        · have ne : k ≠ (F 36 + x7).toNatClampNeg := by omega
          obtain ⟨a1, a2⟩ := aw.1 k hk
          refine ⟨Eq.trans ?_ a1, Eq.trans ?_ a2⟩
          · exact gup_x (G := gup (gup G1 39 _ _) 40 _ _) (k := 38) ne
          · exact gup_x (G := G1) (k := 39) ne
        · by_cases e : k = (F 36 + x7).toNatClampNeg
          · have g1 : (gup (gup (gup G1 39 (F 36 + x7).toNatClampNeg (F 37 + z0)) 40 (F 36 + x7).toNatClampNeg b) 38 (F 36 + x7).toNatClampNeg y) 39 k = F 37 + z0 := by
              rw [e]
              exact gup_i (G := G1) (k := 39)
            have g2 : (gup (gup (gup G1 39 (F 36 + x7).toNatClampNeg (F 37 + z0)) 40 (F 36 + x7).toNatClampNeg b) 38 (F 36 + x7).toNatClampNeg y) 38 k = y := by
              rw [e]
              exact gup_i (G := gup (gup G1 39 _ _) 40 _ _) (k := 38)
            rw [g1, g2]
            exact ⟨hz1, hy, hz⟩
          · have g1 : (gup (gup (gup G1 39 (F 36 + x7).toNatClampNeg (F 37 + z0)) 40 (F 36 + x7).toNatClampNeg b) 38 (F 36 + x7).toNatClampNeg y) 39 k = G1 39 k := gup_x (G := G1) (k := 39) e
            have g2 : (gup (gup (gup G1 39 (F 36 + x7).toNatClampNeg (F 37 + z0)) 40 (F 36 + x7).toNatClampNeg b) 38 (F 36 + x7).toNatClampNeg y) 38 k = G1 38 k := gup_x (G := gup (gup G1 39 _ _) 40 _ _) (k := 38) e
            rw [g1, g2]
            exact aw.2 k hk1 (by omega)
      have o1 : (1 : Int32).toInt = 1 := rfl
      have o4 : (4 : Int32).toInt = 4 := rfl
      refine WP.ite (fun c2 => ?_) (fun c2 => ?_)
      · have j1 : (F 37 + x7).toInt = (F 37).toInt + x7.toInt := i_addn _ rfl (by omega) (by omega)
        unfold mb_array_140 mb_array_142
        refine WP.ix v ?_
        unfold mb_array_144
        refine WP.ix v ?_
        unfold mb_array_157
        rw [if_pos c2]
        unfold mb_array_185 mb_array_186
        have := h6.1 c2
        exact WP.ix v (pt _ _ (by omega) (by omega) (by omega) _)
      · have j1 : (F 37 + 4 * x7).toInt = (F 37).toInt + (4 * x7).toInt := i_addn _ rfl (by omega) (by omega)
        have h6 := h6.2 c2
        have h3 : 1 ≤ x3.toInt ∧ x3.toInt ≤ 500 := by
          rcases h3 with h3 | h3
          · have : x3.toInt = -1 := by rw [h3]; rfl
            omega
          · exact h3
        have j2 : (x3 - 4 * x7).toInt = x3.toInt - (4 * x7).toInt := i_subn _ rfl (by omega) (by omega)
        unfold mb_array_133 mb_array_142
        refine WP.ix v ?_
        unfold mb_array_144
        refine WP.ix v ?_
        unfold mb_array_157
        rw [if_neg c2]
        unfold mb_array_172 mb_array_182 mb_array_186
        refine WP.ix v (pt _ _ (by omega) ?_ ?_ _)
        · by_cases l : x3 - 4 * x7 < 4
          · rw [if_pos l]
            have := i_lt.mp l
            omega
          · rw [if_neg l]
            omega
        · by_cases l : x3 - 4 * x7 < 4
          · rw [if_pos l]
            have := i_lt.mp l
            omega
          · rw [if_neg l]
            have := mt i_lt.mpr l
            omega
theorem wy_60 (hfu : 8589934592 ≤ fu) (h0 : YA F0 G0) (x1 x2 x3 x5 : Int32) (v1 : vp_in x1 4002) (h3 : x3 = -1 ∨ (1 ≤ x3.toInt ∧ x3.toInt ≤ 500)) (F : PF) (G : PG) (q : GR F0 G0 0 (-7) 0 F G) (n3 : GI F0 G0 → F 46 = 1 → F 47 = 0 → ¬ x3 = -1) (h5 : (0 ≤ x5.toInt ∧ x5.toInt ≤ 500) ∧ (¬ x3 = -1 → x3.toInt ≤ 4 * x5.toInt)) (h6 : (x2 = 0 → x5.toInt ≤ x3.toInt ∨ x5.toInt = 0) ∧ (¬ x2 = 0 → 4 * x5.toInt < x3.toInt + 4 ∨ x5.toInt = 0)) : WP (mb_array_60 fu x1 x2 x3 (F 37) x5 F G) (AQ F0 G0) := by
  have hw := q.2.2.2.2.2.2.1
  have h42 := q.2.2.2.1
  have ht := q.t h0
  have l2 : (2000 : Int32).toInt = 2000 := rfl
  have z0 : (0 : Int32).toInt = 0 := rfl
  have i36 : (F 36 + x5).toInt = (F 36).toInt + x5.toInt := i_addn _ rfl (by omega) (by omega)
  unfold mb_array_60
  refine WP.ite (fun c => ?_) (fun c => ?_)
  · have c := i_lt.mp c
    unfold mb_array_79 mb_array_80
    rw [if_pos rfl]
    unfold mb_array_87
    refine WP.ix v1 (WP.bind (WP.pp ((wa_note 11 _).of (mp_note 11 _ (by decide) _ _)) (mm_note 11 _ (by decide) _ _)) ?_)
    rintro r F1 G1 ⟨M1, K1, rfl, m1, -⟩
    dsimp only
    have fin := wy_193 hfu h0 x1 x2 x3 x5 0 v1 h3 F G q n3 h5 F1 G ⟨KX.tr KX.rf K1 rfl rfl, M1.1, fun n => absurd n (by decide), fun _ => ⟨rfl, by omega, fun u z => ?_⟩⟩
    · unfold mb_array_99
      obtain ⟨n, rfl⟩ : ∃ n, fu = n + 1 := ⟨fu - 1, by omega⟩
      show WP (mb_array_102 (n + 1) (ml_array_102 (n + 1) n) x1 x2 x3 (F 37) x5 0 0 F1 G) _
      unfold mb_array_102
      refine WP.ite (fun _ => fin) (fun _ => ?_)
      unfold mb_array_109
      rw [if_pos rfl]
      exact fin
    · have := m1 (by rw [u]; decide)
      rw [z] at this
      exact absurd this (by decide)
  · have c := mt i_lt.mpr c
    unfold mb_array_75 mb_array_80
    rw [if_neg (by decide)]
    unfold mb_array_99
    refine wy_102 hfu h0 x1 x2 x3 x5 v1 h3 F G q n3 h5 h6 (by omega) fu 0 G KX.rf ⟨fun k hk => ⟨rfl, rfl⟩, fun k a b => ?_⟩ (by omega) (by omega) (by omega)
    omega
theorem wz_array (hfu : 8589934592 ≤ fu) (h0 : YA F0 G0) {F : PF} {G : PG} (q : GR F0 G0 0 (-4) 0 F G) (x1 x2 : Int32) (v1 : vp_in x1 4002) : WP (mf_array fu x1 x2 F G) (AQ F0 G0) := by
  unfold mf_array mb_array_0
  refine WP.bind (q.twice hfu h0 (by decide) x1 v1) ?_
  rintro r F1 G1 ⟨rfl, -, q1, -, -⟩
  dsimp only
  unfold mb_array_5
  refine WP.bind (ws_openSign 24 (q1.t h0).2.2.1) ?_
  rintro r F2 G2 (⟨rfl, rfl, rfl, s, c, -⟩ | ⟨rfl, u, -⟩)
  · dsimp only
    unfold mb_array_11
    rw [if_neg (by decide)]
    unfold mb_array_16
    have q2 := q1.op h0 (k_ne (sgn_k s).1 (by decide)) c
    generalize fup (fup F1 43 (F1 43 + 1)) 42 (F1 42 + 1) = F2 at q2
    have y := q2.yp h0 (by decide)
    refine WP.bind (WP.pp (wz_sizeHere hfu F2 G y (by rw [q2.2.1.2.1]; have := y.2.2.2.1.1; show (0 : Int) ≤ _; omega) (Or.inl q2.2.1.2.2)) (mg_sizeHere F2 G ⟨y.2.2.2.2.1, q2.2.1.1, by rw [q2.2.1.2.1]; decide⟩)) ?_
    rintro x3 F3 G3 ⟨⟨-, -, d3⟩, hv, h3, ht⟩
    dsimp only
    unfold mb_array_20
    rcases ht with z | ⟨z44, t1, t2, t3⟩
    · refine WP.bind (wb_closeSign 25 z) ?_
      rintro r F4 G4 ⟨rfl, rfl, rfl⟩
      dsimp only
      unfold mb_array_27 mb_array_30
      rw [if_pos rfl]
      exact WP.ret (Or.inr ⟨rfl, z⟩)
    · have q3 := q2.val hv z44 t1 t2 t3
      refine WP.bind (ws_closeSign 25 (q3.t h0).2.2.1) ?_
      rintro r F4 G4 (⟨rfl, rfl, rfl, s3, -⟩ | ⟨rfl, u, -⟩)
      · dsimp only
        unfold mb_array_27
        rw [if_neg (by decide)]
        have q4 := GR.cl (j := 0) q3 h0 (by decide) (k_ne (sgn_k s3).1 (by decide))
        have n3 : GI F0 G0 → (fup (fup F3 42 (F3 42 + 1)) 43 (F3 43 - 1)) 46 = 1 → (fup (fup F3 42 (F3 42 + 1)) 43 (F3 43 - 1)) 47 = 0 → ¬ x3 = -1 := by
          intro g u1 u2
          have u1 : F3 46 = 1 := u1
          exact d3 (q2.dc h0 g ((hv.1.1 46 rfl).symm.trans u1)) u2
        generalize fup (fup F3 42 (F3 42 + 1)) 43 (F3 43 - 1) = F4 at q4 n3
        have q4 := q4.le (δ1 := -7) (w1 := 0) (by decide) (by decide)
        have z0 : (0 : Int32).toInt = 0 := rfl
        unfold mb_array_32
        refine WP.ite (fun c => ?_) (fun c => ?_)
        · unfold mb_array_43
          exact wy_60 hfu h0 x1 x2 x3 0 v1 h3 F4 G3 q4 n3 ⟨by omega, fun n => absurd c n⟩ ⟨fun _ => Or.inr rfl, fun _ => Or.inr rfl⟩
        · have h3' : 1 ≤ x3.toInt ∧ x3.toInt ≤ 500 := h3.resolve_left c
          unfold mb_array_47
          refine WP.ite (fun c2 => ?_) (fun c2 => ?_)
          · unfold mb_array_59
            exact wy_60 hfu h0 x1 x2 x3 x3 v1 h3 F4 G3 q4 n3 ⟨by omega, fun _ => by omega⟩ ⟨fun _ => Or.inl (by omega), fun n => absurd c2 n⟩
          · unfold mb_array_51
            have e := quart h3'.1 h3'.2
            exact wy_60 hfu h0 x1 x2 x3 _ v1 h3 F4 G3 q4 n3 ⟨by omega, fun _ => by omega⟩ ⟨fun n => absurd n c2, fun _ => Or.inl (by omega)⟩
      · dsimp only
        unfold mb_array_27 mb_array_30
        rw [if_pos rfl]
        exact WP.ret (Or.inr ⟨rfl, u.1⟩)
  · dsimp only
    unfold mb_array_11 mb_array_14
    rw [if_pos rfl]
    exact WP.ret (Or.inr ⟨rfl, u.1⟩)
end ARR2
