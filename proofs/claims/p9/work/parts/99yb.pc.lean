/-- the formals of a function whose bracket stands at p -/
def flT (K V : Nat → Int32) (fu : Nat) (p : Int32) : List Nat := if sgn K V (p + 1) 23 then [] else fkT K V fu (p + 1)
/-- along the head of a function, since its bracket was opened -/
def HS (Fh : PF) (Gh : PG) (δ : Int) (F : PF) (G : PG) : Prop := KX [14, 35, 42, 43, 44, 45, 47, 48, 49, 53] [16, 17, 18, 19, 20, 21, 22, 23, 34] Fh Gh F G ∧ GP F ∧ ((0 ≤ (F 42).toInt ∧ (F 42).toInt ≤ (Fh 7).toInt) ∧ (Fh 42).toInt ≤ (F 42).toInt) ∧ F 43 = Fh 43 ∧ (0 ≤ (F 14).toInt ∧ 5 * (F 14).toInt ≤ tT F G + δ) ∧ (Fh 46 = 0 → 0 ≤ (F 35).toInt ∧ 5 * (F 35).toInt ≤ tT F G + δ)
theorem HS.t {Fh F : PF} {Gh G : PG} {δ : Int} (h : HS Fh Gh δ F G) (h0 : YG Fh Gh) : TBL F G ∧ (0 ≤ tT F G ∧ tT F G ≤ 4000) ∧ vp_in (F 42) 4002 ∧ tT Fh Gh ≤ tT F G := by
  obtain ⟨K, hg, h42, h43, hD, hf⟩ := h
  have T1 := h0.2.1.kx K rfl rfl rfl rfl rfl
  have := T1.2.1
  have := T1.2.2.2.1
  have e7 := K.1 7 rfl
  rw [e7] at this
  have m := h0.2.1.mon h0.2.2.1.1 h42.2 h42.1.2
  refine ⟨T1, T1.rng h42.1.1 (by rw [e7]; exact h42.1.2), vp_in_iff.mpr ⟨h42.1.1, by omega⟩, ?_⟩
  unfold tT
  rw [K.2 6 rfl]
  omega
theorem HS.yg {Fh F : PF} {Gh G : PG} (h : HS Fh Gh 0 F G) (h0 : YG Fh Gh) : YG F G := by
  have ht := h.t h0
  obtain ⟨K, hg, h42, h43, hD, hf⟩ := h
  obtain ⟨a1, a2, a3, a4, a5, a6, a7, a8⟩ := h0
  refine ⟨hg, ht.1, by rw [K.1 7 rfl]; exact h42.1, by rw [K.1 60 rfl]; omega, ⟨hD.1, by omega⟩, by rw [K.1 24 rfl]; exact a6, ?_, by rw [K.1 50 rfl]; exact a8⟩
  rw [K.1 46 rfl, K.1 24 rfl, K.2 27 rfl, K.2 31 rfl]
  exact a7
/-- what a function's head and block leave -/
def FD (f : Int32) (fl : List Nat) (Fh : PF) (Gh : PG) (F1 : PF) (G1 : PG) : Prop := FP F1 ∧ (0 ≤ (F1 42).toInt ∧ (F1 42).toInt ≤ (Fh 7).toInt) ∧ (Fh 42).toInt ≤ (F1 42).toInt ∧ (F1 60).toInt + 2 * tT Fh Gh + 4 ≤ (Fh 60).toInt + 2 * tT F1 G1 ∧ tT Fh Gh + 3 ≤ tT F1 G1 ∧ (0 ≤ (F1 14).toInt ∧ 5 * (F1 14).toInt ≤ tT F1 G1) ∧ F1 24 = Fh 24 ∧ F1 46 = Fh 46 ∧ (G1 27 f.toNatClampNeg).toInt = fl.length ∧ (∀ k : Nat, k ≠ f.toNatClampNeg → G1 27 k = Gh 27 k) ∧ G1 31 = Gh 31 ∧ (Fh 46 = 0 → (F1 35).toInt = (Fh 35).toInt + fl.length ∧ 5 * (F1 35).toInt ≤ tT F1 G1 ∧ (∀ j : Nat, j < fl.length → (G1 34 ((Fh 35).toInt.toNat + j)).toInt = (fl.getD j 0 : Nat)) ∧ ∀ j : Nat, (j : Int) < (Fh 35).toInt → G1 34 j = Gh 34 j) ∧ (¬ Fh 46 = 0 → F1 35 = Fh 35 ∧ G1 34 = Gh 34)
theorem wh_282 {fu : Nat} (hfu : 8589934592 ≤ fu) {Fh : PF} {Gh : PG} (h0 : YG Fh Gh) (hF : Fh 43 = 1 ∧ Fh 51 = 0) (f x4 x5 : Int32) (vf : vp_in f 500) (fl : List Nat) (F : PF) (G : PG) (q : HS Fh Gh 1 F G) (l5 : x5.toInt = fl.length) (hrec : Fh 46 = 0 ∨ Gh 27 f.toNatClampNeg = x5) (r0 : Fh 46 = 0 → (F 35).toInt = (Fh 35).toInt + fl.length ∧ (∀ j : Nat, j < fl.length → (G 34 ((Fh 35).toInt.toNat + j)).toInt = (fl.getD j 0 : Nat)) ∧ ∀ j : Nat, (j : Int) < (Fh 35).toInt → G 34 j = Gh 34 j) (r1 : ¬ Fh 46 = 0 → F 35 = Fh 35 ∧ G 34 = Gh 34) : WP (mb_function_282 fu f x4 x5 F G) (fun r F1 G1 => (r = 1 ∧ FD f fl Fh Gh F1 G1) ∨ (r = 0 ∧ 0 < (F1 44).toInt)) := by
  have ht := q.t h0
  unfold mb_function_282
  refine WP.bind (ws_closeSign 23 ht.2.2.1) ?_
  rintro r F1 G1 (⟨rfl, rfl, rfl, s, -⟩ | ⟨rfl, u, -⟩)
  · dsimp only
    unfold mb_function_288
    rw [if_neg (by decide)]
    obtain ⟨K, ⟨b1, b2, b3, b4, b5, b6, b7, b8⟩, h42, h43, hD, hf⟩ := q
    have e7 := K.1 7 rfl
    obtain ⟨w1, w2, w3⟩ := ht.1.adv h42.1.1 (by rw [e7]; exact h42.1.2) (k_ne (sgn_k s).1 (by decide))
    rw [e7] at w2
    have lp := lnT.pos (G 4 (F 42).toNatClampNeg) (G 5 (F 42).toNatClampNeg)
    have K1 : KX [14, 35, 42, 43, 44, 45, 47, 48, 49, 53] [16, 17, 18, 19, 20, 21, 22, 23, 34] Fh Gh (fup (fup F 42 (F 42 + 1)) 43 (F 43 - 1)) G := KX.f rfl (KX.f rfl K)
    have n42 : (fup (fup F 42 (F 42 + 1)) 43 (F 43 - 1)) 42 = F 42 + 1 := rfl
    have n14 : (fup (fup F 42 (F 42 + 1)) 43 (F 43 - 1)) 14 = F 14 := rfl
    have n35 : (fup (fup F 42 (F 42 + 1)) 43 (F 43 - 1)) 35 = F 35 := rfl
    have fp : FP (fup (fup F 42 (F 42 + 1)) 43 (F 43 - 1)) := ⟨b1, b2, b3, b4, by show F 43 - 1 = 0; rw [h43, hF.1]; decide, (K.1 51 rfl).trans hF.2⟩
    have t1 : tT (fup (fup F 42 (F 42 + 1)) 43 (F 43 - 1)) G = (G 6 (F 42 + 1).toNatClampNeg).toInt := rfl
    have t0 : tT F G = (G 6 (F 42).toNatClampNeg).toInt := rfl
    generalize fup (fup F 42 (F 42 + 1)) 43 (F 43 - 1) = F1 at K1 n42 n14 n35 fp t1
    unfold mb_function_293
    refine WP.ix vf ?_
    unfold mb_function_301
    refine WP.ix vf ?_
    unfold mb_function_311
    have KG : KX [] [27, 30] F1 G F1 (gup (gup G 27 f.toNatClampNeg x5) 30 f.toNatClampNeg (F1 60)) := KX.g rfl (KX.g rfl KX.rf)
    have g27 : gup (gup G 27 f.toNatClampNeg x5) 30 f.toNatClampNeg (F1 60) 27 = gup G 27 f.toNatClampNeg x5 27 := rfl
    generalize gup (gup G 27 f.toNatClampNeg x5) 30 f.toNatClampNeg (F1 60) = G2 at KG g27
    have i7 : F1 7 = Fh 7 := K1.1 7 rfl
    have T2 : TBL F1 G2 := (h0.2.1.kx K1 rfl rfl rfl rfl rfl).kx KG rfl rfl rfl rfl rfl
    have t2 : tT F1 G2 = (G 6 (F 42 + 1).toNatClampNeg).toInt := by
      unfold tT
      rw [KG.2 6 rfl, n42]
    have f7 : (Fh 7).toInt ≤ 4000 := by have := h0.2.1.2.1; have := h0.2.1.2.2.2.1; omega
    have v1 : vp_in (F1 42) 4002 := by rw [n42]; exact vp_in_iff.mpr ⟨by omega, by omega⟩
    refine WP.bind (ws_isSign 26 v1) ?_
    rintro z _ _ ⟨rfl, rfl, (⟨rfl, s⟩ | ⟨rfl, -⟩)⟩
    · dsimp only
      unfold mb_function_317
      rw [if_neg (by decide)]
      unfold mb_function_326
      have yb : YB F1 G2 := by
        obtain ⟨a1, a2, a3, a4, a5, a6, a7, a8⟩ := h0
        refine ⟨fp, T2, ⟨by rw [n42]; omega, by rw [n42, i7]; omega⟩, by rw [K1.1 60 rfl, t2]; omega, ⟨by rw [n14]; exact hD.1, by rw [n14, t2]; omega⟩, by rw [K1.1 24 rfl]; exact a6, ?_, by rw [K1.1 50 rfl]; exact a8⟩
        rw [K1.1 46 rfl, K1.1 24 rfl, KG.2 31 rfl, K1.2 31 rfl, g27]
        by_cases n46 : Fh 46 = 0
        · exact Or.inl n46
        rcases a7 with z | z
        · exact Or.inl z
        · refine Or.inr (fun k hk => ?_)
          have zk := z k hk
          by_cases c : k = f.toNatClampNeg
          · rw [c, gup_i]
            rcases hrec with y | y
            · exact absurd y n46
            · rw [← y, ← c]
              exact zk
          · rw [gup_x c, K1.2 27 rfl]
            exact zk
      refine WP.bind (WP.pp (wf_block hfu F1 G2 yb) (mw_block F1 G2)) ?_
      rintro r F3 G3 ⟨K3, (⟨rfl, b⟩ | ⟨rfl, b, -⟩)⟩
      · dsimp only
        unfold mb_function_330
        rw [if_neg (by decide)]
        obtain ⟨c1, c2, c3, c4, c5, c6⟩ := b
        have T3 : TBL F3 G3 := T2.kx K3 rfl rfl rfl rfl rfl
        have t3 := T3.rng c2.1 (by rw [K3.1 7 rfl]; exact c2.2)
        have t3e : tT F3 G3 = (G3 6 (F3 42).toNatClampNeg).toInt := rfl
        have y4 := yb.2.2.2.1
        unfold mb_function_335
        refine WP.bind (ws_step 0 0 0 (vp_in_iff.mpr ⟨c1.1, by omega⟩)) ?_
        rintro _ F4 G4 ⟨K4, rfl, e4, -, n4⟩
        dsimp only
        have i4 : (F4 60).toInt = (F3 60).toInt + 1 := by
          rw [e4]
          have := c1.1
          exact i_addn _ rfl (by omega) (by omega)
        unfold mb_function_342
        refine WP.bind (ws_step 17 0 0 (vp_in_iff.mpr ⟨by have := c1.1; omega, by omega⟩)) ?_
        rintro _ F5 G5 ⟨K5, rfl, e5, -, n5⟩
        dsimp only
        have i5 : (F5 60).toInt = (F3 60).toInt + 2 := by
          rw [e5]
          have := c1.1
          have := i_addn (F4 60) (n := 1) (m := 1) rfl (by omega) (by omega)
          omega
        unfold mb_function_351
        refine WP.ix vf ?_
        unfold mb_function_365
        refine WP.ix vf ?_
        unfold mb_function_375
        have K6 : KX [] [28, 29] F5 G5 F5 (gup (gup G5 28 f.toNatClampNeg (x4 + F5 52)) 29 f.toNatClampNeg (F5 53)) := KX.g rfl (KX.g rfl KX.rf)
        generalize gup (gup G5 28 f.toNatClampNeg (x4 + F5 52)) 29 f.toNatClampNeg (F5 53) = G6 at K6
        have f14 : F5 14 = F3 14 := (K5.1 14 rfl).trans (K4.1 14 rfl)
        refine WP.bind ((wa_ends hfu 0 (by rw [f14]; omega)).of (mp_ends 0 F5 G6)) ?_
        rintro r F7 G7 ⟨K7, q7⟩
        dsimp only
        have q7 := q7 (by rw [f14]; exact c6.1)
        rw [f14] at q7
        unfold mb_function_380 mb_function_385
        -- all that came behind the block, at once
        have KK : KX [14, 15, 50, 60] [28, 29, 56, 57, 58] F3 G3 (fup F7 50 (-1)) G7 := KX.f rfl (KX.tr (KX.tr (KX.tr (KX.tr KX.rf K4 rfl rfl) K5 rfl rfl) K6 rfl rfl) K7 rfl rfl)
        have i60 : ((fup F7 50 (-1)) 60).toInt = (F3 60).toInt + 2 := by
          show (F7 60).toInt = _
          rw [K7.1 60 rfl]
          exact i5
        have i14 : (fup F7 50 (-1)) 14 = F7 14 := rfl
        generalize fup F7 50 (-1) = F8 at KK i60 i14
        have t8 : tT F8 G7 = tT F3 G3 := by unfold tT; rw [KK.1 42 rfl, KK.2 6 rfl]
        have g27' : G7 27 = G2 27 := (KK.2 27 rfl).trans (K3.2 27 rfl)
        have g34' : G7 34 = G 34 := (KK.2 34 rfl).trans ((K3.2 34 rfl).trans (KG.2 34 rfl))
        have f35 : F8 35 = F 35 := (KK.1 35 rfl).trans ((K3.1 35 rfl).trans n35)
        refine WP.ret (Or.inl ⟨rfl, ?_⟩)
        refine ⟨⟨by rw [i60]; have := c1.1; omega, by rw [KK.1 44 rfl]; exact c1.2.1, by rw [KK.1 70 rfl]; exact c1.2.2.1, by rw [KK.1 54 rfl]; exact c1.2.2.2.1, by rw [KK.1 43 rfl]; exact c1.2.2.2.2.1, by rw [KK.1 51 rfl]; exact c1.2.2.2.2.2⟩, by rw [KK.1 42 rfl, ← i7]; exact c2, ?_, ?_, ?_, ?_, (KK.1 24 rfl).trans ((K3.1 24 rfl).trans (K1.1 24 rfl)), (KK.1 46 rfl).trans ((K3.1 46 rfl).trans (K1.1 46 rfl)), ?_, ?_, ?_, ?_, ?_⟩
        · rw [KK.1 42 rfl]
          rw [n42] at c4
          omega
        · rw [i60, t8]
          rw [K1.1 60 rfl, t2] at c3
          have := ht.2.2.2
          omega
        · rw [t8]
          rw [t2] at c5
          have := ht.2.2.2
          omega
        · rw [i14, t8]
          omega
        · rw [g27', g27, gup_i]
          exact l5
        · intro k hk
          rw [g27', g27, gup_x hk]
          rw [K.2 27 rfl]
        · exact (KK.2 31 rfl).trans ((K3.2 31 rfl).trans ((KG.2 31 rfl).trans (K1.2 31 rfl)))
        · intro z
          obtain ⟨y1, y2, y3⟩ := r0 z
          have hf := hf z
          rw [f35, g34', t8]
          rw [t2] at c5
          exact ⟨y1, by omega, y2, y3⟩
        · intro z
          obtain ⟨y1, y2⟩ := r1 z
          exact ⟨f35.trans y1, g34'.trans y2⟩
      · dsimp only
        unfold mb_function_330 mb_function_333
        rw [if_pos rfl]
        exact WP.ret (Or.inr ⟨rfl, b⟩)
    · dsimp only
      unfold mb_function_317
      rw [if_pos rfl]
      unfold mb_function_320
      refine WP.bind (ws_fails 2 (by decide) v1) ?_
      rintro r F3 G3 ⟨rfl, u⟩
      dsimp only
      unfold mb_function_325
      exact WP.bz (Or.inl rfl) (WP.ret (Or.inr ⟨rfl, u.1⟩))
  · dsimp only
    unfold mb_function_288 mb_function_291
    rw [if_pos rfl]
    exact WP.ret (Or.inr ⟨rfl, u.1⟩)
