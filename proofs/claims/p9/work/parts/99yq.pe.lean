/-- behind a function's code -/
def FZQ (B : Prop) (f : Int32) (F : PF) (G : PG) (F1 : PF) (G1 : PG) : Prop := CB F G G1 ∧ sN F ≤ sN F1 ∧ (∀ g, g ≠ f.toNatClampNeg → G1 28 g = G 28 g ∧ G1 29 g = G 29 g ∧ G1 30 g = G 30 g) ∧ (F1 47 = 0 → B → GI F1 G1 ∧ FNT F1 G1 f.toNatClampNeg)
theorem sh700 : ∃ s : SH, s.length = 700 := ⟨List.replicate 700 0, List.length_replicate⟩
theorem kinds_eq {G G1 : PG} (e27 : G1 27 = G 27) (e31 : G1 31 = G 31) (e34 : G1 34 = G 34) : kindsOf G1 = kindsOf G := by
  funext f
  unfold kindsOf
  rw [e27, e31, e34]
theorem gz_282 {fu : Nat} (hfu : 8589934592 ≤ fu) {B : Prop} {L : List Nat} (f x4 x5 : Int32) (F : PF) (G : PG) (hF : GP F) (h43 : F 43 = 1) (h51 : F 51 = 0) (h46 : F 46 = 1) (h52 : F 52 = 0) (h24 : 0 ≤ (F 24).toInt) (hI : FI B L F G) (hB : B → FTb F G ∧ kindsOf G f.toNatClampNeg = L) (l5 : x5.toInt = L.length) (l4 : x4.toInt = 4 + cellsOf L) (h27 : G 27 f.toNatClampNeg = x5) : PP (mb_function_282 fu f x4 x5 F G) (fun r F1 G1 => r = 1 → (F1 47 = 0 → L.length ≤ 4) ∧ FZQ B f F G F1 G1) := by
  unfold mb_function_282
  refine PP.bind (mp_closeSign 23 F G) ?_
  rintro r F1 G1 (⟨rfl, rfl, rfl, -, -⟩ | ⟨rfl, u, -⟩)
  · dsimp only
    unfold mb_function_288
    rw [if_neg (by decide)]
    have K1 : KX [42, 43] [] F G (fup (fup F 42 (F 42 + 1)) 43 (F 43 - 1)) G := KX.f rfl (KX.f rfl KX.rf)
    obtain ⟨b1, b2, b3, b4, b5, b6, b7, b8⟩ := hF
    have fp : FP (fup (fup F 42 (F 42 + 1)) 43 (F 43 - 1)) := ⟨b1, b2, b3, b4, by show F 43 - 1 = 0; rw [h43]; decide, h51⟩
    generalize fup (fup F 42 (F 42 + 1)) 43 (F 43 - 1) = F1 at K1 fp
    unfold mb_function_293
    refine PP.ix (fun _ => ?_)
    rw [gup_same h27]
    unfold mb_function_301
    refine PP.ix (fun _ => ?_)
    have e60 : F1 60 = F 60 := K1.1 60 rfl
    have K2 : KX [42, 43] [30] F G F1 (gup G 30 f.toNatClampNeg (F1 60)) := KX.g rfl (KX.tr KX.rf K1 rfl rfl)
    have g30 : (gup G 30 f.toNatClampNeg (F1 60)) 30 f.toNatClampNeg = F 60 := by rw [gup_i]; exact e60
    have g30' : ∀ g, g ≠ f.toNatClampNeg → (gup G 30 f.toNatClampNeg (F1 60)) 30 g = G 30 g := fun g hg => gup_x hg
    generalize gup G 30 f.toNatClampNeg (F1 60) = G2 at K2 g30 g30'
    unfold mb_function_311
    refine PP.bind (mp_isSign 26 F1 G2) ?_
    rintro z _ _ ⟨rfl, rfl, -⟩
    dsimp only
    unfold mb_function_317
    refine PP.ite (fun _ => ?_) (fun _ => ?_)
    · unfold mb_function_320
      refine PP.bind (mp_fails 2 (by decide) F1 G2) ?_
      rintro r F3 G3 ⟨rfl, -⟩
      dsimp only
      unfold mb_function_325
      exact PP.bz (fun _ => PP.ret (fun e => absurd e (by decide)))
    · unfold mb_function_326
      refine PP.bind (PP.and (PP.and (PP.and (gf_block hfu (L := L) F1 G2 fp) (mks_block F1 G2)) (mw_block F1 G2)) (mr_block (K := G2 4) (V := G2 5) F1 G2 rfl rfl fp.2.1)) ?_
      rintro r F3 G3 ⟨⟨⟨hq, sj⟩, K3⟩, rk⟩
      dsimp only
      unfold mb_function_330
      refine PP.ite (fun _ => ?_) (fun c => ?_)
      · unfold mb_function_333
        exact PP.ret (fun e => absurd e (by decide))
      · unfold mb_function_335
        refine PP.bind (mp_step 0 0 0 F3 G3) ?_
        rintro r4 F4 G4 ⟨-, rfl, rfl, v4⟩
        dsimp only
        have K4 : KX [60] [56, 57, 58] F3 G3 (fup F3 60 (F3 60 + 1)) (g3s G3 (sN F3) 0 0 0) := KX.f rfl (KX.g rfl (KX.g rfl (KX.g rfl KX.rf)))
        have e4 : (fup F3 60 (F3 60 + 1)) 60 = F3 60 + 1 := rfl
        have n4 : sN (fup F3 60 (F3 60 + 1)) = sN F3 + 1 := nI_inc v4
        show PP (mb_function_342 fu f x4 r4 (fup F3 60 (F3 60 + 1)) (g3s G3 (sN F3) 0 0 0)) _
        have q4 : g3s G3 (sN F3) 0 0 0 = g3s G3 (sN F3) 0 0 0 := rfl
        generalize hG4 : g3s G3 (sN F3) 0 0 0 = G4 at K4 q4
        generalize fup F3 60 (F3 60 + 1) = F4 at K4 e4 n4
        unfold mb_function_342
        refine PP.bind (mp_step 17 0 0 F4 G4) ?_
        rintro r5 F5 G5 ⟨-, rfl, rfl, v5⟩
        dsimp only
        have K5 : KX [60] [56, 57, 58] F4 G4 (fup F4 60 (F4 60 + 1)) (g3s G4 (sN F4) 17 0 0) := KX.f rfl (KX.g rfl (KX.g rfl (KX.g rfl KX.rf)))
        have e5 : (fup F4 60 (F4 60 + 1)) 60 = F4 60 + 1 := rfl
        have n5 : sN (fup F4 60 (F4 60 + 1)) = sN F4 + 1 := nI_inc v5
        show PP (mb_function_351 fu f x4 r5 (fup F4 60 (F4 60 + 1)) (g3s G4 (sN F4) 17 0 0)) _
        generalize hG5 : g3s G4 (sN F4) 17 0 0 = G5 at K5
        generalize fup F4 60 (F4 60 + 1) = F5 at K5 e5 n5
        unfold mb_function_351
        refine PP.ix (fun _ => ?_)
        unfold mb_function_365
        refine PP.ix (fun _ => ?_)
        unfold mb_function_375
        generalize hv28 : x4 + F5 52 = v28
        have K6 : KX [] [28, 29] F5 G5 F5 (gup (gup G5 28 f.toNatClampNeg v28) 29 f.toNatClampNeg (F5 53)) := KX.g rfl (KX.g rfl KX.rf)
        have g28 : (gup (gup G5 28 f.toNatClampNeg v28) 29 f.toNatClampNeg (F5 53)) 28 f.toNatClampNeg = v28 := by
          rw [gup_o (show 28 ≠ 29 by decide)]
          exact gup_i
        have g29 : (gup (gup G5 28 f.toNatClampNeg v28) 29 f.toNatClampNeg (F5 53)) 29 f.toNatClampNeg = F5 53 := gup_i
        have g28' : ∀ g, g ≠ f.toNatClampNeg → (gup (gup G5 28 f.toNatClampNeg v28) 29 f.toNatClampNeg (F5 53)) 28 g = G5 28 g ∧ (gup (gup G5 28 f.toNatClampNeg v28) 29 f.toNatClampNeg (F5 53)) 29 g = G5 29 g := fun g hg => ⟨by rw [gup_o (show 28 ≠ 29 by decide)]; exact gup_x hg, by rw [gup_x hg, gup_o (show 29 ≠ 28 by decide)]⟩
        generalize gup (gup G5 28 f.toNatClampNeg v28) 29 f.toNatClampNeg (F5 53) = G6 at K6 g28 g29 g28'
        refine PP.bind (PP.and (mw_ends 0 F5 G6) (mp_ends2 0 F5 G6)) ?_
        rintro r7 F7 G7 ⟨K7, en⟩
        dsimp only
        have eG : G7 = G6 := en.1
        rw [eG] at K7 en ⊢
        unfold mb_function_380 mb_function_385
        have K8 : KX [14, 15, 50] [] F5 G6 (fup F7 50 (-1)) G6 := KX.f rfl (KX.tr KX.rf K7 rfl rfl)
        have e14 : (fup F7 50 (-1)) 14 = F7 14 := rfl
        have e15 : (fup F7 50 (-1)) 15 = F7 15 := rfl
        have n8 : sN (fup F7 50 (-1)) = sN F5 := by show (F7 60).toNatClampNeg = _; rw [K7.1 60 rfl]
        generalize fup F7 50 (-1) = F8 at K8 e14 e15 n8
        refine PP.ret (fun _ => ?_)
        have r1 : r = 1 := by
          rcases rk with ⟨e, -⟩ | ⟨e, -⟩
          · exact e
          · exact absurd e c
        obtain ⟨fp3, s3, cb3, m3, ty⟩ := hq r1
        have K45 : KX [60] [28, 29, 56, 57, 58] F3 G3 F5 G6 := KX.tr (KX.tr (KX.tr KX.rf K4 rfl rfl) K5 rfl rfl) K6 rfl rfl
        have KK : KX [14, 15, 50, 60] [28, 29, 56, 57, 58] F3 G3 F8 G6 := KX.tr (KX.tr KX.rf K45 rfl rfl) K8 rfl rfl
        have f47 : F8 47 = 0 → F3 47 = 0 := fun e => (KK.1 47 rfl).symm.trans e
        have f47' : F8 47 = 0 → F 47 = 0 := fun e => (K1.1 47 rfl).symm.trans (m3 (f47 e))
        have sE : sN F1 = sN F := by show (F1 60).toNatClampNeg = _; rw [e60]
        have c0 : CB F G G2 := (CB.rf (F := F) (G := G)).kx K2 rfl rfl rfl rfl
        have c3 : CB F G G3 := c0.tr (by rw [sE]; exact Nat.le_refl _) cb3
        have c4 : CB F G G4 := c3.stp (by omega) hG4.symm
        have c5 : CB F G G5 := c4.stp (by omega) hG5.symm
        have c6 : CB F G G6 := c5.kx K6 rfl rfl rfl rfl
        refine ⟨fun e => (hI (f47' e)).1, c6, by omega, fun g hg => ⟨?_, ?_, ?_⟩, fun z47 b => ?_⟩
        · rw [(g28' g hg).1, K5.2 28 rfl, K4.2 28 rfl, K3.2 28 rfl, K2.2 28 rfl]
        · rw [(g28' g hg).2, K5.2 29 rfl, K4.2 29 rfl, K3.2 29 rfl, K2.2 29 rfl]
        · rw [K45.2 30 rfl, K3.2 30 rfl]
          exact g30' g hg
        · obtain ⟨len, hb⟩ := hI (f47' z47)
          obtain ⟨c53, di, si, h15, gw⟩ := hb b
          obtain ⟨ftb, hk⟩ := hB b
          have k2 : kindsOf G2 = kindsOf G := kinds_eq (K2.2 27 rfl) (K2.2 31 rfl) (K2.2 34 rfl)
          have ex : XS L F1 G2 = XS L F G := by
            unfold XS
            rw [k2, K2.1 54 rfl, K2.1 24 rfl, K2.1 37 rfl, K2.1 53 rfl]
          have z0 : (0 : Int32).toInt = 0 := rfl
          have cle := cellsOf_le L
          have st2 : ST L F1 G2 := by
            refine ⟨(K2.1 46 rfl).trans h46, (K2.1 54 rfl).trans b4, ftb.kx K2 rfl, by rw [K2.1 14 rfl]; exact si.1, by rw [K2.1 24 rfl]; exact h24, fun _ => ⟨?_, by omega, by rw [K2.1 52 rfl, h52]; decide, by rw [K2.1 52 rfl, h52]; decide, by rw [K2.1 53 rfl]; omega, by rw [K2.1 53 rfl, K2.1 52 rfl, h52]; omega⟩⟩
            rw [ex]
            unfold DI
            rw [K2.1 14 rfl, K2.2 17 rfl, K2.2 20 rfl, K2.2 21 rfl, K2.2 23 rfl]
            exact di
          obtain ⟨st3, xl, ey⟩ := ty st2 (f47 z47)
          have si2 : SI F1 G2 := si.kx K2 rfl rfl rfl rfl rfl rfl
          have i15 : (F1 15).toInt = 1 := by rw [K2.1 15 rfl, h15]; rfl
          have si3 : SI F3 G3 := ((sj fp3.2.1).2 ⟨si2, by omega, by omega⟩).1
          have hm : (XS L F3 G3).1 = false := st3.m
          obtain ⟨sx, hx⟩ := sh700
          have ex3 := (ey (fun k => if k = sN F1 then ([], 0, false) else (sx, 0, false)) 0 0 0 (Nat.le_refl _) (Nat.le_refl _) (if_pos rfl)).ex
          have ex4 := ex3.stp (s1 := [0]) v4 e4 hG4.symm (by decide) (fun z => Or.inl ⟨rfl, rfl⟩)
          have ex5 := ex4.ret hm v5 e5 hG5.symm sx
          obtain ⟨A, -, s5, a0, a5, -, -, -, tt⟩ := ex5
          obtain ⟨di3, c8, o0, o2, p1, p2⟩ := st3.2.2.2.2.2 (f47 z47)
          have k6 : kindsOf G6 = kindsOf G := kinds_eq ((K45.2 27 rfl).trans ((K3.2 27 rfl).trans (K2.2 27 rfl))) ((K45.2 31 rfl).trans ((K3.2 31 rfl).trans (K2.2 31 rfl))) ((K45.2 34 rfl).trans ((K3.2 34 rfl).trans (K2.2 34 rfl)))
          have k3 : kindsOf G3 = kindsOf G := kinds_eq ((K3.2 27 rfl).trans (K2.2 27 rfl)) ((K3.2 31 rfl).trans (K2.2 31 rfl)) ((K3.2 34 rfl).trans (K2.2 34 rfl))
          have f30 : G6 30 f.toNatClampNeg = F 60 := by rw [K45.2 30 rfl, K3.2 30 rfl]; exact g30
          have n30 : (G6 30 f.toNatClampNeg).toInt.toNat = sN F1 := by rw [f30, sE]; rfl
          have kL : kindsOf G6 f.toNatClampNeg = L := by rw [k6]; exact hk
          have f53 : F5 53 = F3 53 := K45.1 53 rfl
          have f52 : F5 52 = F3 52 := K45.1 52 rfl
          have xe : XF F8 G6 f.toNatClampNeg = XS L F3 G3 := by
            have : XS L F3 G3 = (false, (XS L F3 G3).2) := by rw [← hm]
            rw [this]
            unfold XF XS
            rw [kL, k6, k3, g29, f53, KK.1 24 rfl, KK.1 37 rfl]
          refine ⟨?_, by rw [f30]; exact b1, ⟨A, sN F5, by omega, by omega, ?_, ?_, ?_, ?_⟩, by rw [kL]; exact c8, (F3 52).toInt.toNat, by omega, ?_, ?_, ?_⟩
          · have si5 : SI F5 G6 := si3.kx K45 rfl rfl rfl rfl rfl rfl
            have en4 := en.2.2.2 si5.1
            have si7 : SI F7 G6 := si5.en en (by decide)
            intro _ _
            refine ⟨e15.trans en.2.1, fun k hk => ?_, ?_, ?_⟩
            · rw [e14] at hk
              obtain ⟨y0, y1, y2, y3⟩ := si7.2.1 k hk
              rw [en.2.1] at y1
              have q19 : G6 19 k = 0 := i_eq.mpr (by omega)
              have q23 : G6 23 k = 0 := Decidable.byContradiction (fun n => by have := y2 n; omega)
              refine ⟨q23, q19, ?_⟩
              have y3 := y3 q23
              have dk := di3 k (by rw [← K45.1 14 rfl]; omega)
              rw [← K45.2 17 rfl, ← K45.2 20 rfl, ← K45.2 21 rfl, ← K45.2 23 rfl] at dk
              have x37 : ((XS L F3 G3).2.2.2.1 : Int) ≤ (F8 37).toInt ∨ (XS L F3 G3).2.2.2.1 = 0 := by
                show ((F3 37).toInt.toNat : Int) ≤ _ ∨ (F3 37).toInt.toNat = 0
                rw [KK.1 37 rfl]
                omega
              rcases dk with d | ⟨d1, -, d3⟩ | ⟨d1, -, d3⟩
              · exact Or.inl d
              · have d3 := d3 q23
                exact Or.inr (Or.inl ⟨d1, d3.1, by omega⟩)
              · have d3 := d3 q23
                rcases d3 with d3 | d3 | d3
                · exact absurd d3.1 (y3 d1)
                · exact absurd d3.2.1 (by decide)
                · have := d3.1
                  have := d3.2.2
                  exact Or.inr (Or.inr ⟨d1, d3.1, d3.2.2.1, by omega⟩)
            · rw [KK.1 36 rfl, K3.1 36 rfl, K1.1 36 rfl]
              exact gw.1
            · rw [KK.1 36 rfl, K3.1 36 rfl, K1.1 36 rfl, KK.1 37 rfl, K3.1 37 rfl, K1.1 37 rfl, KK.2 38 rfl, K3.2 38 rfl, K2.2 38 rfl, KK.2 39 rfl, K3.2 39 rfl, K2.2 39 rfl]
              exact gw.2
          · rw [n30, a0 _ (Nat.le_refl _)]
            exact if_pos rfl
          · intro k h1 h2
            rw [n30] at h1
            rw [xe]
            rcases tt k h1 h2 with t | ⟨x, hx, -⟩
            · exact t.ext (by omega) (fun _ _ => rfl) (Nat.le_refl _) ⟨by rw [K6.2 56 rfl], by rw [K6.2 57 rfl], by rw [K6.2 58 rfl], by rw [K6.2 59 rfl]⟩
            · exact absurd hx (List.not_mem_nil)
          · rw [a5]
            exact hx
          · intro k hk
            rw [n30] at hk
            rw [a0 k (Nat.le_of_lt hk)]
            show (if k = sN F1 then (([] : SH), 0, false) else (sx, 0, false)).1.length = 700
            rw [if_neg (Nat.ne_of_lt hk)]
            exact hx
          · rw [g28, ← hv28, f52, kL]
            have := i_addn x4 (n := F3 52) (m := (F3 52).toInt) rfl (by omega) (by omega)
            omega
          · rw [g29, f53, kL]
            exact p1
          · rw [g29, f53, kL]
            omega
  · dsimp only
    unfold mb_function_288 mb_function_291
    rw [if_pos rfl]
    exact PP.ret (fun e => absurd e (by decide))
