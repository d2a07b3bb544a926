section JVF
variable {fu : Nat} {X : JCX} {p : Int32} {N K n q nf t i j : Nat} {Fc Fm F1 F2 F3 F4 : PF} {Gc Gm G1 G2 G3 G4 : PG} {g kk : Int32 × PF × PG → PR} {Q : Int32 → PF → PG → Int32 → PF → PG → Prop}
/-- measures may be written -/
theorem jV.g79 (V : jV X p N K n q nf t i Fc Gc Fm Gm) (kc : KX [] [79] Fc Gc Fc G1) (km : KX [] [28, 29] Fm Gm Fm G2) : jV X p N K n q nf t i Fc G1 Fm G2 := by
  obtain ⟨⟨⟨h1, h2, h3, h4, h5, h6⟩, D, R⟩, ⟨⟨a1, a2, a3⟩, b, c, d1, d2⟩⟩ := V
  refine ⟨⟨⟨h1.keep rfl (kc.2 90 rfl) (kc.2 91 rfl) (kc.2 92 rfl) rfl rfl (km.2 4 rfl) (km.2 5 rfl) (km.2 6 rfl), h2, h3, h4, h5, fun z => ?_⟩, ?_, ?_⟩, ⟨⟨a1, a2, a3⟩, b, c, fun z => ?_, fun z => ?_⟩⟩
  · have := h6 z
    unfold jSA jSE jSU jSL jFT at this ⊢
    rw [km.2 25 rfl, km.2 26 rfl, kc.2 35 rfl, kc.2 34 rfl, kc.2 37 rfl, kc.2 33 rfl, kc.2 36 rfl, km.2 16 rfl, km.2 19 rfl, km.2 18 rfl, kc.2 38 rfl, km.2 17 rfl, km.2 20 rfl, km.2 21 rfl, km.2 22 rfl, km.2 23 rfl, kc.2 40 rfl, kc.2 39 rfl, km.2 33 rfl, kc.2 82 rfl, kc.2 77 rfl, kc.2 78 rfl, km.2 27 rfl, kc.2 83 rfl, km.2 31 rfl, km.2 34 rfl, kc.2 84 rfl]
    exact this
  · unfold jD CU at D ⊢
    rw [km.2 6 rfl, kc.2 90 rfl, kc.2 91 rfl, kc.2 92 rfl]
    exact D
  · rw [km.2 6 rfl]; exact R
  · rw [kc.2 34 rfl]
    exact d1 z
  · have := d2 z
    rw [km.2 33 rfl, km.2 4 rfl, km.2 5 rfl]
    exact this
theorem jIn.k50 (I : jIn X p N K n q nf t i Fc Gc Fm Gm) (kc : KX [28] [] Fc Gc F1 Gc) (km : KX [50] [] Fm Gm F2 Gm) : jIn X p N K n q nf t i F1 Gc F2 Gm := by
  obtain ⟨⟨h1, h2, h3, h4, h5, h6⟩, D, R⟩ := I
  refine ⟨⟨h1.keep (kc.1 93 rfl) rfl rfl rfl (km.1 7 rfl) (km.1 8 rfl) rfl rfl rfl, h2, ?_, ?_, ?_, fun z => ?_⟩, ?_, ?_⟩
  · rw [km.1 46 rfl, kc.1 45 rfl, kc.1 7 rfl]; exact h3
  · rw [km.1 54 rfl, kc.1 46 rfl]; exact h4
  · rw [km.1 54 rfl]; exact h5
  · have := h6 z
    unfold jSA jSE jFT at this ⊢
    rw [km.1 54 rfl, km.1 24 rfl, km.1 14 rfl, km.1 15 rfl, kc.1 41 rfl, kc.1 42 rfl, kc.1 74 rfl]
    exact this
  · unfold jD CU at D ⊢
    rw [kc.1 9 rfl, kc.1 10 rfl, kc.1 11 rfl, kc.1 12 rfl, kc.1 13 rfl, kc.1 14 rfl, kc.1 43 rfl, kc.1 47 rfl, kc.1 21 rfl, kc.1 6 rfl, km.1 42 rfl, km.1 43 rfl, km.1 44 rfl, km.1 47 rfl, km.1 60 rfl, km.1 70 rfl]
    exact D
  · rw [kc.1 6 rfl]; exact R
theorem ct_opens {a : Int32} (T : TKE N K n Fc Gc Fm Gm) (c : CU N i Fc Gc Fm Gm) (h : ¬ Fc 11 = a) : PP (cf_X2_opens fu a Fc Gc) (fun _ F' _ => ¬ F' 14 = 0 ∧ F' 11 = -2) := by
  have pl := c.place T
  unfold cf_X2_opens cb_X2_opens_0
  rw [if_neg h]
  unfold cb_X2_opens_8
  refine PP.bind (cp_fail (by decide) (by decide) pl.1 (by omega)) ?_
  rintro r F1 G1 ⟨-, -, w1, w2⟩
  exact PP.ret ⟨w1, w2⟩
/-- the end of a function's code, and of the function -/
theorem jt_fleave {f : Nat} {x4 : Int32} (V : jV X p N K n q nf t j F1 G1 F2 G2) (h15 : F2 15 = 1) (sl : (F1 6).toInt + 3 ≤ 2 * (G2 6 j).toInt + 100) (h28 : F1 28 = nI f) (hf : f < 450) (hnf : p = 1 → f < nf) (hx4 : p = 1 → x4.toInt = 4 + (F1 49).toInt)
    (H : ∀ (t1 : Nat) (F3 : PF) (G3 : PG) (F4 : PF) (G4 : PG), jIn (X.1, X.2.1, [], X.2.2.2) p N K n q nf t1 j F3 G3 F4 G4 → (F3 42 = 0 ∧ F4 15 = 0 ∧ F3 28 = nI (f + 1)) → (KX [6, 28, 41, 42] [5, 40, 79] F1 G1 F3 G3 ∧ KX [14, 15, 50, 60] [28, 29, 56, 57, 58, 59] F2 G2 F4 G4) → (p = 0 → KX [6, 28, 42] [5] F1 G1 F3 G3) → (p = 1 → (G3 79 f = G4 28 f ∧ ∀ y : Nat, y ≠ f → G3 79 y = G1 79 y ∧ G4 28 y = G2 28 y) ∧ t1 ≤ t) → (p = 1 → (∀ (mu : Nat → Nat) (A : JAN), A (sN F2) = ([], some X.2.2.1) → mu (sN F2) = wN F1 → JX X F1 G1 F2 G2 mu A F3 G3 F4 G4 [8] [] []) ∧ (G4 28 f = nI (4 + jsW X.2.2.1) ∧ G4 29 f = nI (jsC X.2.2.1) ∧ jsW X.2.2.1 ≤ 208 ∧ sN F2 < sN F4) ∧ ∀ y : Nat, y ≠ f → G4 29 y = G2 29 y) → JP (kk (0, F3, G3)) (g (1, F4, G4)) Q) : JP ((cf_X4_endFunction fu F1 G1).bind kk) ((mb_function_335 fu (nI f) x4 F2 G2).bind g) Q := by
  have h7 := V.1.h7
  have hp := V.1.1.2.1
  have D := V.1.2.1
  have n4 := V.1.1.1.1
  have jN : j ≤ N := D.1.1
  have rm3 : jRm 3 F1 := jAl.room (m := 3) (κ := 0) V.1.1 (jAl.rf (X := X) (p := p) (s := []) D) V.1.2.2 (by omega)
  have rm2 : jRm 2 F1 := by
    rcases rm3 with z | ⟨z1, z2, z3⟩
    · exact .inl z
    · exact .inr ⟨z1, z2, by omega⟩
  unfold cf_X4_endFunction cb_X4_endFunction_0 mb_function_335
  refine JP.LL (cp_wpair 66 0 G1 rm2) ?_
  rintro ra F3 G3 c1
  dsimp only
  have c6 : (F3 6).toInt ≤ (F1 6).toInt + 2 := by
    rcases h7.1 with z | z
    · rw [(c1.2.1 z).1]
      omega
    · have : (F3 6).toInt = (F1 6).toInt + ((2 : Nat) : Int) := (c1.2.2 z).1
      omega
  have rm1 : jRm 1 F3 := by
    rcases rm3 with z | ⟨z1, z2, z3⟩
    · exact .inl (by rw [c1.1.1 7 rfl]; exact z)
    · have : (F3 6).toInt = (F1 6).toInt + ((2 : Nat) : Int) := (c1.2.2 z1).1
      exact .inr ⟨by rw [c1.1.1 7 rfl]; exact z1, by omega, by omega⟩
  unfold cb_X4_endFunction_10
  refine JP.LL (cp_wadd 15 G3 rm1) ?_
  rintro rb F5 G5 c2
  dsimp only
  have c6' : (F5 6).toInt ≤ (F1 6).toInt + 3 := by
    rcases h7.1 with z | z
    · rw [(c2.2.1 (by rw [c1.1.1 7 rfl]; exact z)).1]
      omega
    · have : (F5 6).toInt = (F3 6).toInt + ((1 : Nat) : Int) := (c2.2.2 (by rw [c1.1.1 7 rfl]; exact z)).1
      omega
  refine JP.RR (mp_em 0 0 0 F2 G2) ?_
  rintro rc F4 G4 ⟨-, -, m1, -⟩
  dsimp only
  unfold mb_function_342
  refine JP.RR (mp_em 17 0 0 F4 G4) ?_
  rintro rd F6 G6 ⟨-, -, m2, -⟩
  dsimp only
  have D3 := D.em h7.1 c1 m1
  have D5 := D3.em (by rw [c1.1.1 7 rfl]; exact h7.1) c2 m2
  have kc : KX [6] [5] F1 G1 F5 G5 := KX.tr c1.1 c2.1 rfl rfl
  have km : KX [60] [56, 57, 58, 59] F2 G2 F6 G6 := KX.tr m1.1 m2.1 rfl rfl
  have V5 : jV X p N K n q nf t j F5 G5 F6 G6 := by
    refine V.mv (KX.tr KX.rf kc rfl rfl) (KX.tr KX.rf km rfl rfl) ?_ ?_ (V.2.1.2.2.kx kc rfl) D5 (by omega) (Nat.le_refl _)
    · rw [kc.1 46 rfl]; exact V.x0
    · rw [km.1 54 rfl]; exact V.2.1.2.1
  have hX := V.2.1.1
  have s4 := m1.sn D.2.2.2.2.1
  have s6 := m2.sn D3.2.2.2.2.1
  have JT : p = 1 → ∀ (mu : Nat → Nat) (A : JAN), A (sN F2) = ([], some X.2.2.1) → mu (sN F2) = wN F1 → JX X F1 G1 F2 G2 mu A F5 G5 F6 G6 [8] [] [] := fun z mu A h1 h2 => by
    have z7 := h7.2 z
    have z73 : F3 7 = 1 := by rw [c1.1.1 7 rfl]; exact z7
    have J1 := (JX.rf h1 h2).op (F1 := F3) (G1 := G3) (F2 := F4) (G2 := G4) (s1 := [0]) (n := 2) s4 (c1.wn z7 D.2.2.2.1) (fun k hk => m1.2.2.1 k (Nat.ne_of_lt hk)) (c1.2.2 z7).2.1 (.inl ⟨m1.2.2.2.1, rfl, (c1.2.2 z7).2.2 0 66 rfl, ((c1.2.2 z7).2.2 1 0 rfl).trans m1.2.2.2.2.1.symm, rfl⟩)
    exact JX.ret hX J1 s6 (c2.wn z73 D3.2.2.2.1) (fun k hk => m2.2.2.1 k (Nat.ne_of_lt hk)) (c2.2.2 z73).2.1 m2.2.2.2.1 ((c2.2.2 z73).2.2 0 15 rfl)
  have f28 : F5 28 = nI f := (kc.1 28 rfl).trans h28
  have fI : (nI f).toNatClampNeg = f := nI_c _ (by omega)
  unfold mb_function_351
  refine JP.ixRR (fun _ => ?_)
  unfold mb_function_365
  refine JP.ixRR (fun _ => ?_)
  rw [fI]
  -- behind the measures
  have rest : ∀ G7 : PG, KX [] [79] F5 G5 F5 G7 → (p = 0 → G7 = G5) → (p = 1 → G7 79 f = x4 + F6 52 ∧ ∀ y : Nat, y ≠ f → G7 79 y = G5 79 y) → JP ((cb_X4_endFunction_62 fu F5 G7).bind kk) ((mb_function_375 fu F6 (gup (gup G6 28 f (x4 + F6 52)) 29 f (F6 53))).bind g) Q := by
    intro G7 k7 e7 e8
    have k8 : KX [] [28, 29] F6 G6 F6 (gup (gup G6 28 f (x4 + F6 52)) 29 f (F6 53)) := KX.g rfl (KX.g rfl KX.rf)
    have e28 : gup (gup G6 28 f (x4 + F6 52)) 29 f (F6 53) 28 f = x4 + F6 52 ∧ ∀ y : Nat, y ≠ f → gup (gup G6 28 f (x4 + F6 52)) 29 f (F6 53) 28 y = G6 28 y := ⟨by rw [gup_o (by decide), gup_i], fun y hy => by rw [gup_o (by decide), gup_x hy]⟩
    have e29 : gup (gup G6 28 f (x4 + F6 52)) 29 f (F6 53) 29 f = F6 53 ∧ ∀ y : Nat, y ≠ f → gup (gup G6 28 f (x4 + F6 52)) 29 f (F6 53) 29 y = G6 29 y := ⟨gup_i, fun y hy => by rw [gup_x hy, gup_o (by decide)]⟩
    generalize gup (gup G6 28 f (x4 + F6 52)) 29 f (F6 53) = G8 at k8 e28 e29 ⊢
    have V7 := V5.g79 k7 k8
    unfold cb_X4_endFunction_62 mb_function_375
    rw [Option.bind_assoc, Option.bind_assoc]
    refine JP.both (jl_leave1 V7 (by rw [km.1 15 rfl]; exact h15)) ?_
    rintro re F9 G9 rf Fx Gx ⟨t1, I9, ⟨k9, k90⟩, kx, ⟨y1, y2⟩, y3⟩
    dsimp only
    unfold cb_X4_endFunction_69 mb_function_380
    have k28 : KX [28] [] F9 G9 (fup F9 28 (F9 28 + 1)) G9 := KX.f rfl KX.rf
    have k50 : KX [50] [] Fx Gx (fup Fx 50 (-1)) Gx := KX.f rfl KX.rf
    have gx : Gx = G8 := kx.nog
    refine H t1 _ _ _ _ (I9.k50 k28 k50) ⟨?_, ?_, ?_⟩ ⟨?_, ?_⟩ (fun z => ?_) (fun z => ⟨⟨?_, fun y hy => ⟨?_, ?_⟩⟩, y3⟩) (fun z => ⟨fun mu A h1 h2 => ?_, ⟨?_, ?_, ?_, ?_⟩, fun y hy => ?_⟩)
    · rw [fup_n (by decide)]; exact y1
    · rw [fup_n (by decide)]; exact y2
    · rw [fup_s, k9.1 28 rfl, f28, nI_s f (by omega)]
    · exact KX.tr (KX.tr (KX.tr (KX.tr KX.rf kc rfl rfl) k7 rfl rfl) k9 rfl rfl) k28 rfl rfl
    · exact KX.tr (KX.tr (KX.tr (KX.tr KX.rf km rfl rfl) k8 rfl rfl) kx rfl rfl) k50 rfl rfl
    · have := k90 z
      rw [e7 z] at this
      exact KX.tr (KX.tr (KX.tr KX.rf kc rfl rfl) this rfl rfl) k28 rfl rfl
    · rw [k9.2 79 rfl, gx, e28.1]
      exact (e8 z).1
    · rw [k9.2 79 rfl, (e8 z).2 y hy, kc.2 79 rfl]
    · rw [gx, e28.2 y hy, km.2 28 rfl]
    · refine (JT z mu A h1 h2).st ?_ (fun k l u => ?_) ?_ ?_
      · rw [fup_n (by decide)]; exact kx.1 60 rfl
      · rw [gx]
        exact k8.rg (l := 56) (u := 59) rfl k l u
      · rw [fup_n (by decide)]; exact k9.1 6 rfl
      · rw [k9.2 5 rfl]; exact k7.2 5 rfl
    · obtain ⟨-, ⟨w1, w2, w3, w4, w5, w6, w7⟩, -⟩ := V.2.2.2.2.2 z
      rw [gx, e28.1, km.1 52 rfl]
      have hx := hx4 z
      rw [w2] at w3
      refine i_eq.mpr ?_
      rw [i_addn x4 (n := F2 52) (m := (F2 52).toInt) rfl (by omega) (by omega), nI_toInt (show 4 + jsW X.2.2.1 < 2 ^ 31 by omega)]
      omega
    · obtain ⟨-, ⟨w1, w2, w3, w4, w5, w6, w7⟩, -⟩ := V.2.2.2.2.2 z
      rw [gx, e29.1, km.1 53 rfl]
      have q4 := jsC4 X.2.2.1
      rw [w2] at w3
      refine i_eq.mpr ?_
      rw [nI_toInt (show jsC X.2.2.1 < 2 ^ 31 by omega)]
      exact w1
    · obtain ⟨-, ⟨w1, w2, w3, w4, w5, w6, w7⟩, -⟩ := V.2.2.2.2.2 z
      rw [w2] at w3
      omega
    · have e : sN (fup Fx 50 (-1)) = sN F6 := by
        show (fup Fx 50 (-1) 60).toNatClampNeg = (F6 60).toNatClampNeg
        rw [fup_n (by decide), kx.1 60 rfl]
      omega
    · rw [gx, e29.2 y hy, km.2 29 rfl]
  unfold cb_X4_endFunction_19
  rcases hp with z | z
  · rw [if_pos (show F5 45 = 0 by rw [V5.1.1.2.2.1.2.1, z])]
    exact rest G5 KX.rf (fun _ => rfl) (fun y => absurd (z.symm.trans y) (by decide))
  · rw [if_neg (show ¬ F5 45 = 0 by rw [V5.1.1.2.2.1.2.1, z]; decide)]
    have FT := (V5.1.1.2.2.2.2.2 z).2.2.2.2.2
    have eh : cf_X8_has fu (F5 28) F5 G5 = some (1, F5, G5) := by
      have l0 : (0 : Int32).toInt = 0 := rfl
      have f1 := hnf z
      have f2 := FT.1
      have fi : (nI f).toInt = f := nI_toInt (by omega)
      unfold cf_X8_has cb_X8_has_0
      rw [f28, if_neg (fun y => by have := i_lt.mp y; omega)]
      unfold cb_X8_has_4
      rw [if_neg (fun y => by have := i_le.mp y; omega)]
      rfl
    unfold cb_X4_endFunction_29
    rw [eh]
    show JP ((cb_X4_endFunction_43 fu F5 G5).bind kk) _ _
    unfold cb_X4_endFunction_43 cf_X5_measure cb_X5_measure_0
    show JP ((cb_X4_endFunction_61 fu (4 + F5 49 + F5 50) (F5 28) F5 G5).bind kk) _ _
    unfold cb_X4_endFunction_61
    rw [f28, fI]
    by_cases ci : ixb (nI f) 450 = true
    · rw [if_pos ci]
      refine rest _ (KX.g rfl KX.rf) (fun y => absurd (z.symm.trans y) (by decide)) (fun _ => ⟨?_, fun y hy => gup_x hy⟩)
      rw [gup_i]
      have o2 := (V5.2.2.2.2.2 z).2.1.2.1
      have o4 := (V5.2.2.2.2.2 z).2.1.2.2.2.1
      have o5 := (V5.2.2.2.2.2 z).2.1.2.2.2.2.1
      have e4 : 4 + F5 49 = x4 := by
        refine i_eq.mpr ?_
        have := i_addn (4 : Int32) (n := F5 49) (m := (F5 49).toInt) rfl (by show -2147483648 ≤ (4 : Int) + _; omega) (by show (4 : Int) + _ < _; omega)
        rw [this, hx4 z, kc.1 49 rfl]
        rfl
      rw [e4, o2]
    · rw [if_neg ci]
      exact JP.noL
end JVF
