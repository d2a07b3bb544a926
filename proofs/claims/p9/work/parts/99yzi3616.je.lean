theorem KX.rs {a b : List Nat} {F F1 : PF} {G G1 : PG} {k : Nat} {x y : Int32} (h : KX a b F G F1 G1) (e : a.contains k = true) : KX a b (fup F k x) G (fup F1 k y) G1 := by
  refine ⟨fun l hl => ?_, h.2⟩
  have ne : l ≠ k := fun z => by
    rw [z, e] at hl
    cases hl
  rw [fup_n ne, fup_n ne]
  exact h.1 l hl
theorem KX.un {F : PF} {G : PG} {k : Nat} {x : Int32} : KX [k] [] (fup F k x) G F G := by
  refine ⟨fun l hl => ?_, fun _ _ => rfl⟩
  have ne : l ≠ k := fun z => by
    rw [z, List.contains_cons, beq_self_eq_true, Bool.true_or] at hl
    cases hl
  exact (fup_n ne).symm
theorem gup_ne {G : PG} {a b i j : Nat} {v : Int32} (h : j ≠ i) : gup G a i v b j = G b j := by
  by_cases c : b = a
  · rw [c]
    exact gup_x h
  · rw [gup_o c]
theorem CU.eq {N i : Nat} {F1 F2 F3 F4 : PF} {G1 G2 : PG} (h : CU N i F1 G1 F2 G2) (a : KX [21] [] F1 G1 F3 G1) (b : KX [70] [] F2 G2 F4 G2) : CU N i F3 G1 F4 G2 := by
  unfold CU at h ⊢
  rw [a.1 9 rfl, a.1 10 rfl, a.1 14 rfl, a.1 11 rfl, a.1 12 rfl, a.1 13 rfl, b.1 42 rfl, b.1 43 rfl, b.1 44 rfl]
  exact h
section JE16
variable {X : JCX} {p : Int32} {N K n q nf t i j : Nat} {d κ : Int} {s s1 : SH} {hs : List JHO} {Fc Fm F1 F2 : PF} {Gc Gm G1 G2 : PG}
/-- what waits below is left out -/
theorem jAl.rs {a b : Int32} (h : jAl X p N i j d κ s s1 hs Fc Gc Fm Gm F1 G1 F2 G2) (a0 : 0 ≤ a.toInt) (a1 : a.toInt ≤ (Fc 21).toInt) (b0 : 0 ≤ b.toInt) (b1 : b.toInt ≤ (Fm 70).toInt) : jAl X p N i j d κ s s1 hs (fup Fc 21 a) Gc (fup Fm 70 b) Gm (fup F1 21 a) G1 (fup F2 70 b) G2 := by
  obtain ⟨⟨k1, k2⟩, ⟨D1, ⟨D2, D3, D4⟩, ⟨D5, D6⟩, D7, D8, D9⟩, a4, a5, ⟨a6, a6'⟩, ⟨a7, a7'⟩, a8, a9⟩ := h
  rw [a6] at D6
  have es : sN (fup Fm 70 b) = sN Fm := by show (fup Fm 70 b 60).toNatClampNeg = _; rw [fup_n (by decide)]
  have ew : wN (fup Fc 21 a) = wN Fc := by show (fup Fc 21 a 6).toNatClampNeg = _; rw [fup_n (by decide)]
  refine ⟨⟨k1.rs rfl, k2.rs rfl⟩, ⟨D1.eq (KX.f rfl KX.rf) (KX.f rfl KX.rf), ⟨?_, ?_, ?_⟩, ⟨?_, ?_⟩, ?_, ?_, ?_⟩, a4, ?_, ⟨?_, ?_⟩, ⟨?_, ?_⟩, ?_, fun q => ⟨?_, fun mu A h1 h2 => ?_⟩⟩
  · rw [fup_n (by decide)]; exact D2
  · rw [fup_n (by decide)]; exact D3
  · rw [fup_n (by decide)]; exact D4
  · rw [fup_s]; exact a0
  · rw [fup_s]; omega
  · rw [fup_n (by decide)]; exact D7
  · rw [fup_n (by decide)]; exact D8
  · rw [fup_s]; exact b0
  · rw [fup_n (show (10 : Nat) ≠ 21 by decide), fup_n (show (10 : Nat) ≠ 21 by decide)]; exact a5
  · rw [fup_s, fup_s]
  · intro k hk
    rw [fup_s] at hk
    exact a6' k (by omega)
  · rw [fup_s, fup_s]
  · intro k hk
    rw [fup_s] at hk
    exact a7' k (by omega)
  · rw [fup_n (show (6 : Nat) ≠ 21 by decide), fup_n (show (6 : Nat) ≠ 21 by decide)]; exact a8
  · rw [fup_n (show (55 : Nat) ≠ 70 by decide), fup_n (show (55 : Nat) ≠ 70 by decide)]; exact (a9 q).1
  · rw [es] at h1
    rw [es, ew] at h2
    exact (((a9 q).2 mu A h1 h2).st (fup_n (by decide)) (fun _ _ _ => rfl) (fup_n (by decide)) rfl).st0 (fup_n (by decide)) (fun _ _ _ => rfl) (fup_n (by decide)) rfl
theorem jIn.un {a b : Int32} (h : jIn X p N K n q nf t i (fup Fc 21 a) Gc (fup Fm 70 b) Gm) (a0 : 0 ≤ (Fc 21).toInt) (a1 : (Fc 21).toInt ≤ (Gm 6 i).toInt) (b0 : 0 ≤ (Fm 70).toInt) : jIn X p N K n q nf t i Fc Gc Fm Gm := by
  obtain ⟨S, ⟨D1, ⟨D2, D3, D4⟩, -, D7, D8, -⟩, B⟩ := h
  have kc : KX [21] [] (fup Fc 21 a) Gc Fc Gc := KX.un
  have km : KX [70] [] (fup Fm 70 b) Gm Fm Gm := KX.un
  refine ⟨S.keep (KX.tr KX.rf kc rfl rfl) (KX.tr KX.rf km rfl rfl), ⟨D1.eq kc km, ⟨?_, ?_, ?_⟩, ⟨a0, a1⟩, ?_, ?_, b0⟩, ?_⟩
  · rw [km.1 47 rfl]; exact D2
  · rw [kc.1 43 rfl]; exact D3
  · rw [kc.1 47 rfl]; exact D4
  · rw [kc.1 6 rfl]; exact D7
  · rw [km.1 60 rfl]; exact D8
  · rw [kc.1 6 rfl]; exact B
/-- new entries above what waits -/
theorem jAl.gg {G3 G4 : PG} (h : jAl X p N i j d κ s s1 hs Fc Gc Fm Gm F1 G1 F2 G2) (kc : KX [] [20] F1 G1 F1 G3) (km : KX [] [67, 68, 69] F2 G2 F2 G4) (hc : ∀ k : Nat, (k : Int) < (Fc 21).toInt → G3 20 k = G1 20 k) (hm : ∀ k : Nat, (k : Int) < (Fm 70).toInt → G4 67 k = G2 67 k ∧ G4 68 k = G2 68 k ∧ G4 69 k = G2 69 k) : jAl X p N i j d κ s s1 hs Fc Gc Fm Gm F1 G3 F2 G4 := by
  obtain ⟨⟨k1, k2⟩, ⟨D1, D2, D3, D4⟩, a4, a5, ⟨a6, a6'⟩, ⟨a7, a7'⟩, a8, a9⟩ := h
  refine ⟨⟨KX.tr k1 kc rfl rfl, KX.tr k2 km rfl rfl⟩, ⟨?_, D2, ?_, D4⟩, a4, a5, ⟨a6, fun k hk => (hc k hk).trans (a6' k hk)⟩, ⟨a7, fun k hk => ?_⟩, a8, fun q => ⟨(a9 q).1, fun mu A h1 h2 => ((a9 q).2 mu A h1 h2).st rfl (km.c rfl rfl rfl rfl) rfl (kc.2 5 rfl)⟩⟩
  · unfold CU at D1 ⊢
    rw [kc.2 90 rfl, kc.2 91 rfl, kc.2 92 rfl]
    exact D1
  · rw [km.2 6 rfl]
    exact D3
  · obtain ⟨c1, c2, c3⟩ := a7' k hk
    obtain ⟨d1, d2, d3⟩ := hm k hk
    exact ⟨d1.trans c1, d2.trans c2, d3.trans c3⟩
end JE16
/-- how strong the class holds an operator -/
def jSt (x : Int32) : Int32 := if x - 43 < 0 then 11 else if x - 43 < 19 then tb_1 (x - 43).toNatClampNeg else 11
theorem cp_str {fu : Nat} (x : Int32) (F : PF) (G : PG) : PP (cf_X3_strength fu x F G) (fun r F' G' => F = F' ∧ G = G' ∧ jSt x = r) := by
  unfold cf_X3_strength cb_X3_strength_0 cb_X3_strength_9 cb_X3_strength_17 cb_X3_strength_22 cb_X3_strength_27 jSt
  by_cases c : x - 43 < 0
  · rw [if_pos c, if_pos c]
    exact PP.ret ⟨rfl, rfl, rfl⟩
  · rw [if_neg c, if_neg c]
    by_cases e : x - 43 < 19
    · rw [if_pos e, if_pos e]
      exact PP.ix (fun _ => PP.ret ⟨rfl, rfl, rfl⟩)
    · rw [if_neg e, if_neg e]
      exact PP.ret ⟨rfl, rfl, rfl⟩
theorem kS_lv : ∀ w : Nat, w < 45 → ((43 ≤ (kS w).toInt ∧ (kS w).toInt ≤ 61) ↔ ¬ lvS (nI w) = -1) ∧ (¬ lvS (nI w) = -1 → (jSt (kS w)).toInt = (lvS (nI w)).toInt + 1 ∧ 0 ≤ (lvS (nI w)).toInt ∧ (lvS (nI w)).toInt ≤ 9) := by decide +kernel
theorem lv_two : ∀ w : Nat, w < 45 → ¬ lvS (nI w) = -1 → ¬ (w = 14 ∨ w = 15) → 2 ≤ (lvS (nI w)).toInt ∧ ¬ kS w = 43 ∧ ¬ kS w = 44 := by decide +kernel
theorem jSt_a : (jSt 62).toInt = 11 ∧ (jSt 63).toInt = 11 ∧ (jSt 64).toInt = 11 := by decide
theorem cp_ahead {fu : Nat} (x : Int32) (F : PF) (G : PG) : PP (cf_X3_isAhead fu x F G) (fun r F' G' => F = F' ∧ G = G' ∧ ((r = 1 ∧ (x = 58 ∨ x = 62 ∨ x = 63)) ∨ (r = 0 ∧ ¬ x = 58 ∧ ¬ x = 62 ∧ ¬ x = 63))) := by
  unfold cf_X3_isAhead cb_X3_isAhead_0 cb_X3_isAhead_6 cb_X3_isAhead_12 cb_X3_isAhead_18 cb_X3_isAhead_22 cb_X3_isAhead_23
  by_cases a : x = 58
  · rw [if_pos a]
    exact PP.bz (fun _ => PP.ret ⟨rfl, rfl, .inl ⟨rfl, .inl a⟩⟩)
  · rw [if_neg a]
    by_cases b : x = 62
    · rw [if_pos b]
      exact PP.bz (fun _ => PP.ret ⟨rfl, rfl, .inl ⟨rfl, .inr (.inl b)⟩⟩)
    · rw [if_neg b]
      by_cases c : x = 63
      · rw [if_pos c]
        exact PP.bz (fun _ => PP.ret ⟨rfl, rfl, .inl ⟨rfl, .inr (.inr c)⟩⟩)
      · rw [if_neg c]
        exact PP.bz (fun _ => PP.ret ⟨rfl, rfl, .inr ⟨rfl, a, b, c⟩⟩)
theorem cp_wait1 {fu : Nat} (x : Int32) {F : PF} {G : PG} (h : (F 21).toInt < 4000) (n1 : ¬ x = 43) (n2 : ¬ x = 44) : PP (cf_X3_waits fu x F G) (fun _ F' G' => fup F 21 (F 21 + 1) = F' ∧ gup G 20 (F 21).toNatClampNeg x = G') := by
  unfold cf_X3_waits cb_X3_waits_0 cb_X3_waits_11 cb_X3_waits_17 cb_X3_waits_63 cb_X3_waits_73 cb_X3_waits_83
  rw [if_pos (show F 21 < 4000 from i_lt.mpr h), if_neg n1, if_neg n2]
  exact PP.ix (fun _ => PP.ret ⟨rfl, rfl⟩)
theorem cp_wait2 {fu : Nat} (x : Int32) {F : PF} {G : PG} (h : (F 21).toInt < 4000) (hx : x = 43 ∨ x = 44) (rm : jRm 2 F) : PP (cf_X3_waits fu x F G) (fun _ F' G' => ∃ (r : Int32) (F1 : PF) (G1 : PG), EMC [if x = 43 then 87 else 88, -1] F G F1 G1 ∧ (F 7 = 0 → r = -1) ∧ (F 7 = 1 → r = nI (wN F + 1)) ∧ fup (fup F1 21 (F1 21 + 1)) 21 (F1 21 + 1 + 1) = F' ∧ gup (gup G1 20 (F 21).toNatClampNeg r) 20 (F1 21 + 1).toNatClampNeg x = G') := by
  have key : ∀ c : Int32, (c = if x = 43 then 87 else 88) → PP (cb_X3_waits_48 fu x c (F 21) F G) (fun _ F' G' => ∃ (r : Int32) (F1 : PF) (G1 : PG), EMC [if x = 43 then 87 else 88, -1] F G F1 G1 ∧ (F 7 = 0 → r = -1) ∧ (F 7 = 1 → r = nI (wN F + 1)) ∧ fup (fup F1 21 (F1 21 + 1)) 21 (F1 21 + 1 + 1) = F' ∧ gup (gup G1 20 (F 21).toNatClampNeg r) 20 (F1 21 + 1).toNatClampNeg x = G') := by
    intro c hc
    rw [← hc]
    unfold cb_X3_waits_48
    refine PP.bind (cp_wjump c (-1) G rm) ?_
    rintro r F1 G1 ⟨c1, c2, c3⟩
    dsimp only
    unfold cb_X3_waits_52
    refine PP.ix (fun _ => ?_)
    unfold cb_X3_waits_53 cb_X3_waits_63
    refine PP.ix (fun _ => ?_)
    unfold cb_X3_waits_73 cb_X3_waits_83
    refine PP.ret ⟨r, F1, G1, c1, c2, c3, ?_, ?_⟩
    · rw [fup_s]
    · rw [fup_s]
  unfold cf_X3_waits cb_X3_waits_0 cb_X3_waits_11 cb_X3_waits_17
  rw [if_pos (show F 21 < 4000 from i_lt.mpr h)]
  have k23 : PP (cb_X3_waits_23 fu x F G) (fun _ F' G' => ∃ (r : Int32) (F1 : PF) (G1 : PG), EMC [if x = 43 then 87 else 88, -1] F G F1 G1 ∧ (F 7 = 0 → r = -1) ∧ (F 7 = 1 → r = nI (wN F + 1)) ∧ fup (fup F1 21 (F1 21 + 1)) 21 (F1 21 + 1 + 1) = F' ∧ gup (gup G1 20 (F 21).toNatClampNeg r) 20 (F1 21 + 1).toNatClampNeg x = G') := by
    unfold cb_X3_waits_23 cb_X3_waits_41 cb_X3_waits_46
    exact PP.ite (fun c => key 87 (by rw [if_pos c])) (fun c => key 88 (by rw [if_neg c]))
  refine PP.ite (fun _ => k23) (fun c1 => PP.ite (fun _ => k23) (fun c2 => ?_))
  rcases hx with c | c
  · exact absurd c c1
  · exact absurd c c2
