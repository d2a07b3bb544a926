/-- what a step of the reference has done -/
def jMe (k y n : Nat) (xs : List Int32) (ce : Nat → Int32) (F : PF) (G : PG) (F1 : PF) (G1 : PG) : Prop := KX [72, 76] [71, 90] F G F1 G1 ∧ F1 76 = nI k ∧ jSk y n xs (G 71) (G1 71) (F1 72) ∧ G1 90 = ce
/-- the reference stands at step k with y operands -/
def jMp (k y : Nat) (F : PF) : Prop := F 76 = nI k ∧ F 72 = nI y ∧ k < 100000 ∧ y < 400000
section JQ8
variable {fu k y n : Nat} {F F1 : PF} {G G1 : PG}
theorem nI_su {a b : Nat} (h : b ≤ a) (ha : a < 2147483648) : nI a - nI b = nI (a - b) := by
  refine i_eq2 ?_
  rw [i_subn (nI a) (n := nI b) (m := b) (nI_toInt (by omega)) (by rw [nI_toInt (by omega)]; omega) (by rw [nI_toInt (by omega)]; omega), nI_toInt (by omega), nI_toInt (by omega)]
  omega
theorem nI_m1 {a : Nat} (h : 1 ≤ a) (ha : a < 2147483648) : nI a - 1 = nI (a - 1) := nI_su (b := 1) h ha
theorem nI_m2 {a : Nat} (h : 2 ≤ a) (ha : a < 2147483648) : nI a - 2 = nI (a - 2) := nI_su (b := 2) h ha
theorem nI_p2 {a : Nat} (ha : a + 2 < 2147483648) : nI a + 2 = nI (a + 2) := nI_ad (b := 2) ha
theorem jSk.p1 {st : Nat → Int32} {x : Int32} : jSk y 0 [x] st (upd st y x) (nI (y + 1)) := by
  refine ⟨rfl, fun i hi => upd_n (by omega), fun i z q => ?_⟩
  cases i with
  | zero => exact upd_s.trans (Option.some.inj q)
  | succ i => simp at q
theorem jSk.c1 {st : Nat → Int32} {x : Int32} (hy : 1 ≤ y) : jSk y 1 [x] st (upd st (y - 1) x) (nI y) := by
  refine ⟨congrArg nI (by show y = y - 1 + 1; omega), fun i hi => upd_n (by omega), fun i z q => ?_⟩
  cases i with
  | zero => exact upd_s.trans (Option.some.inj q)
  | succ i => simp at q
theorem jSk.d {st : Nat → Int32} (hn : n ≤ y) : jSk y n [] st st (nI (y - n)) := ⟨rfl, fun i hi => rfl, fun i z q => by simp at q⟩
theorem jSk.p2 {st : Nat → Int32} {x z : Int32} : jSk y 0 [x, z] st (upd (upd st y x) (y + 1) z) (nI (y + 2)) := by
  refine ⟨rfl, fun i hi => (upd_n (by omega)).trans (upd_n (by omega)), fun i v q => ?_⟩
  match i, q with
  | 0, q => exact ((upd_n (by omega)).trans upd_s).trans (Option.some.inj q)
  | 1, q => exact upd_s.trans (Option.some.inj q)
  | i + 2, q => simp at q
theorem jSk.c2 {st : Nat → Int32} {x : Int32} (hy : 2 ≤ y) : jSk y 2 [x] st (upd st (y - 2) x) (nI (y - 1)) := by
  refine ⟨congrArg nI (by show y - 1 = y - 2 + 1; omega), fun i hi => upd_n (by omega), fun i z q => ?_⟩
  cases i with
  | zero => exact upd_s.trans (Option.some.inj q)
  | succ i => simp at q
theorem mq_ld {b p : Nat} (P : jMp k y F) (e : G 56 k = 1) : PP (mf_works fu F G) (fun r F1 G1 => r = 1 ∧ (F 86 = nI b → G 57 k = nI p → b + p < 20000 → jMe (k + 1) y 0 [G 90 (b + p)] (G 90) F G F1 G1)) := by
  obtain ⟨h76, h72, k9, y8⟩ := P
  have c76 : (F 76).toNatClampNeg = k := by rw [h76]; exact nI_c _ (by omega)
  have c72 : (F 72).toNatClampNeg = y := by rw [h72]; exact nI_c _ (by omega)
  unfold mf_works mb_works_0
  rw [c76, e]
  refine PP.ix (fun _ => PP.ix (fun _ => PP.ix (fun _ => ?_)))
  rw [if_neg (by decide), if_pos rfl]
  unfold mb_works_132
  rw [c76, e, if_pos rfl]
  refine PP.ix (fun _ => ?_)
  unfold mb_works_157 mb_works_167
  refine PP.ix (fun _ => PP.ix (fun _ => ?_))
  show PP (some (1, fup (fup F 72 (F 72 + 1)) 76 (fup F 72 (F 72 + 1) 76 + 1), gup G 71 (F 72).toNatClampNeg (G 90 (F 86 + G 57 k).toNatClampNeg))) _
  refine PP.ret ⟨rfl, fun e1 e2 e3 => ?_⟩
  rw [c72, e1, e2, nI_ad (by omega), nI_c _ (by omega)]
  refine ⟨KX.f rfl (KX.f rfl (KX.g rfl KX.rf)), ?_, ?_, gup_o (by decide)⟩
  · rw [fup_s, fup_n (by decide), h76]; exact nI_t _ (by omega)
  · rw [fup_n (by decide), fup_s, gup_u, h72, nI_t _ (by omega)]
    exact jSk.p1
theorem mq_lg {p : Nat} (P : jMp k y F) (e : G 56 k = 3) : PP (mf_works fu F G) (fun r F1 G1 => r = 1 ∧ (G 57 k = nI p → p < 20000 → jMe (k + 1) y 0 [G 90 p] (G 90) F G F1 G1)) := by
  obtain ⟨h76, h72, k9, y8⟩ := P
  have c76 : (F 76).toNatClampNeg = k := by rw [h76]; exact nI_c _ (by omega)
  have c72 : (F 72).toNatClampNeg = y := by rw [h72]; exact nI_c _ (by omega)
  unfold mf_works mb_works_0
  rw [c76, e]
  refine PP.ix (fun _ => PP.ix (fun _ => PP.ix (fun _ => ?_)))
  rw [if_neg (by decide), if_neg (by decide), if_neg (by decide), if_pos rfl]
  unfold mb_works_132
  rw [c76, e]
  refine PP.ix (fun _ => ?_)
  rw [if_neg (by decide)]
  unfold mb_works_166 mb_works_167
  refine PP.ix (fun _ => PP.ix (fun _ => ?_))
  show PP (some (1, fup (fup F 72 (F 72 + 1)) 76 (fup F 72 (F 72 + 1) 76 + 1), gup G 71 (F 72).toNatClampNeg (G 90 (G 57 k).toNatClampNeg))) _
  refine PP.ret ⟨rfl, fun e2 e3 => ?_⟩
  rw [c72, e2, nI_c _ (by omega)]
  refine ⟨KX.f rfl (KX.f rfl (KX.g rfl KX.rf)), ?_, ?_, gup_o (by decide)⟩
  · rw [fup_s, fup_n (by decide), h76]; exact nI_t _ (by omega)
  · rw [fup_n (by decide), fup_s, gup_u, h72, nI_t _ (by omega)]
    exact jSk.p1
theorem mq_sl {b p : Nat} (P : jMp k y F) (e : G 56 k = 2) : PP (mf_works fu F G) (fun r F1 G1 => r = 1 ∧ (1 ≤ y → F 86 = nI b → G 57 k = nI p → b + p < 20000 → jMe (k + 1) y 1 [] (upd (G 90) (b + p) (G 71 (y - 1))) F G F1 G1)) := by
  obtain ⟨h76, h72, k9, y8⟩ := P
  have c76 : (F 76).toNatClampNeg = k := by rw [h76]; exact nI_c _ (by omega)
  have c72 : (F 72).toNatClampNeg = y := by rw [h72]; exact nI_c _ (by omega)
  unfold mf_works mb_works_0
  rw [c76, e]
  refine PP.ix (fun _ => PP.ix (fun _ => PP.ix (fun _ => ?_)))
  rw [if_neg (by decide), if_neg (by decide), if_pos rfl]
  unfold mb_works_182 mb_works_192
  rw [fup_n (by decide), c76, e]
  refine PP.ix (fun _ => ?_)
  rw [if_pos rfl]
  unfold mb_works_209 mb_works_219
  refine PP.ix (fun _ => PP.ix (fun _ => ?_))
  show PP (some (1, fup (fup F 72 (F 72 - 1)) 76 (fup F 72 (F 72 - 1) 76 + 1), gup G 90 (fup F 72 (F 72 - 1) 86 + G 57 k).toNatClampNeg (G 71 (fup F 72 (F 72 - 1) 72).toNatClampNeg))) _
  refine PP.ret ⟨rfl, fun hy e1 e2 e3 => ?_⟩
  rw [fup_s, h72, nI_m1 hy (by omega), nI_c (y - 1) (by omega), fup_n (show (86 : Nat) ≠ 72 by decide), e1, e2, nI_ad (by omega), nI_c _ (by omega)]
  refine ⟨KX.f rfl (KX.f rfl (KX.g rfl KX.rf)), ?_, ?_, gup_u⟩
  · rw [fup_s, fup_n (by decide), h76]; exact nI_t _ (by omega)
  · rw [fup_n (by decide), fup_s, gup_o (by decide)]
    exact jSk.d hy
theorem mq_sg {p : Nat} (P : jMp k y F) (e : G 56 k = 4) : PP (mf_works fu F G) (fun r F1 G1 => r = 1 ∧ (1 ≤ y → G 57 k = nI p → p < 20000 → jMe (k + 1) y 1 [] (upd (G 90) (p) (G 71 (y - 1))) F G F1 G1)) := by
  obtain ⟨h76, h72, k9, y8⟩ := P
  have c76 : (F 76).toNatClampNeg = k := by rw [h76]; exact nI_c _ (by omega)
  have c72 : (F 72).toNatClampNeg = y := by rw [h72]; exact nI_c _ (by omega)
  unfold mf_works mb_works_0
  rw [c76, e]
  refine PP.ix (fun _ => PP.ix (fun _ => PP.ix (fun _ => ?_)))
  rw [if_neg (by decide), if_neg (by decide), if_neg (by decide), if_neg (by decide), if_pos rfl]
  unfold mb_works_182 mb_works_192
  rw [fup_n (by decide), c76, e]
  refine PP.ix (fun _ => ?_)
  rw [if_neg (by decide)]
  unfold mb_works_218 mb_works_219
  refine PP.ix (fun _ => PP.ix (fun _ => ?_))
  show PP (some (1, fup (fup F 72 (F 72 - 1)) 76 (fup F 72 (F 72 - 1) 76 + 1), gup G 90 (G 57 k).toNatClampNeg (G 71 (fup F 72 (F 72 - 1) 72).toNatClampNeg))) _
  refine PP.ret ⟨rfl, fun hy e2 e3 => ?_⟩
  rw [fup_s, h72, nI_m1 hy (by omega), nI_c (y - 1) (by omega), e2, nI_c _ (by omega)]
  refine ⟨KX.f rfl (KX.f rfl (KX.g rfl KX.rf)), ?_, ?_, gup_u⟩
  · rw [fup_s, fup_n (by decide), h76]; exact nI_t _ (by omega)
  · rw [fup_n (by decide), fup_s, gup_o (by decide)]
    exact jSk.d hy
theorem mq_ba {b p : Nat} (P : jMp k y F) (e : G 56 k = 5) : PP (mf_works fu F G) (fun r F1 G1 => r = 1 ∧ (F 86 = nI b → G 57 k = nI p → b + p + 1 < 2000000 → (G 58 k = -1 → jMe (k + 1) y 0 [G 90 (b + p), G 90 (b + p + 1)] (G 90) F G F1 G1) ∧ (¬ G 58 k = -1 → jMe (k + 1) y 0 [if G 59 k = 1 then nI (b + p) else nI p, G 58 k] (G 90) F G F1 G1))) := by
  obtain ⟨h76, h72, k9, y8⟩ := P
  have c76 : (F 76).toNatClampNeg = k := by rw [h76]; exact nI_c _ (by omega)
  have c72 : (F 72).toNatClampNeg = y := by rw [h72]; exact nI_c _ (by omega)
  unfold mf_works mb_works_0
  rw [c76, e]
  refine PP.ix (fun _ => PP.ix (fun _ => PP.ix (fun _ => ?_)))
  rw [if_neg (by decide), if_neg (by decide), if_neg (by decide), if_neg (by decide), if_neg (by decide), if_pos rfl]
  have fin : ∀ (u v : Int32) (Gx : PG), PP (mb_works_316 fu F (gup (gup G 71 (F 72).toNatClampNeg u) 71 (F 72 + 1).toNatClampNeg v)) (fun r F1 G1 => r = 1 ∧ jMe (k + 1) y 0 [u, v] (G 90) F G F1 G1) := by
    intro u v Gx
    show PP (some (1, fup (fup F 72 (F 72 + 2)) 76 (fup F 72 (F 72 + 2) 76 + 1), gup (gup G 71 (F 72).toNatClampNeg u) 71 (F 72 + 1).toNatClampNeg v)) _
    rw [c72, h72, nI_t _ (by omega), nI_c (y + 1) (by omega), nI_p2 (by omega)]
    refine PP.ret ⟨rfl, KX.f rfl (KX.f rfl (KX.g rfl (KX.g rfl KX.rf))), ?_, ?_, ?_⟩
    · rw [fup_s, fup_n (by decide), h76]; exact nI_t _ (by omega)
    · rw [fup_n (by decide), fup_s, gup_u, gup_u]
      exact jSk.p2
    · rw [gup_o (by decide), gup_o (by decide)]
  unfold mb_works_232
  by_cases c : G 58 k = -1
  · rw [if_pos c]
    unfold mb_works_245
    refine PP.ix (fun _ => ?_)
    unfold mb_works_282
    refine PP.ix (fun _ => ?_)
    unfold mb_works_283
    rw [if_pos c]
    unfold mb_works_298
    refine PP.ix (fun _ => ?_)
    unfold mb_works_315
    refine PP.ix (fun _ => ?_)
    rw [gup_o (by decide)]
    refine PP.mono (fin _ _ G) ?_
    rintro r F1 G1 ⟨w1, w2⟩
    refine ⟨w1, fun e1 e2 e3 => ⟨fun _ => ?_, fun z => absurd c z⟩⟩
    rw [e1, e2, nI_ad (by omega), nI_t _ (by omega), nI_c _ (by omega), nI_c _ (by omega)] at w2
    exact w2
  · rw [if_neg c]
    unfold mb_works_259
    rw [c76]
    refine PP.ix (fun _ => ?_)
    by_cases d : G 59 k = 1
    · rw [if_pos d]
      unfold mb_works_272 mb_works_282
      refine PP.ix (fun _ => ?_)
      unfold mb_works_283
      rw [if_neg c]
      unfold mb_works_314 mb_works_315
      refine PP.ix (fun _ => ?_)
      refine PP.mono (fin _ _ G) ?_
      rintro r F1 G1 ⟨w1, w2⟩
      refine ⟨w1, fun e1 e2 e3 => ⟨fun z => absurd z c, fun _ => ?_⟩⟩
      rw [if_pos d]
      rw [e1, e2, nI_ad (by omega)] at w2
      exact w2
    · rw [if_neg d]
      unfold mb_works_281 mb_works_282
      refine PP.ix (fun _ => ?_)
      unfold mb_works_283
      rw [if_neg c]
      unfold mb_works_314 mb_works_315
      refine PP.ix (fun _ => ?_)
      refine PP.mono (fin _ _ G) ?_
      rintro r F1 G1 ⟨w1, w2⟩
      refine ⟨w1, fun e1 e2 e3 => ⟨fun z => absurd z c, fun _ => ?_⟩⟩
      rw [if_neg d]
      rw [e2] at w2
      exact w2
/-- the reference stops at a wrong index -/
def jMx (pl : Int32) (F : PF) (G : PG) (F1 : PF) (G1 : PG) : Prop := KX [75, 82] [] F G F1 G1 ∧ F1 75 = 5 ∧ F1 82 = pl
theorem mq_el1 {x3 z0 : Int32} (P : jMp k y F) : PP (mb_works_396 fu x3 z0 F G) (fun r F1 G1 => 1 ≤ y → ((r = 1 ∧ 0 ≤ (G 71 (y - 1)).toInt ∧ (G 71 (y - 1)).toInt < x3.toInt ∧ jMe (k + 1) y 1 [z0 + G 71 (y - 1)] (G 90) F G F1 G1) ∨ (r = 0 ∧ ((G 71 (y - 1)).toInt < 0 ∨ x3.toInt ≤ (G 71 (y - 1)).toInt) ∧ jMx (G 59 k >>> ((1 : Int32) &&& 31)) F G F1 G1))) := by
  obtain ⟨h76, h72, k9, y8⟩ := P
  have c76 : (F 76).toNatClampNeg = k := by rw [h76]; exact nI_c _ (by omega)
  have l0 : (0 : Int32).toInt = 0 := rfl
  have out : ∀ (Q : Prop), PP (mb_works_422 fu F G) (fun r F1 G1 => r = 0 ∧ jMx (G 59 k >>> ((1 : Int32) &&& 31)) F G F1 G1) := by
    intro _
    unfold mb_works_422 mb_works_427
    rw [fup_n (by decide), c76]
    refine PP.ix (fun _ => ?_)
    show PP (some (0, fup (fup F 75 5) 82 (G 59 k >>> ((1 : Int32) &&& 31)), G)) _
    exact PP.ret ⟨rfl, KX.f rfl (KX.f rfl KX.rf), by rw [fup_n (by decide), fup_s], fup_s⟩
  unfold mb_works_396
  refine PP.ix (fun hv => ?_)
  have e1 : 1 ≤ y → (F 72 - 1).toNatClampNeg = y - 1 := fun hy => by rw [h72, nI_m1 hy (by omega)]; exact nI_c _ (by omega)
  by_cases c : G 71 (F 72 - 1).toNatClampNeg < 0
  · rw [if_pos c]
    refine PP.mono (out True) ?_
    rintro r F1 G1 ⟨w1, w2⟩ hy
    rw [e1 hy] at c
    exact .inr ⟨w1, .inl (i_lt.mp c), w2⟩
  · rw [if_neg c]
    unfold mb_works_416
    by_cases d : G 71 (F 72 - 1).toNatClampNeg < x3
    · rw [if_pos d]
      unfold mb_works_444
      refine PP.ix (fun _ => ?_)
      show PP (some (1, fup F 76 (F 76 + 1), gup G 71 (F 72 - 1).toNatClampNeg (z0 + G 71 (F 72 - 1).toNatClampNeg))) _
      refine PP.ret (fun hy => .inl ?_)
      rw [e1 hy] at c d ⊢
      refine ⟨rfl, by have := mt i_lt.mpr c; omega, i_lt.mp d, KX.f rfl (KX.g rfl KX.rf), ?_, ?_, gup_o (by decide)⟩
      · rw [fup_s, h76]; exact nI_t _ (by omega)
      · rw [fup_n (by decide), gup_u, h72]
        exact jSk.c1 hy
    · rw [if_neg d]
      refine PP.mono (out True) ?_
      rintro r F1 G1 ⟨w1, w2⟩ hy
      rw [e1 hy] at d
      have d := mt i_lt.mpr d
      exact .inr ⟨w1, .inr (by omega), w2⟩
theorem mq_el {b p : Nat} (P : jMp k y F) (e : G 56 k = 6) : PP (mf_works fu F G) (fun r F1 G1 => 1 ≤ y → F 86 = nI b → G 57 k = nI p → b + p + 1 < 2000000 → ∃ x3 z0 : Int32, ((G 58 k = -1 ∧ x3 = G 90 (b + p + 1) ∧ z0 = G 90 (b + p)) ∨ (¬ G 58 k = -1 ∧ x3 = G 58 k ∧ z0 = if G 59 k &&& 1 = 1 then nI (b + p) else nI p)) ∧ ((r = 1 ∧ 0 ≤ (G 71 (y - 1)).toInt ∧ (G 71 (y - 1)).toInt < x3.toInt ∧ jMe (k + 1) y 1 [z0 + G 71 (y - 1)] (G 90) F G F1 G1) ∨ (r = 0 ∧ ((G 71 (y - 1)).toInt < 0 ∨ x3.toInt ≤ (G 71 (y - 1)).toInt) ∧ jMx (G 59 k >>> ((1 : Int32) &&& 31)) F G F1 G1))) := by
  obtain ⟨h76, h72, k9, y8⟩ := P
  have c76 : (F 76).toNatClampNeg = k := by rw [h76]; exact nI_c _ (by omega)
  have c72 : (F 72).toNatClampNeg = y := by rw [h72]; exact nI_c _ (by omega)
  unfold mf_works mb_works_0
  rw [c76, e]
  refine PP.ix (fun _ => PP.ix (fun _ => PP.ix (fun _ => ?_)))
  rw [if_neg (by decide), if_neg (by decide), if_neg (by decide), if_neg (by decide), if_neg (by decide), if_neg (by decide), if_pos rfl]
  unfold mb_works_329
  by_cases c : G 58 k = -1
  · rw [if_pos c]
    unfold mb_works_334
    refine PP.ix (fun _ => ?_)
    unfold mb_works_351
    rw [if_pos c]
    unfold mb_works_357
    refine PP.ix (fun _ => ?_)
    refine PP.mono (mq_el1 (k := k) (y := y) ⟨h76, h72, k9, y8⟩) ?_
    intro r F1 G1 w hy e1 e2 e3
    refine ⟨_, _, .inl ⟨c, rfl, rfl⟩, ?_⟩
    have w := w hy
    rw [e1, e2, nI_ad (by omega), nI_t _ (by omega), nI_c _ (by omega), nI_c _ (by omega)] at w
    exact w
  · rw [if_neg c]
    unfold mb_works_350 mb_works_351
    rw [if_neg c]
    unfold mb_works_371
    rw [c76]
    refine PP.ix (fun _ => ?_)
    by_cases d : G 59 k &&& 1 = 1
    · rw [if_pos d]
      unfold mb_works_386
      refine PP.mono (mq_el1 (k := k) (y := y) ⟨h76, h72, k9, y8⟩) ?_
      intro r F1 G1 w hy e1 e2 e3
      refine ⟨_, _, .inr ⟨c, rfl, rfl⟩, ?_⟩
      have w := w hy
      rw [e1, e2, nI_ad (by omega)] at w
      rw [if_pos d]
      exact w
    · rw [if_neg d]
      unfold mb_works_395
      refine PP.mono (mq_el1 (k := k) (y := y) ⟨h76, h72, k9, y8⟩) ?_
      intro r F1 G1 w hy e1 e2 e3
      refine ⟨_, _, .inr ⟨c, rfl, rfl⟩, ?_⟩
      have w := w hy
      rw [e2] at w
      rw [if_neg d]
      exact w
theorem mq_at {a : Nat} (P : jMp k y F) (e : G 56 k = 7) : PP (mf_works fu F G) (fun r F1 G1 => r = 1 ∧ (1 ≤ y → G 71 (y - 1) = nI a → a < 20000 → jMe (k + 1) y 1 [G 90 a] (G 90) F G F1 G1)) := by
  obtain ⟨h76, h72, k9, y8⟩ := P
  have c76 : (F 76).toNatClampNeg = k := by rw [h76]; exact nI_c _ (by omega)
  have c72 : (F 72).toNatClampNeg = y := by rw [h72]; exact nI_c _ (by omega)
  unfold mf_works mb_works_0
  rw [c76, e]
  refine PP.ix (fun _ => PP.ix (fun _ => PP.ix (fun _ => ?_)))
  rw [if_neg (by decide), if_neg (by decide), if_neg (by decide), if_neg (by decide), if_neg (by decide), if_neg (by decide), if_neg (by decide), if_pos rfl]
  unfold mb_works_463
  refine PP.ix (fun _ => PP.ix (fun _ => PP.ix (fun _ => ?_)))
  show PP (some (1, fup F 76 (F 76 + 1), gup G 71 (F 72 - 1).toNatClampNeg (G 90 (G 71 (F 72 - 1).toNatClampNeg).toNatClampNeg))) _
  refine PP.ret ⟨rfl, fun hy e1 e2 => ?_⟩
  rw [h72, nI_m1 hy (by omega), nI_c (y - 1) (by omega), e1, nI_c a (by omega)]
  refine ⟨KX.f rfl (KX.g rfl KX.rf), ?_, ?_, gup_o (by decide)⟩
  · rw [fup_s, h76]; exact nI_t _ (by omega)
  · rw [fup_n (by decide), gup_u, h72]
    exact jSk.c1 hy
theorem mq_pa {a : Nat} (P : jMp k y F) (e : G 56 k = 8) : PP (mf_works fu F G) (fun r F1 G1 => r = 1 ∧ (2 ≤ y → G 71 (y - 2) = nI a → a < 20000 → jMe (k + 1) y 2 [] (upd (G 90) a (if G 57 k = 1 then G 71 (y - 1) &&& 255 else G 71 (y - 1))) F G F1 G1)) := by
  obtain ⟨h76, h72, k9, y8⟩ := P
  have c76 : (F 76).toNatClampNeg = k := by rw [h76]; exact nI_c _ (by omega)
  have c72 : (F 72).toNatClampNeg = y := by rw [h72]; exact nI_c _ (by omega)
  unfold mf_works mb_works_0
  rw [c76, e]
  refine PP.ix (fun _ => PP.ix (fun _ => PP.ix (fun _ => ?_)))
  rw [if_neg (by decide), if_neg (by decide), if_neg (by decide), if_neg (by decide), if_neg (by decide), if_neg (by decide), if_neg (by decide), if_neg (by decide), if_pos rfl]
  unfold mb_works_493 mb_works_503
  rw [fup_s]
  refine PP.ix (fun _ => ?_)
  have fin : ∀ v : Int32, PP (mb_works_550 fu v (G 71 (F 72 - 2).toNatClampNeg) (fup F 72 (F 72 - 2)) G) (fun r F1 G1 => r = 1 ∧ (2 ≤ y → G 71 (y - 2) = nI a → a < 20000 → jMe (k + 1) y 2 [] (upd (G 90) a v) F G F1 G1)) := by
    intro v
    unfold mb_works_550
    refine PP.ix (fun _ => ?_)
    show PP (some (1, fup (fup F 72 (F 72 - 2)) 76 (fup F 72 (F 72 - 2) 76 + 1), gup G 90 (G 71 (F 72 - 2).toNatClampNeg).toNatClampNeg v)) _
    refine PP.ret ⟨rfl, fun hy e1 e2 => ?_⟩
    rw [h72, nI_m2 hy (by omega), nI_c (y - 2) (by omega), e1, nI_c a (by omega)]
    refine ⟨KX.f rfl (KX.f rfl (KX.g rfl KX.rf)), ?_, ?_, gup_u⟩
    · rw [fup_s, fup_n (by decide), h76]; exact nI_t _ (by omega)
    · rw [fup_n (by decide), fup_s, gup_o (by decide)]
      exact jSk.d hy
  have e1 : 2 ≤ y → (F 72 - 2 + 1).toNatClampNeg = y - 1 := fun hy => by rw [h72, nI_m2 hy (by omega), nI_t _ (by omega), nI_c _ (by omega)]; omega
  by_cases c : G 57 k = 1
  · rw [if_pos c]
    unfold mb_works_521
    rw [fup_s]
    refine PP.ix (fun _ => ?_)
    refine PP.mono (fin _) ?_
    rintro r F1 G1 ⟨w1, w2⟩
    refine ⟨w1, fun hy => ?_⟩
    rw [if_pos c, ← e1 hy]
    exact w2 hy
  · rw [if_neg c]
    unfold mb_works_539
    rw [fup_s]
    refine PP.ix (fun _ => ?_)
    refine PP.mono (fin _) ?_
    rintro r F1 G1 ⟨w1, w2⟩
    refine ⟨w1, fun hy => ?_⟩
    rw [if_neg c, ← e1 hy]
    exact w2 hy
theorem mq_tw (P : jMp k y F) (e : G 56 k = 9) : PP (mf_works fu F G) (fun r F1 G1 => r = 1 ∧ (1 ≤ y → jMe (k + 1) y 0 [G 71 (y - 1)] (G 90) F G F1 G1)) := by
  obtain ⟨h76, h72, k9, y8⟩ := P
  have c76 : (F 76).toNatClampNeg = k := by rw [h76]; exact nI_c _ (by omega)
  have c72 : (F 72).toNatClampNeg = y := by rw [h72]; exact nI_c _ (by omega)
  unfold mf_works mb_works_0
  rw [c76, e]
  refine PP.ix (fun _ => PP.ix (fun _ => PP.ix (fun _ => ?_)))
  rw [if_neg (by decide), if_neg (by decide), if_neg (by decide), if_neg (by decide), if_neg (by decide), if_neg (by decide), if_neg (by decide), if_neg (by decide), if_neg (by decide), if_pos rfl]
  unfold mb_works_554
  refine PP.ix (fun _ => PP.ix (fun _ => ?_))
  show PP (some (1, fup (fup F 72 (F 72 + 1)) 76 (fup F 72 (F 72 + 1) 76 + 1), gup G 71 (F 72).toNatClampNeg (G 71 (F 72 - 1).toNatClampNeg))) _
  refine PP.ret ⟨rfl, fun hy => ?_⟩
  rw [c72, h72, nI_m1 hy (by omega), nI_c (y - 1) (by omega)]
  refine ⟨KX.f rfl (KX.f rfl (KX.g rfl KX.rf)), ?_, ?_, gup_o (by decide)⟩
  · rw [fup_s, fup_n (by decide), h76]; exact nI_t _ (by omega)
  · rw [fup_n (by decide), fup_s, gup_u, nI_t _ (by omega)]
    exact jSk.p1
theorem mq_dr (P : jMp k y F) (e : G 56 k = 18) : PP (mf_works fu F G) (fun r F1 G1 => r = 1 ∧ (1 ≤ y → jMe (k + 1) y 1 [] (G 90) F G F1 G1)) := by
  obtain ⟨h76, h72, k9, y8⟩ := P
  have c76 : (F 76).toNatClampNeg = k := by rw [h76]; exact nI_c _ (by omega)
  have c72 : (F 72).toNatClampNeg = y := by rw [h72]; exact nI_c _ (by omega)
  unfold mf_works mb_works_0
  rw [c76, e]
  refine PP.ix (fun _ => PP.ix (fun _ => PP.ix (fun _ => ?_)))
  rw [if_neg (by decide), if_neg (by decide), if_neg (by decide), if_neg (by decide), if_neg (by decide), if_neg (by decide), if_neg (by decide), if_neg (by decide), if_neg (by decide), if_neg (by decide), if_neg (by decide), if_neg (by decide), if_neg (by decide), if_neg (by decide), if_neg (by decide), if_neg (by decide), if_neg (by decide), if_neg (by decide), if_pos rfl]
  unfold mb_works_650
  show PP (some (1, fup (fup F 72 (F 72 - 1)) 76 (fup F 72 (F 72 - 1) 76 + 1), G)) _
  refine PP.ret ⟨rfl, fun hy => ⟨KX.f rfl (KX.f rfl KX.rf), ?_, ?_, rfl⟩⟩
  · rw [fup_s, fup_n (by decide), h76]; exact nI_t _ (by omega)
  · rw [fup_n (by decide), fup_s, h72, nI_m1 hy (by omega)]
    exact jSk.d hy
theorem mq_tu (P : jMp k y F) (e : G 56 k = 15) : PP (mf_works fu F G) (fun r F1 G1 => (F 78 = 0 ∧ r = 0 ∧ F = F1 ∧ G = G1) ∨ (¬ F 78 = 0 ∧ r = 1 ∧ KX [76, 77, 78] [] F G F1 G1 ∧ F1 76 = nI (k + 1) ∧ F1 78 = F 78 - 1 ∧ F1 77 = F 77 + 1)) := by
  obtain ⟨h76, h72, k9, y8⟩ := P
  have c76 : (F 76).toNatClampNeg = k := by rw [h76]; exact nI_c _ (by omega)
  have c72 : (F 72).toNatClampNeg = y := by rw [h72]; exact nI_c _ (by omega)
  unfold mf_works mb_works_0
  rw [c76, e]
  refine PP.ix (fun _ => PP.ix (fun _ => PP.ix (fun _ => ?_)))
  rw [if_neg (by decide), if_neg (by decide), if_neg (by decide), if_neg (by decide), if_neg (by decide), if_neg (by decide), if_neg (by decide), if_neg (by decide), if_neg (by decide), if_neg (by decide), if_neg (by decide), if_neg (by decide), if_neg (by decide), if_neg (by decide), if_neg (by decide), if_pos rfl]
  unfold mb_works_587
  by_cases c : F 78 = 0
  · rw [if_pos c]
    show PP (some (0, F, G)) _
    exact PP.ret (.inl ⟨c, rfl, rfl, rfl⟩)
  · rw [if_neg c]
    show PP (some (1, fup (fup (fup F 78 (F 78 - 1)) 77 (fup F 78 (F 78 - 1) 77 + 1)) 76 (fup (fup F 78 (F 78 - 1)) 77 (fup F 78 (F 78 - 1) 77 + 1) 76 + 1), G)) _
    refine PP.ret (.inr ⟨c, rfl, KX.f rfl (KX.f rfl (KX.f rfl KX.rf)), ?_, ?_, ?_⟩)
    · rw [fup_s, fup_n (by decide), fup_n (by decide), h76]; exact nI_t _ (by omega)
    · rw [fup_n (by decide), fup_n (by decide), fup_s]
    · rw [fup_n (by decide), fup_s, fup_n (by decide)]
theorem mq_ha (P : jMp k y F) (e : G 56 k = 20) : PP (mf_works fu F G) (fun r F1 G1 => r = 0 ∧ (1 ≤ y → KX [72, 75, 81] [] F G F1 G1 ∧ F1 75 = 4 ∧ F1 81 = G 71 (y - 1))) := by
  obtain ⟨h76, h72, k9, y8⟩ := P
  have c76 : (F 76).toNatClampNeg = k := by rw [h76]; exact nI_c _ (by omega)
  have c72 : (F 72).toNatClampNeg = y := by rw [h72]; exact nI_c _ (by omega)
  unfold mf_works mb_works_0
  rw [c76, e]
  refine PP.ix (fun _ => PP.ix (fun _ => PP.ix (fun _ => ?_)))
  rw [if_neg (by decide), if_neg (by decide), if_neg (by decide), if_neg (by decide), if_neg (by decide), if_neg (by decide), if_neg (by decide), if_neg (by decide), if_neg (by decide), if_neg (by decide), if_neg (by decide), if_neg (by decide), if_neg (by decide), if_neg (by decide), if_neg (by decide), if_neg (by decide), if_neg (by decide), if_neg (by decide), if_neg (by decide), if_neg (by decide), if_pos rfl]
  unfold mb_works_724 mb_works_734 mb_works_739
  refine PP.ix (fun _ => ?_)
  show PP (some (0, fup (fup (fup F 72 (F 72 - 1)) 75 4) 81 (G 71 (fup (fup F 72 (F 72 - 1)) 75 4 72).toNatClampNeg), G)) _
  refine PP.ret ⟨rfl, fun hy => ⟨KX.f rfl (KX.f rfl (KX.f rfl KX.rf)), ?_, ?_⟩⟩
  · rw [fup_n (by decide), fup_s]
  · rw [fup_s, fup_n (by decide), fup_s, h72, nI_m1 hy (by omega), nI_c _ (by omega)]
theorem mq_pu (P : jMp k y F) (e : G 56 k = 19) : PP (mf_works fu F G) (fun r F1 G1 => r = 1 ∧ (1 ≤ y → ∃ Fb : PF, jMe (k + 1) y 1 [] (G 90) F G Fb G ∧ (((2000 : Int) ≤ (F 79).toInt ∧ G1 = G) ∨ ((F 79).toInt < 2000 ∧ vp_in (F 79) 2000 ∧ G1 = gup G 89 (F 79).toNatClampNeg (G 71 (y - 1)))) ∧ ((F 79 = 2147483647 ∧ F1 = Fb) ∨ (¬ F 79 = 2147483647 ∧ F1 79 = F 79 + 1 ∧ KX [79] [] Fb G F1 G)))) := by
  obtain ⟨h76, h72, k9, y8⟩ := P
  have c76 : (F 76).toNatClampNeg = k := by rw [h76]; exact nI_c _ (by omega)
  have c72 : (F 72).toNatClampNeg = y := by rw [h72]; exact nI_c _ (by omega)
  unfold mf_works mb_works_0
  rw [c76, e]
  refine PP.ix (fun _ => PP.ix (fun _ => PP.ix (fun _ => ?_)))
  rw [if_neg (by decide), if_neg (by decide), if_neg (by decide), if_neg (by decide), if_neg (by decide), if_neg (by decide), if_neg (by decide), if_neg (by decide), if_neg (by decide), if_neg (by decide), if_neg (by decide), if_neg (by decide), if_neg (by decide), if_neg (by decide), if_neg (by decide), if_neg (by decide), if_neg (by decide), if_neg (by decide), if_neg (by decide), if_pos rfl]
  have l1 : (2000 : Int32).toInt = 2000 := rfl
  have l2 : (2147483647 : Int32).toInt = 2147483647 := rfl
  have e79 : fup F 72 (F 72 - 1) 79 = F 79 := fup_n (by decide)
  have fin : ∀ G' : PG, (1 ≤ y → (((2000 : Int) ≤ (F 79).toInt ∧ G' = G) ∨ ((F 79).toInt < 2000 ∧ vp_in (F 79) 2000 ∧ G' = gup G 89 (F 79).toNatClampNeg (G 71 (y - 1))))) → PP (mb_works_701 fu (fup F 72 (F 72 - 1)) G') (fun r F1 G1 => r = 1 ∧ (1 ≤ y → ∃ Fb : PF, jMe (k + 1) y 1 [] (G 90) F G Fb G ∧ (((2000 : Int) ≤ (F 79).toInt ∧ G1 = G) ∨ ((F 79).toInt < 2000 ∧ vp_in (F 79) 2000 ∧ G1 = gup G 89 (F 79).toNatClampNeg (G 71 (y - 1)))) ∧ ((F 79 = 2147483647 ∧ F1 = Fb) ∨ (¬ F 79 = 2147483647 ∧ F1 79 = F 79 + 1 ∧ KX [79] [] Fb G F1 G)))) := by
    intro G' hg
    unfold mb_works_701
    rw [e79]
    have := i_rng (F 79)
    have me : 1 ≤ y → jMe (k + 1) y 1 [] (G 90) F G (fup (fup F 72 (F 72 - 1)) 76 (F 76 + 1)) G := by
      intro hy
      refine ⟨KX.f rfl (KX.f rfl KX.rf), ?_, ?_, rfl⟩
      · rw [fup_s, h76]; exact nI_t _ (by omega)
      · rw [fup_n (by decide), fup_s, h72, nI_m1 hy (by omega)]
        exact jSk.d hy
    by_cases c : (2147483647 : Int32) ≤ F 79
    · rw [if_pos c]
      have c := i_le.mp c
      show PP (some (1, fup (fup F 72 (F 72 - 1)) 76 (fup F 72 (F 72 - 1) 76 + 1), G')) _
      rw [fup_n (by decide)]
      exact PP.ret ⟨rfl, fun hy => ⟨_, me hy, hg hy, .inl ⟨i_eq2 (by omega), rfl⟩⟩⟩
    · rw [if_neg c]
      show PP (some (1, fup (fup (fup F 72 (F 72 - 1)) 79 (fup F 72 (F 72 - 1) 79 + 1)) 76 (fup (fup F 72 (F 72 - 1)) 79 (fup F 72 (F 72 - 1) 79 + 1) 76 + 1), G')) _
      rw [e79, fup_n (by decide), fup_n (by decide)]
      refine PP.ret ⟨rfl, fun hy => ⟨_, me hy, hg hy, .inr ⟨fun z => c (by rw [z]; exact i_le.mpr (Int.le_refl _)), ?_, ?_⟩⟩⟩
      · rw [fup_n (by decide), fup_s]
      · refine ⟨fun q hq => ?_, fun _ _ => rfl⟩
        have hq : q ≠ 79 := fun z => by rw [z] at hq; exact absurd hq (by decide)
        unfold fup
        by_cases c1 : q = 76
        · rw [if_pos c1, if_pos c1]
        · rw [if_neg c1, if_neg c1, if_neg hq]
  unfold mb_works_663 mb_works_673
  rw [e79]
  by_cases c : (2000 : Int32) ≤ F 79
  · rw [if_pos c]
    have c := i_le.mp c
    exact fin G (fun _ => .inl ⟨by omega, rfl⟩)
  · rw [if_neg c]
    have c := mt i_le.mpr c
    unfold mb_works_683
    rw [e79]
    refine PP.ix (fun _ => PP.ix (fun hv => ?_))
    refine fin _ (fun hy => .inr ⟨by omega, hv, ?_⟩)
    rw [fup_s, h72, nI_m1 hy (by omega), nI_c _ (by omega)]
end JQ8
