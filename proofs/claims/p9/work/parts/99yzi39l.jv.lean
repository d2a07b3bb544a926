abbrev jXh : List Nat := [41, 42, 48, 49, 50, 74, 76]
abbrev jYh : List Nat := [33, 34, 35, 36, 37, 38, 39, 40, 77, 78, 79, 80, 81, 82, 83]
abbrev jZh : List Nat := [15, 24, 50, 51, 52, 53, 61, 63, 64]
abbrev jWh : List Nat := [25, 26, 27, 31, 32, 33]
/-- the class behind a function's head, in the first pass -/
def jHc (K q q' f : Nat) (cid pl gv : Int32) (Fa : PF) (Ga : PG) (F3 : PF) (G3 : PG) : Prop :=
  KX jXh jYh Fa Ga F3 G3 ∧ ((F3 74).toInt = (f : Int) + 1 ∧ (G3 77 f = pl ∧ G3 78 f = 0 ∧ G3 82 f = gv ∧ G3 83 f = Fa 85) ∧ ∀ y : Nat, y ≠ f → G3 77 y = Ga 77 y ∧ G3 78 y = Ga 78 y ∧ G3 82 y = Ga 82 y ∧ G3 83 y = Ga 83 y) ∧ (F3 42 = 1 ∧ F3 48 = gv ∧ F3 49 = 0 ∧ F3 50 = 0) ∧
  ((F3 41).toInt = q' ∧ jSL K q' G3 ∧ (∀ j : Nat, j < q → G3 33 j = Ga 33 j ∧ G3 34 j = Ga 34 j ∧ G3 35 j = Ga 35 j ∧ G3 36 j = Ga 36 j ∧ G3 37 j = Ga 37 j) ∧ ((q' = q ∧ ∃ j : Nat, j < q ∧ Ga 33 j = cid) ∨ (q' = q + 1 ∧ (∀ j : Nat, j < q → ¬ Ga 33 j = cid) ∧ G3 33 q = cid ∧ G3 34 q = 0 ∧ G3 35 q = 4 ∧ G3 36 q = pl ∧ G3 37 q = nI f))) ∧
  F3 76 = if cid = Fa 27 ∧ Fa 76 = -1 then nI f else Fa 76
/-- the reference behind a function's head, in the first pass -/
def jHm (f n0 : Nat) (xv : Int32) (Fb : PF) (Gb : PG) (F4 : PF) (G4 : PG) : Prop :=
  KX jZh jWh Fb Gb F4 G4 ∧ (F4 15 = Fb 15 + 1 ∧ F4 24 = nI f + 1 ∧ F4 50 = nI f ∧ F4 51 = 0) ∧ (G4 25 f = Gb 5 n0 ∧ G4 26 f = Gb 6 n0 ∧ G4 33 f = vp_nar .boolean xv ∧ G4 31 f = Fb 35 ∧ G4 27 f = 0 ∧ G4 32 f = -1) ∧ ∀ y : Nat, y ≠ f → G4 25 y = Gb 25 y ∧ G4 26 y = Gb 26 y ∧ G4 27 y = Gb 27 y ∧ G4 31 y = Gb 31 y ∧ G4 32 y = Gb 32 y ∧ G4 33 y = Gb 33 y
section JVL
variable {fu : Nat} {X : JCX} {N K n q q' nf t f n0 : Nat} {φ : Nat → Nat} {cid pl gv xv x1 x2 x3 : Int32} {F Fa Fb F1 F2 F3 F4 : PF} {G Ga Gb G1 G2 G3 G4 : PG} {a : PR} {g kc : Int32 × PF × PG → PR} {Q : Int32 → PF → PG → Int32 → PF → PG → Prop}
theorem cp_addFunction (h74 : (F 74).toInt = f) (hf : f < 450) (hx : x2 = 0 ∨ x2 = 1) : PP (cf_X8_addFunction fu x1 x2 F G) (fun _ F1 G1 => KX [74] [77, 78, 79, 80, 81, 82, 83] F G F1 G1 ∧ (F1 74).toInt = (f : Int) + 1 ∧ (G1 77 f = x1 ∧ G1 78 f = 0 ∧ G1 82 f = x2 ∧ G1 83 f = F 85) ∧ ∀ y : Nat, y ≠ f → G1 77 y = G 77 y ∧ G1 78 y = G 78 y ∧ G1 82 y = G 82 y ∧ G1 83 y = G 83 y) := by
  have l4 : (450 : Int32).toInt = 450 := rfl
  have en : (F 74).toNatClampNeg = f := by
    show (F 74).toInt.toNat = f
    omega
  have et : ∀ G' : PG, cf_X11_truth fu x2 F G' = some (x2, F, G') := by
    intro G'
    rcases hx with z | z <;> rw [z] <;> rfl
  unfold cf_X8_addFunction cb_X8_addFunction_0
  rw [if_neg (fun z => by have := i_le.mp z; omega)]
  unfold cb_X8_addFunction_10
  refine PP.ix (fun _ => ?_)
  unfold cb_X8_addFunction_20
  rw [et, en]
  show PP (cb_X8_addFunction_32 fu x2 (F 74) F (gup G 77 f x1)) _
  unfold cb_X8_addFunction_32
  rw [en]
  refine PP.ix (fun _ => ?_)
  unfold cb_X8_addFunction_33
  rw [en]
  refine PP.ix (fun _ => ?_)
  unfold cb_X8_addFunction_46
  rw [en]
  refine PP.ix (fun _ => ?_)
  unfold cb_X8_addFunction_56
  rw [en]
  refine PP.ix (fun _ => ?_)
  unfold cb_X8_addFunction_66
  rw [en]
  refine PP.ix (fun _ => ?_)
  unfold cb_X8_addFunction_76
  rw [en]
  refine PP.ix (fun _ => ?_)
  unfold cb_X8_addFunction_86 cb_X8_addFunction_96
  refine PP.ret ⟨KX.f rfl (KX.g rfl (KX.g rfl (KX.g rfl (KX.g rfl (KX.g rfl (KX.g rfl (KX.g rfl KX.rf))))))), ?_, ⟨?_, ?_, ?_, ?_⟩, fun y hy => ⟨?_, ?_, ?_, ?_⟩⟩
  · rw [fup_s, i_addn (m := 1) _ rfl (by omega) (by omega), h74]
  · rw [gup_o (by decide), gup_o (by decide), gup_o (by decide), gup_o (by decide), gup_o (by decide), gup_o (by decide), gup_i]
  · rw [gup_o (by decide), gup_o (by decide), gup_o (by decide), gup_i]
  · rw [gup_o (by decide), gup_o (by decide), gup_o (by decide), gup_o (by decide), gup_o (by decide), gup_i]
  · rw [gup_o (by decide), gup_o (by decide), gup_o (by decide), gup_o (by decide), gup_i]
  · rw [gup_o (by decide), gup_o (by decide), gup_o (by decide), gup_o (by decide), gup_o (by decide), gup_o (by decide), gup_x hy]
  · rw [gup_o (by decide), gup_o (by decide), gup_o (by decide), gup_x hy, gup_o (by decide), gup_o (by decide), gup_o (by decide)]
  · rw [gup_o (by decide), gup_o (by decide), gup_o (by decide), gup_o (by decide), gup_o (by decide), gup_x hy, gup_o (by decide)]
  · rw [gup_o (by decide), gup_o (by decide), gup_o (by decide), gup_o (by decide), gup_x hy, gup_o (by decide), gup_o (by decide)]
theorem cp_announce (SL : jSL K q G) (h41 : (F 41).toInt = q) (hq : q < 700) (i0 : 0 ≤ cid.toInt) (i1 : cid.toInt < K) : PP (cf_X5_announce fu cid pl x3 F G) (fun _ F1 G1 => (F = F1 ∧ G = G1 ∧ ∃ j : Nat, j < q ∧ G 33 j = cid) ∨ ((∀ j : Nat, j < q → ¬ G 33 j = cid) ∧ jIns q cid pl 4 x3 0 F G F1 G1)) := by
  have K8 := SL.1
  unfold cf_X5_announce cb_X5_announce_0
  refine PP.bind (cp_known cid SL i0 i1) ?_
  rintro r _ _ ⟨rfl, rfl, la⟩
  dsimp only
  unfold cb_X5_announce_5
  rcases la with ⟨e, no⟩ | ⟨j, j1, j2, j3, -⟩
  · rw [if_pos e]
    unfold cb_X5_announce_9
    refine PP.bind (cp_install cid pl 4 x3 0 h41 hq i0 (by omega)) ?_
    intro r1 F1 G1 w
    exact PP.ret (.inr ⟨no, w⟩)
  · rw [if_neg (by rw [j2]; exact nI_n1 (by omega))]
    exact PP.ret (.inl ⟨rfl, rfl, j, j1, j3⟩)
theorem cp_st78 (hf : f < 450) (hgv : gv = 0 ∨ gv = 1) (h28 : F 28 = nI f) (h74 : (F 74).toInt = (f : Int) + 1) (h42 : F 42 = 0) : PP (cb_X4_startFunction_78 fu gv F G) (fun _ F3 G3 => KX [42, 48, 49, 50] [80] F G F3 G3 ∧ F3 42 = 1 ∧ F3 48 = gv ∧ F3 49 = 0 ∧ F3 50 = 0) := by
  have fI : (nI f).toInt = f := nI_toInt (by omega)
  have l0 : (0 : Int32).toInt = 0 := rfl
  have eh : cf_X8_has fu (F 28) F G = some (1, F, G) := by
    unfold cf_X8_has cb_X8_has_0
    rw [h28, if_neg (fun y => by have := i_lt.mp y; omega)]
    unfold cb_X8_has_4
    rw [if_neg (fun y => by have := i_le.mp y; omega)]
    rfl
  unfold cb_X4_startFunction_78
  rw [eh]
  show PP (cb_X4_startFunction_89 fu gv 1 F G) _
  unfold cb_X4_startFunction_89
  rw [if_neg i10n]
  unfold cb_X4_startFunction_92
  refine PP.ix (fun _ => ?_)
  unfold cb_X4_startFunction_111 cf_X5_enterFunction cb_X5_enterFunction_0
  have gb : b01 gv = true := by
    rcases hgv with y | y <;> rw [y] <;> rfl
  rw [if_pos gb]
  unfold cb_X5_enterFunction_5 cb_X5_enterFunction_10 cb_X5_enterFunction_15 cf_X5_enter cb_X5_enter_0 cb_X5_enter_10
  refine PP.ret ⟨KX.f rfl (KX.f rfl (KX.f rfl (KX.f rfl (KX.g rfl KX.rf)))), ?_, rfl, rfl, rfl⟩
  show fup (fup (fup (fup F 48 gv) 49 0) 50 0) 42 (fup (fup (fup F 48 gv) 49 0) 50 0 42 + 1) 42 = 1
  rw [fup_s, fup_n (by decide), fup_n (by decide), fup_n (by decide), h42]
  decide
theorem cp_st48 (hf : f < 450) (hgv : gv = 0 ∨ gv = 1) (h28 : F 28 = nI f) (h74 : (F 74).toInt = (f : Int) + 1) (h42 : F 42 = 0) : PP (cb_X4_startFunction_48 fu cid gv F G) (fun _ F3 G3 => KX [42, 48, 49, 50, 76] [80] F G F3 G3 ∧ (F3 42 = 1 ∧ F3 48 = gv ∧ F3 49 = 0 ∧ F3 50 = 0) ∧ F3 76 = if cid = F 27 ∧ F 76 = -1 then nI f else F 76) := by
  have no : ¬ (cid = F 27 ∧ F 76 = -1) → PP (cb_X4_startFunction_78 fu gv F G) (fun _ F3 G3 => KX [42, 48, 49, 50, 76] [80] F G F3 G3 ∧ (F3 42 = 1 ∧ F3 48 = gv ∧ F3 49 = 0 ∧ F3 50 = 0) ∧ F3 76 = if cid = F 27 ∧ F 76 = -1 then nI f else F 76) := by
    intro c
    rw [if_neg c]
    exact PP.mono (cp_st78 hf hgv h28 h74 h42) (fun _ F3 G3 w => ⟨KX.tr KX.rf w.1 rfl rfl, w.2, w.1.1 76 rfl⟩)
  unfold cb_X4_startFunction_48
  by_cases c1 : cid = F 27
  · rw [if_pos c1]
    unfold cb_X4_startFunction_56
    by_cases c2 : F 76 = -1
    · rw [if_pos c2, if_pos ⟨c1, c2⟩]
      unfold cb_X4_startFunction_67
      refine PP.mono (cp_st78 (F := fup F 76 (F 28)) hf hgv ?_ ?_ ?_) (fun _ F3 G3 w => ⟨KX.tr (KX.f rfl KX.rf) w.1 rfl rfl, w.2, ?_⟩)
      · rw [fup_n (by decide)]; exact h28
      · rw [fup_n (by decide)]; exact h74
      · rw [fup_n (by decide)]; exact h42
      · rw [w.1.1 76 rfl, fup_s]; exact h28
    · rw [if_neg c2]
      exact no (fun y => c2 y.2)
  · rw [if_neg c1]
    exact no (fun y => c1 y.1)
/-- a function's head, the class, first pass -/
theorem cp_start0 (SL : jSL K q Ga) (h41 : (Fa 41).toInt = q) (hq : q ≤ f) (i0 : 0 ≤ cid.toInt) (i1 : cid.toInt < K) (h74 : (Fa 74).toInt = f) (hf : f < 450) (hgv : gv = 0 ∨ gv = 1) (h28 : Fa 28 = nI f) (h42 : Fa 42 = 0) (h45 : Fa 45 = 0) : PP (cf_X4_startFunction fu cid pl gv Fa Ga) (fun _ F3 G3 => ∃ q' : Nat, jHc K q q' f cid pl gv Fa Ga F3 G3) := by
  unfold cf_X4_startFunction cb_X4_startFunction_0
  rw [if_pos h45]
  unfold cb_X4_startFunction_26
  refine PP.bind (cp_addFunction h74 hf hgv) ?_
  rintro r F1 G1 ⟨k1, e74, ⟨r1, r2, r3, r4⟩, rr⟩
  dsimp only
  have SL1 : jSL K q G1 := by
    unfold jSL at SL ⊢
    rw [k1.2 33 rfl, k1.2 39 rfl, k1.2 40 rfl]
    exact SL
  unfold cb_X4_startFunction_35
  refine PP.bind (cp_announce (q := q) SL1 (by rw [k1.1 41 rfl]; exact h41) (by omega) i0 i1) ?_
  rintro r' F2 G2 hw
  dsimp only
  have kk : KX [41] [33, 34, 35, 36, 37, 38, 39, 40] F1 G1 F2 G2 := by
    rcases hw with ⟨rfl, rfl, -⟩ | ⟨-, w⟩
    · exact KX.rf
    · exact w.1
  refine PP.mono (cp_st48 (f := f) hf hgv (by rw [kk.1 28 rfl, k1.1 28 rfl]; exact h28) (by rw [kk.1 74 rfl]; exact e74) (by rw [kk.1 42 rfl, k1.1 42 rfl]; exact h42)) ?_
  rintro r3' F3 G3 ⟨k3, e4, e76⟩
  have g : ∀ z : Nat, G3 77 z = G1 77 z ∧ G3 78 z = G1 78 z ∧ G3 82 z = G1 82 z ∧ G3 83 z = G1 83 z := fun z => by
    rw [k3.2 77 rfl, k3.2 78 rfl, k3.2 82 rfl, k3.2 83 rfl, kk.2 77 rfl, kk.2 78 rfl, kk.2 82 rfl, kk.2 83 rfl]
    exact ⟨rfl, rfl, rfl, rfl⟩
  have a1 : KX jXh jYh Fa Ga F3 G3 := KX.tr (KX.tr (KX.tr KX.rf k1 rfl rfl) kk rfl rfl) k3 rfl rfl
  have a2 : (F3 74).toInt = (f : Int) + 1 := by rw [k3.1 74 rfl, kk.1 74 rfl]; exact e74
  have a3 : G3 77 f = pl ∧ G3 78 f = 0 ∧ G3 82 f = gv ∧ G3 83 f = Fa 85 := by
    obtain ⟨g1, g2, g3, g4⟩ := g f
    rw [g1, g2, g3, g4]
    exact ⟨r1, r2, r3, r4⟩
  have a4 : ∀ y : Nat, y ≠ f → G3 77 y = Ga 77 y ∧ G3 78 y = Ga 78 y ∧ G3 82 y = Ga 82 y ∧ G3 83 y = Ga 83 y := fun y hy => by
    obtain ⟨g1, g2, g3, g4⟩ := g y
    rw [g1, g2, g3, g4]
    exact rr y hy
  have a5 : F3 76 = if cid = Fa 27 ∧ Fa 76 = -1 then nI f else Fa 76 := by
    rw [e76, kk.1 27 rfl, kk.1 76 rfl, k1.1 27 rfl, k1.1 76 rfl]
  rcases hw with ⟨rfl, rfl, j, j1, j2⟩ | ⟨no, w⟩
  · refine ⟨q, a1, ⟨a2, a3, a4⟩, e4, ⟨?_, ?_, fun y hy => ?_, .inl ⟨rfl, j, j1, ?_⟩⟩, a5⟩
    · rw [k3.1 41 rfl, k1.1 41 rfl]; exact h41
    · unfold jSL at SL1 ⊢
      rw [k3.2 33 rfl, k3.2 39 rfl, k3.2 40 rfl]
      exact SL1
    · rw [k3.2 33 rfl, k3.2 34 rfl, k3.2 35 rfl, k3.2 36 rfl, k3.2 37 rfl, k1.2 33 rfl, k1.2 34 rfl, k1.2 35 rfl, k1.2 36 rfl, k1.2 37 rfl]
      exact ⟨rfl, rfl, rfl, rfl, rfl⟩
    · rw [← k1.2 33 rfl]; exact j2
  · obtain ⟨-, w2, w3, ⟨w4, w5, w6, w7, w8, w9, w10⟩, w11, w12⟩ := w
    have SL2 : jSL K (q + 1) G2 := SL1.psh i0 (fun y hy => (w3 y (by omega)).1) w4 (fun y hy => (w3 y (by omega)).2.2.2.2.2.2) w10 w12 w11 i1
    refine ⟨q + 1, a1, ⟨a2, a3, a4⟩, e4, ⟨?_, ?_, fun y hy => ?_, .inr ⟨rfl, fun y hy => ?_, ?_, ?_, ?_, ?_, ?_⟩⟩, a5⟩
    · rw [k3.1 41 rfl]; exact w2
    · unfold jSL at SL2 ⊢
      rw [k3.2 33 rfl, k3.2 39 rfl, k3.2 40 rfl]
      exact SL2
    · obtain ⟨v1, v2, v3, v4, v5, -⟩ := w3 y (by omega)
      rw [k3.2 33 rfl, k3.2 34 rfl, k3.2 35 rfl, k3.2 36 rfl, k3.2 37 rfl, v1, v2, v3, v4, v5, k1.2 33 rfl, k1.2 34 rfl, k1.2 35 rfl, k1.2 36 rfl, k1.2 37 rfl]
      exact ⟨rfl, rfl, rfl, rfl, rfl⟩
    · rw [← k1.2 33 rfl]; exact no y hy
    · rw [k3.2 33 rfl]; exact w4
    · rw [k3.2 34 rfl, w5, k1.1 42 rfl]; exact h42
    · rw [k3.2 35 rfl]; exact w6
    · rw [k3.2 36 rfl]; exact w7
    · rw [k3.2 37 rfl, w8, k1.1 28 rfl]; exact h28
/-- a function's head, the reference, first pass -/
theorem mh_fun0 (hf : f < 450) (hn : n0 ≤ 4000) (h46 : Fb 46 = 0) (H : ∀ (F4 : PF) (G4 : PG), jHm f n0 xv Fb Gb F4 G4 → JP a ((mb_function_131 fu (nI f) F4 G4).bind g) Q) : JP a ((mf_function fu (nI f) (nI n0) xv Fb Gb).bind g) Q := by
  have fI : (nI f).toNatClampNeg = f := nI_c _ (by omega)
  have x3n : (nI n0).toNatClampNeg = n0 := nI_c _ (by omega)
  have s46 : fup Fb 61 1 46 = 0 := by rw [fup_n (by decide)]; exact h46
  have m28 : JP a ((mb_function_28 fu (nI f) (nI n0) xv (fup Fb 61 1) Gb).bind g) Q := by
    unfold mb_function_28
    rw [if_pos s46]
    unfold mb_function_35
    rw [fI, x3n]
    refine JP.ixRR (fun _ => JP.ixRR (fun _ => ?_))
    unfold mb_function_47
    rw [fI, x3n]
    refine JP.ixRR (fun _ => JP.ixRR (fun _ => ?_))
    unfold mb_function_59
    rw [fI]
    refine JP.ixRR (fun _ => ?_)
    unfold mb_function_66
    rw [fI]
    refine JP.ixRR (fun _ => ?_)
    unfold mb_function_76
    rw [fI]
    refine JP.ixRR (fun _ => ?_)
    unfold mb_function_83
    rw [fI]
    refine JP.ixRR (fun _ => ?_)
    unfold mb_function_90 mb_function_97 mb_function_102 mb_function_107 mb_function_112 mb_function_117 mb_function_122 mb_function_127 mf_begins mb_begins_0 mb_begins_10
    dsimp only [Option.bind]
    refine H _ _ ⟨KX.f rfl (KX.f rfl (KX.f rfl (KX.f rfl (KX.f rfl (KX.f rfl (KX.f rfl (KX.f rfl (KX.f rfl (KX.g rfl (KX.g rfl (KX.g rfl (KX.g rfl (KX.g rfl (KX.g rfl KX.rf)))))))))))))), ⟨?_, rfl, rfl, rfl⟩, ⟨?_, ?_, ?_, ?_, ?_, ?_⟩, fun y hy => ⟨?_, ?_, ?_, ?_, ?_, ?_⟩⟩
    · rw [fup_s, fup_n (by decide), fup_n (by decide), fup_n (by decide), fup_n (by decide), fup_n (by decide), fup_n (by decide), fup_n (by decide), fup_n (by decide)]
    · rw [gup_o (by decide), gup_o (by decide), gup_o (by decide), gup_o (by decide), gup_o (by decide), gup_i]
    · rw [gup_o (by decide), gup_o (by decide), gup_o (by decide), gup_o (by decide), gup_i, gup_o (by decide)]
    · rw [gup_o (by decide), gup_o (by decide), gup_o (by decide), gup_i]
    · rw [gup_o (by decide), gup_o (by decide), gup_i, fup_n (by decide)]
    · rw [gup_o (by decide), gup_i]
    · rw [gup_i]
    · rw [gup_o (by decide), gup_o (by decide), gup_o (by decide), gup_o (by decide), gup_o (by decide), gup_x hy]
    · rw [gup_o (by decide), gup_o (by decide), gup_o (by decide), gup_o (by decide), gup_x hy, gup_o (by decide)]
    · rw [gup_o (by decide), gup_x hy, gup_o (by decide), gup_o (by decide), gup_o (by decide), gup_o (by decide)]
    · rw [gup_o (by decide), gup_o (by decide), gup_x hy, gup_o (by decide), gup_o (by decide), gup_o (by decide)]
    · rw [gup_x hy, gup_o (by decide), gup_o (by decide), gup_o (by decide), gup_o (by decide), gup_o (by decide)]
    · rw [gup_o (by decide), gup_o (by decide), gup_o (by decide), gup_x hy, gup_o (by decide), gup_o (by decide)]
  unfold mf_function mb_function_0 mb_function_5
  refine JP.RR (mp_twice0 s46) ?_
  rintro r F G ⟨rfl, rfl⟩
  dsimp only
  unfold mb_function_10
  by_cases c : nI f < 40
  · rw [if_pos c]
    exact m28
  · rw [if_neg c]
    unfold mb_function_16
    refine JP.ixRR (fun _ => ?_)
    refine JP.RR (mp_n0 s46 (by decide)) ?_
    rintro r F G ⟨rfl, rfl⟩
    exact m28
/-- a function begins, in the first pass -/
theorem jGs.fun0 (T : jGs X 0 N K n q nf t (n0 + 1) f φ Fa Ga Fb Gb) (hcl : jHc K q q' f cid pl gv Fa Ga F3 G3) (hm : jHm f n0 xv Fb Gb F4 G4) (hc : cid = Gb 5 n0) (hpl : pl = Gb 6 n0) (i0 : 0 ≤ cid.toInt) (i1 : cid.toInt < K) (hph : ∀ y : Nat, y < f → φ y < n0) (n0N : n0 < N) : jV X 0 N K n q' (f + 1) t (n0 + 1) F3 G3 F4 G4 ∧ jSA K q' (f + 1) F3 G3 F4 G4 ∧ q' ≤ f + 1 := by
  obtain ⟨⟨S, D, R⟩, ⟨a1, a2, a3, a4⟩, ⟨b1, b2, b3⟩, ⟨c1, c2⟩, PO, t0, -⟩ := T
  obtain ⟨enf, ⟨y1, y1'⟩, SA, SL, FT, -⟩ := t0 rfl
  subst enf
  have S' := S
  obtain ⟨h1, h2, h3, h4, h5, h6⟩ := S
  have z0 : (0 : Int32).toInt = 0 := rfl
  have z1 : (1 : Int32).toInt = 1 := rfl
  have f4 := FT.2.1
  obtain ⟨kc, -, ⟨e42, e48, e49, e50⟩, ⟨e41, -, old, new⟩, -⟩ := hcl
  obtain ⟨km, ⟨e15, e24, m50, m51⟩, ⟨r25, r26, -⟩, rr⟩ := hm
  obtain ⟨A1, A2, A3, A4, A5⟩ := SA
  have qq : q' ≤ nf + 1 := by
    rcases new with ⟨e, -⟩ | ⟨e, -⟩ <;> omega
  have f15 : F4 15 = 1 := by
    rw [e15, b3]
    decide
  have SA1 : jSA K q' (nf + 1) F3 G3 F4 G4 := by
    refine ⟨?_, fun g hg => ?_, fun a b hab hb => ?_, fun j hj => ?_, fun g hg => ?_⟩
    · rw [e24, nI_s nf (by omega), nI_toInt (by omega)]
    · by_cases y : g = nf
      · rw [y, r25, ← hc]
        exact ⟨i0, i1⟩
      · rw [(rr g y).1]
        exact A2 g (by omega)
    · by_cases y : b = nf
      · rw [y, r26, (rr a (by omega)).2.1, (PO.1 a (by omega)).2.1.2]
        exact S'.inc (hph a (by omega)) (by omega)
      · rw [(rr a (by omega)).2.1, (rr b y).2.1]
        exact A3 a b hab (by omega)
    · by_cases y : j < q
      · obtain ⟨o1, o2, o3, o4, o5⟩ := old j y
        obtain ⟨v1, v2, f', v3, v4, v5, v6, v7⟩ := A4 j y
        rw [o1, o2, o3, o4, o5]
        refine ⟨v1, v2, f', by omega, v4, ?_, ?_, fun g hg => ?_⟩
        · rw [(rr f' (by omega)).1]; exact v5
        · rw [(rr f' (by omega)).2.1]; exact v6
        · rw [(rr f' (by omega)).1, (rr g (by omega)).1]; exact v7 g hg
      · rcases new with ⟨e, -⟩ | ⟨e, no, w1, w2, w3, w4, w5⟩
        · omega
        · have : j = q := by omega
          subst this
          refine ⟨w3, w2, nf, by omega, w5, ?_, ?_, fun g hg z => ?_⟩
          · rw [w1, r25]; exact hc
          · rw [w4, r26]; exact hpl
          · rw [r25, (rr g (by omega)).1, ← hc] at z
            obtain ⟨jj, j1, j2⟩ := A5 g hg
            exact no jj j1 (j2.trans z)
    · by_cases y : g = nf
      · rw [y, r25, ← hc]
        rcases new with ⟨e, jj, j1, j2⟩ | ⟨e, no, w1, -⟩
        · exact ⟨jj, by omega, by rw [(old jj j1).1]; exact j2⟩
        · exact ⟨q, by omega, w1⟩
      · obtain ⟨jj, j1, j2⟩ := A5 g (by omega)
        refine ⟨jj, ?_, ?_⟩
        · rcases new with ⟨e, -⟩ | ⟨e, -⟩ <;> omega
        · rw [(old jj j1).1, (rr g y).1]; exact j2
  refine ⟨⟨⟨⟨h1.keep (kc.1 93 rfl) (kc.2 90 rfl) (kc.2 91 rfl) (kc.2 92 rfl) (km.1 7 rfl) (km.1 8 rfl) (km.2 4 rfl) (km.2 5 rfl) (km.2 6 rfl), h2, ?_, ?_, ?_, fun z => absurd z (by decide)⟩, ?_, ?_⟩, ⟨⟨a1, ?_, a4.kx kc rfl⟩, ?_, ?_, fun _ => ⟨⟨?_, ?_⟩, fun j hj => ?_⟩, fun z => absurd z (by decide)⟩⟩, SA1, qq⟩
  · rw [km.1 46 rfl, kc.1 45 rfl, kc.1 7 rfl]; exact h3
  · rw [km.1 54 rfl, kc.1 46 rfl]; exact h4
  · rw [km.1 54 rfl]; exact h5
  · unfold jD CU at D ⊢
    rw [kc.1 9 rfl, kc.1 10 rfl, kc.1 11 rfl, kc.1 12 rfl, kc.1 13 rfl, kc.1 14 rfl, kc.1 43 rfl, kc.1 47 rfl, kc.1 21 rfl, kc.1 6 rfl, km.1 42 rfl, km.1 43 rfl, km.1 44 rfl, km.1 47 rfl, km.1 60 rfl, km.1 70 rfl, kc.2 90 rfl, kc.2 91 rfl, kc.2 92 rfl, km.2 6 rfl]
    exact D
  · rw [kc.1 6 rfl, km.2 6 rfl]; exact R
  · rw [km.1 54 rfl]; exact a3
  · rw [kc.1 29 rfl, m51, b1, z0]
    exact ⟨rfl, by omega, by omega⟩
  · rw [e42, f15, z1]
    exact ⟨rfl, by omega, by omega⟩
  · rw [e41]; omega
  · rw [e41]; omega
  · rw [e41] at hj
    exact (SA1.2.2.2.1 j (by omega)).2.1
end JVL
