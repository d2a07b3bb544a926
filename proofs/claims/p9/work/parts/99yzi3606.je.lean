def jFits (κ b : Int32) : Prop := (b = 19 → κ = 4) ∧ (b = 21 → κ = 2 ∨ κ = 3) ∧ (¬ b = 19 → ¬ b = 21 → κ = 1)
theorem cp_fits {fu : Nat} (κ b : Int32) (F : PF) (G : PG) : PP (cf_X5_fits fu κ b F G) (fun r F' G' => F = F' ∧ G = G' ∧ ((r = 1 ∧ jFits κ b) ∨ (r = 0 ∧ ¬ jFits κ b))) := by
  unfold cf_X5_fits cb_X5_fits_0 cb_X5_fits_6 cb_X5_fits_11 cb_X5_fits_15 cb_X5_fits_16 cb_X5_fits_17 cb_X5_fits_23 cb_X5_fits_28 cb_X5_fits_33 cb_X5_fits_37 cb_X5_fits_41 cb_X5_fits_46 cb_X5_fits_50 cb_X5_fits_51
  refine PP.ite (fun h1 => PP.ite (fun h2 => PP.bz (fun _ => PP.ret ⟨rfl, rfl, .inl ⟨rfl, fun _ => h2, fun z => ?_, fun z => absurd h1 z⟩⟩)) (fun h2 => PP.bz (fun _ => PP.ret ⟨rfl, rfl, .inr ⟨rfl, fun z => h2 (z.1 h1)⟩⟩))) (fun h1 => PP.ite (fun h2 => PP.ite (fun h3 => PP.bz (fun _ => PP.ret ⟨rfl, rfl, .inl ⟨rfl, fun z => absurd z h1, fun _ => .inl h3, fun _ z => absurd h2 z⟩⟩)) (fun h3 => PP.ite (fun h4 => PP.bz (fun _ => PP.ret ⟨rfl, rfl, .inl ⟨rfl, fun z => absurd z h1, fun _ => .inr h4, fun _ z => absurd h2 z⟩⟩)) (fun h4 => PP.bz (fun _ => PP.ret ⟨rfl, rfl, .inr ⟨rfl, fun z => (z.2.1 h2).elim h3 h4⟩⟩)))) (fun h2 => PP.ite (fun h3 => PP.bz (fun _ => PP.ret ⟨rfl, rfl, .inl ⟨rfl, fun z => absurd z h1, fun z => absurd z h2, fun _ _ => h3⟩⟩)) (fun h3 => PP.bz (fun _ => PP.ret ⟨rfl, rfl, .inr ⟨rfl, fun z => h3 (z.2.2 h1 h2)⟩⟩))))
  rw [h1] at z
  exact absurd z (by decide)
theorem cp_meant {fu K c : Nat} (x pl : Int32) {F : PF} {G : PG} (h : F 45 = 1 → jSL K c G ∧ 0 ≤ x.toInt ∧ x.toInt < K) (hp : pl.toInt ≤ 4000) : PP (cf_X5_meant fu x pl F G) (fun r F' G' => G = G' ∧ KX [43, 44, 47] [] F G F' G' ∧ (F 45 = 0 → r = -1 ∧ F = F') ∧ (F 45 = 1 → jLa (G 33) c x r ∧ (r = -1 → (F' 43).toInt ≤ 4000) ∧ (¬ r = -1 → F = F'))) := by
  unfold cf_X5_meant cb_X5_meant_0 cb_X5_meant_7 cb_X5_meant_9
  refine PP.ite (fun q => PP.ret ⟨rfl, KX.rf, fun _ => ⟨rfl, rfl⟩, fun z => ?_⟩) (fun q => ?_)
  · rw [q] at z
    exact absurd z (by decide)
  · by_cases c1 : F 45 = 1
    · obtain ⟨h1, h2, h3⟩ := h c1
      refine PP.bind (cp_known x h1 h2 h3) ?_
      rintro r _ _ ⟨rfl, rfl, hr⟩
      dsimp only
      unfold cb_X5_meant_14 cb_X5_meant_20 cb_X5_meant_26
      refine PP.ite (fun w => PP.bind (cp_note 0 pl (by decide) (by decide) F G) ?_) (fun w => PP.ret ⟨rfl, KX.rf, fun z => absurd z q, fun _ => ⟨hr, fun z => absurd z w, fun _ => rfl⟩⟩)
      rintro r2 F2 G2 ⟨g, k1, k2, k3⟩
      exact PP.ret ⟨g, k1, fun z => absurd z q, fun _ => ⟨hr, fun _ => k3 q hp, fun z => absurd w z⟩⟩
    · intro r F' G' e
      have kx := cw_X5_meant x pl F G r F' G' (by unfold cf_X5_meant cb_X5_meant_0 cb_X5_meant_9; rw [if_neg q]; exact e)
      exact ⟨(funext (fun k => kx.2 k rfl)).symm, kx, fun z => absurd z q, fun z => absurd z c1⟩
theorem cp_gives {fu : Nat} (x : Int32) (F : PF) (G : PG) : PP (cf_X8_gives fu x F G) (fun r F' G' => F = F' ∧ G = G' ∧ ∀ f nf : Nat, (F 74).toInt = nf → nf ≤ 450 → f < nf → x = nI f → ((r = 1 ∧ G 82 f = 1) ∨ (r = 0 ∧ ¬ G 82 f = 1))) := by
  have l0 : (0 : Int32).toInt = 0 := rfl
  unfold cf_X8_gives cb_X8_gives_0 cb_X8_gives_4 cb_X8_gives_12 cb_X8_gives_22 cb_X8_gives_26 cb_X8_gives_27
  have no : (∀ f nf : Nat, (F 74).toInt = nf → nf ≤ 450 → f < nf → ¬ x = nI f) → PP (if b01 0 = true then some (0, F, G) else none) (fun r F' G' => F = F' ∧ G = G' ∧ ∀ f nf : Nat, (F 74).toInt = nf → nf ≤ 450 → f < nf → x = nI f → ((r = 1 ∧ G 82 f = 1) ∨ (r = 0 ∧ ¬ G 82 f = 1))) := fun q => PP.bz (fun _ => PP.ret ⟨rfl, rfl, fun j c c1 c2 j1 j2 => absurd j2 (q j c c1 c2 j1)⟩)
  have ex : ∀ j c : Nat, c ≤ 450 → j < c → x = nI j → x.toNatClampNeg = j := fun j c c2 j1 j2 => by show x.toInt.toNat = j; rw [j2, nI_toInt (by omega)]; omega
  refine PP.ite (fun q => no (fun j c c1 c2 j1 j2 => ?_)) (fun q => PP.ite (fun z => no (fun j c c1 c2 j1 j2 => ?_)) (fun z => PP.ix (fun _ => PP.ite (fun y => PP.bz (fun _ => PP.ret ⟨rfl, rfl, fun j c c1 c2 j1 j2 => ?_⟩)) (fun y => PP.bz (fun _ => PP.ret ⟨rfl, rfl, fun j c c1 c2 j1 j2 => ?_⟩)))))
  · have := i_lt.mp q
    rw [j2, nI_toInt (by omega)] at this
    omega
  · have := i_le.mp z
    rw [j2, nI_toInt (by omega)] at this
    omega
  · rw [ex j c c2 j1 j2] at y
    exact .inl ⟨rfl, y⟩
  · rw [ex j c c2 j1 j2] at y
    exact .inr ⟨rfl, y⟩
theorem cp_has {fu : Nat} (x : Int32) (F : PF) (G : PG) : PP (cf_X8_has fu x F G) (fun r F' G' => F = F' ∧ G = G' ∧ ((r = 1 ∧ 0 ≤ x.toInt ∧ x.toInt < (F 74).toInt) ∨ (r = 0 ∧ ¬ (0 ≤ x.toInt ∧ x.toInt < (F 74).toInt)))) := by
  have l0 : (0 : Int32).toInt = 0 := rfl
  unfold cf_X8_has cb_X8_has_0 cb_X8_has_4 cb_X8_has_12 cb_X8_has_16 cb_X8_has_17
  refine PP.ite (fun q => PP.bz (fun _ => PP.ret ⟨rfl, rfl, .inr ⟨rfl, fun z => ?_⟩⟩)) (fun q => PP.ite (fun z => PP.bz (fun _ => PP.ret ⟨rfl, rfl, .inr ⟨rfl, fun w => ?_⟩⟩)) (fun z => PP.bz (fun _ => PP.ret ⟨rfl, rfl, .inl ⟨rfl, i_ge0 q, ?_⟩⟩)))
  · have := i_lt.mp q
    omega
  · have := i_le.mp z
    omega
  · have := mt i_le.mpr z
    omega
/-- what a formal is -/
theorem cp_formalKind {fu : Nat} (x y : Int32) (F : PF) (G : PG) : PP (cf_X8_formalKind fu x y F G) (fun r F' G' => F = F' ∧ G = G' ∧ ∀ f nf j : Nat, (F 74).toInt = nf → nf ≤ 450 → f < nf → x = nI f → y = nI j → j < 5000 → 0 ≤ (G 83 f).toInt → (G 83 f).toInt + (G 78 f).toInt ≤ 690 → (((j : Int) < (G 78 f).toInt ∧ r = G 84 ((G 83 f).toInt.toNat + j)) ∨ ((G 78 f).toInt ≤ j ∧ r = -1))) := by
  have l0 : (0 : Int32).toInt = 0 := rfl
  have l7 : (700 : Int32).toInt = 700 := rfl
  unfold cf_X8_formalKind cb_X8_formalKind_0
  refine PP.bind (cp_has x F G) ?_
  rintro h _ _ ⟨rfl, rfl, hh⟩
  dsimp only
  unfold cb_X8_formalKind_5 cb_X8_formalKind_8 cb_X8_formalKind_12 cb_X8_formalKind_22
  refine PP.ite (fun c => PP.ret ⟨rfl, rfl, fun f nf j a1 a2 a3 a4 a5 a6 a7 a8 => ?_⟩) (fun c => PP.ite (fun d => PP.ret ⟨rfl, rfl, fun f nf j a1 a2 a3 a4 a5 a6 a7 a8 => ?_⟩) (fun d => PP.ix (fun _ => PP.ite (fun e => ?_) (fun e => PP.ret ⟨rfl, rfl, fun f nf j a1 a2 a3 a4 a5 a6 a7 a8 => ?_⟩))))
  · rcases hh with ⟨z, -⟩ | ⟨-, z⟩
    · rw [c] at z
      exact absurd z (by decide)
    · exfalso
      rw [a4, nI_toInt (by omega)] at z
      omega
  · exfalso
    have := i_lt.mp d
    rw [a5, nI_toInt (by omega)] at this
    omega
  · unfold cb_X8_formalKind_24 cb_X8_formalKind_40 cb_X8_formalKind_49 cb_X8_formalKind_50
    refine PP.ix (fun _ => PP.ite (fun w => PP.ret ⟨rfl, rfl, fun f nf j a1 a2 a3 a4 a5 a6 a7 a8 => ?_⟩) (fun w => PP.ix (fun _ => PP.ret ⟨rfl, rfl, fun f nf j a1 a2 a3 a4 a5 a6 a7 a8 => ?_⟩)))
    all_goals
      have ef : x.toNatClampNeg = f := by show x.toInt.toNat = f; rw [a4, nI_toInt (by omega)]; omega
      have ej : y.toInt = j := by rw [a5, nI_toInt (by omega)]
      rw [ef] at e w
      have e' := i_lt.mp e
      have es : (G 83 f + y).toInt = (G 83 f).toInt + j := i_addn _ ej (by omega) (by omega)
    · exfalso
      have := i_le.mp w
      omega
    · refine .inl ⟨by omega, ?_⟩
      rw [ef, show (G 83 f + y).toNatClampNeg = (G 83 f).toInt.toNat + j by show (G 83 f + y).toInt.toNat = _; omega]
  · have ef : x.toNatClampNeg = f := by show x.toInt.toNat = f; rw [a4, nI_toInt (by omega)]; omega
    have ej : y.toInt = j := by rw [a5, nI_toInt (by omega)]
    rw [ef] at e
    have := mt i_lt.mpr e
    exact .inr ⟨by omega, rfl⟩
/-- whether a name may stand where a value is wanted -/
def jGood (F : PF) (κ b : Int32) (gv : Prop) : Prop := (F 46 = 0 → jFits (if κ = 0 then 1 else κ) b) ∧ (¬ F 46 = 0 → κ = 0 ∧ ¬ b = 19 ∧ ¬ b = 21) ∧ (κ = 4 → gv)
theorem cp_wantQ {fu : Nat} (sym pl b : Int32) {F : PF} {G : PG} {j c : Nat} (h41 : (F 41).toInt = c) (hc : c ≤ 700) (hj : j < c) (hs : sym = nI j) (on : F 45 = 1) (hpl : pl.toInt ≤ 4000) (hk0 : ¬ G 35 j = -1) {gv : Prop} (hg : G 35 j = 4 → ∃ f nf : Nat, (F 74).toInt = nf ∧ nf ≤ 450 ∧ f < nf ∧ G 37 j = nI f ∧ (G 82 f = 1 ↔ gv)) : PP (cf_X5_wantValue fu sym pl b F G) (fun _ F1 _ => (jGood F (G 35 j) b gv → F = F1) ∧ (¬ jGood F (G 35 j) b gv → (F1 43).toInt ≤ 4000)) := by
  have on0 : ¬ F 45 = 0 := by rw [on]; decide
  have ej : sym.toNatClampNeg = j := by show sym.toInt.toNat = j; rw [hs, nI_toInt (by omega)]; omega
  unfold cf_X5_wantValue cb_X5_wantValue_0
  refine PP.bind (cp_kind sym F G) ?_
  rintro κ _ _ ⟨rfl, rfl, -, hk⟩
  have hk := hk j c h41 hc hj hs
  rw [← hk] at hk0 hg ⊢
  dsimp only
  unfold cb_X5_wantValue_5
  rw [if_neg hk0]
  -- behind a note
  have nt : ∀ (k : Int32) (A : PF → PG → PR), 0 ≤ k.toInt → k.toInt < 10 → ¬ jGood F κ b gv → (∀ (F' : PF) (G' : PG), PP (A F' G') (fun _ F1 _ => CFS F' F1)) → PP ((cf_X5_note fu k pl F G).bind (fun q => A q.2.1 q.2.2)) (fun _ F1 _ => (jGood F κ b gv → F = F1) ∧ (¬ jGood F κ b gv → (F1 43).toInt ≤ 4000)) := by
    intro k A k0 k1 ng hA
    refine PP.bind (cp_note k pl k0 k1 F G) ?_
    rintro r F2 G2 ⟨-, -, -, n4⟩
    refine PP.mono (hA F2 G2) (fun _ F3 _ q => ⟨fun z => absurd z ng, fun _ => q.2 (n4 on0 hpl)⟩)
  have b76 : (F 46 = 0 → jFits (if κ = 0 then 1 else κ) b) → (¬ F 46 = 0 → κ = 0 ∧ ¬ b = 19 ∧ ¬ b = 21) → PP (cb_X5_wantValue_76 fu sym pl κ F G) (fun _ F1 _ => (jGood F κ b gv → F = F1) ∧ (¬ jGood F κ b gv → (F1 43).toInt ≤ 4000)) := by
    intro g1 g2
    unfold cb_X5_wantValue_76 cb_X5_wantValue_104
    refine PP.ite (fun z => ?_) (fun z => PP.ret ⟨fun _ => rfl, fun ng => absurd ⟨g1, g2, fun w => absurd w z⟩ ng⟩)
    obtain ⟨f, nf, f1, f2, f3, f4, f5⟩ := hg z
    unfold cb_X5_wantValue_82
    refine PP.ix (fun _ => ?_)
    rw [ej, f4]
    refine PP.bind (cp_gives (nI f) F G) ?_
    rintro r _ _ ⟨rfl, rfl, hr⟩
    dsimp only
    unfold cb_X5_wantValue_95 cb_X5_wantValue_98 cb_X5_wantValue_104
    rcases hr f nf f1 f2 f3 rfl with ⟨r1, r2⟩ | ⟨r1, r2⟩
    · rw [if_neg (by rw [r1]; decide)]
      exact PP.ret ⟨fun _ => rfl, fun ng => absurd ⟨g1, g2, fun _ => f5.mp r2⟩ ng⟩
    · rw [if_pos r1]
      exact nt 5 (fun F' G' => some (0, F', G')) (by decide) (by decide) (fun gd => r2 (f5.mpr (gd.2.2 z))) (fun F' G' => PP.ret CFS.rf)
  have b45 : (¬ F 46 = 0 → κ = 0 ∧ ¬ b = 19 ∧ ¬ b = 21) → PP (cb_X5_wantValue_45 fu sym pl b κ F G) (fun _ F1 _ => (jGood F κ b gv → F = F1) ∧ (¬ jGood F κ b gv → (F1 43).toInt ≤ 4000)) := by
    intro g2
    unfold cb_X5_wantValue_45
    refine PP.ite (fun z => ?_) (fun z => b76 (fun w => absurd w z) g2)
    have go : ∀ x : Int32, x = (if κ = 0 then 1 else κ) → PP (cb_X5_wantValue_63 fu sym pl b κ x F G) (fun _ F1 _ => (jGood F κ b gv → F = F1) ∧ (¬ jGood F κ b gv → (F1 43).toInt ≤ 4000)) := by
      intro x ex
      unfold cb_X5_wantValue_63
      refine PP.bind (cp_fits x b F G) ?_
      rintro r _ _ ⟨rfl, rfl, hr⟩
      dsimp only
      unfold cb_X5_wantValue_67
      rcases hr with ⟨r1, r2⟩ | ⟨r1, r2⟩
      · rw [if_neg (by rw [r1]; decide)]
        exact b76 (fun _ => by rw [← ex]; exact r2) g2
      · rw [if_pos r1]
        unfold cb_X5_wantValue_70
        exact nt 4 (fun F' G' => cb_X5_wantValue_76 fu sym pl κ F' G') (by decide) (by decide) (fun gd => r2 (by rw [ex]; exact gd.1 z)) (fun F' G' => kqj_X5_wantValue_76 sym pl κ F' G' CFS.rf)
    unfold cb_X5_wantValue_52
    refine PP.ite (fun y => ?_) (fun y => ?_)
    · unfold cb_X5_wantValue_57
      exact go 1 (by rw [if_pos y])
    · unfold cb_X5_wantValue_61
      exact go κ (by rw [if_neg y])
  unfold cb_X5_wantValue_14
  refine PP.ite (fun z => b45 (fun w => absurd z w)) (fun z => ?_)
  have b38 : ¬ jGood F κ b gv → PP (cb_X5_wantValue_38 fu sym pl b κ F G) (fun _ F1 _ => (jGood F κ b gv → F = F1) ∧ (¬ jGood F κ b gv → (F1 43).toInt ≤ 4000)) := by
    intro ng
    unfold cb_X5_wantValue_38
    exact nt 7 (fun F' G' => cb_X5_wantValue_45 fu sym pl b κ F' G') (by decide) (by decide) ng (fun F' G' => kqj_X5_wantValue_45 sym pl b κ F' G' CFS.rf)
  unfold cb_X5_wantValue_21
  refine PP.ite (fun y => ?_) (fun y => b38 (fun gd => y (gd.2.1 z).1))
  unfold cb_X5_wantValue_26
  refine PP.ite (fun w => b38 (fun gd => (gd.2.1 z).2.1 w)) (fun w => ?_)
  unfold cb_X5_wantValue_32
  exact PP.ite (fun v => b38 (fun gd => (gd.2.1 z).2.2 v)) (fun v => b45 (fun _ => ⟨y, w, v⟩))
/-- the class writes a value's load -/
theorem cp_load {fu : Nat} (sym : Int32) {F : PF} {G : PG} (rm : jRm 2 F) : PP (cf_X3_load fu sym F G) (fun _ F1 G1 => ∃ a b : Int32, EMC [a, b] F G F1 G1 ∧ ∀ j k : Nat, (F 41).toInt = k → k ≤ 700 → j < k → sym = nI j → a = (if G 35 j = 1 then (if G 34 j = 0 then 69 else 70) else 66) ∧ b = G 37 j) := by
  unfold cf_X3_load cb_X3_load_0
  refine PP.bind (cp_kind sym F G) ?_
  rintro κ _ _ ⟨rfl, rfl, -, hk⟩
  dsimp only
  unfold cb_X3_load_8
  refine PP.ite (fun z => ?_) (fun z => ?_)
  · unfold cb_X3_load_12
    refine PP.bind (cp_isGlobal sym F G) ?_
    rintro g _ _ ⟨rfl, rfl, hg⟩
    dsimp only
    unfold cb_X3_load_24 cb_X3_load_27 cb_X3_load_32
    have on : ∀ a : Int32, (∀ j k : Nat, (F 41).toInt = k → k ≤ 700 → j < k → sym = nI j → a = (if G 35 j = 1 then (if G 34 j = 0 then 69 else 70) else 66)) → PP (cb_X3_load_34 fu sym a F G) (fun _ F1 G1 => ∃ a b : Int32, EMC [a, b] F G F1 G1 ∧ ∀ j k : Nat, (F 41).toInt = k → k ≤ 700 → j < k → sym = nI j → a = (if G 35 j = 1 then (if G 34 j = 0 then 69 else 70) else 66) ∧ b = G 37 j) := by
      intro a ha
      unfold cb_X3_load_34
      refine PP.bind (cp_value sym F G) ?_
      rintro b _ _ ⟨rfl, rfl, hb⟩
      dsimp only
      unfold cb_X3_load_42 cb_X3_load_45 cb_X3_load_65
      exact PP.bind (cp_wpair a b G rm) (fun _ F1 G1 e => PP.ret ⟨a, b, e, fun j k a1 a2 a3 a4 => ⟨ha j k a1 a2 a3 a4, hb j k a1 a2 a3 a4⟩⟩)
    refine PP.ite (fun y => on 70 (fun j k a1 a2 a3 a4 => ?_)) (fun y => on 69 (fun j k a1 a2 a3 a4 => ?_))
    · rw [if_pos ((hk j k a1 a2 a3 a4).symm.trans z)]
      rcases hg j k a1 a2 a3 a4 with ⟨w, -⟩ | ⟨-, w⟩
      · rw [y] at w
        exact absurd w (by decide)
      · rw [if_neg w]
    · rw [if_pos ((hk j k a1 a2 a3 a4).symm.trans z)]
      rcases hg j k a1 a2 a3 a4 with ⟨-, w⟩ | ⟨w, -⟩
      · rw [if_pos w]
      · exact absurd w y
  · unfold cb_X3_load_48
    refine PP.bind (cp_value sym F G) ?_
    rintro b _ _ ⟨rfl, rfl, hb⟩
    dsimp only
    unfold cb_X3_load_62 cb_X3_load_65
    refine PP.bind (cp_wpair 66 b G rm) (fun _ F1 G1 e => PP.ret ⟨66, b, e, fun j k a1 a2 a3 a4 => ⟨?_, hb j k a1 a2 a3 a4⟩⟩)
    rw [if_neg (fun w => z ((hk j k a1 a2 a3 a4).trans w))]
theorem cp_store {fu : Nat} (sym : Int32) {F : PF} {G : PG} (rm : jRm 2 F) : PP (cf_X3_store fu sym F G) (fun _ F1 G1 => ∃ a b : Int32, EMC [a, b] F G F1 G1 ∧ ∀ j k : Nat, (F 41).toInt = k → k ≤ 700 → j < k → sym = nI j → a = (if G 34 j = 0 then 71 else 72) ∧ b = G 37 j) := by
  unfold cf_X3_store cb_X3_store_0
  refine PP.bind (cp_isGlobal sym F G) ?_
  rintro g _ _ ⟨rfl, rfl, hg⟩
  dsimp only
  unfold cb_X3_store_12 cb_X3_store_15 cb_X3_store_20
  have on : ∀ a : Int32, (∀ j k : Nat, (F 41).toInt = k → k ≤ 700 → j < k → sym = nI j → a = (if G 34 j = 0 then 71 else 72)) → PP (cb_X3_store_22 fu sym a F G) (fun _ F1 G1 => ∃ a b : Int32, EMC [a, b] F G F1 G1 ∧ ∀ j k : Nat, (F 41).toInt = k → k ≤ 700 → j < k → sym = nI j → a = (if G 34 j = 0 then 71 else 72) ∧ b = G 37 j) := by
    intro a ha
    unfold cb_X3_store_22
    refine PP.bind (cp_value sym F G) ?_
    rintro b _ _ ⟨rfl, rfl, hb⟩
    dsimp only
    unfold cb_X3_store_30 cb_X3_store_33
    exact PP.bind (cp_wpair a b G rm) (fun _ F1 G1 e => PP.ret ⟨a, b, e, fun j k a1 a2 a3 a4 => ⟨ha j k a1 a2 a3 a4, hb j k a1 a2 a3 a4⟩⟩)
  refine PP.ite (fun y => on 72 (fun j k a1 a2 a3 a4 => ?_)) (fun y => on 71 (fun j k a1 a2 a3 a4 => ?_))
  · rcases hg j k a1 a2 a3 a4 with ⟨w, -⟩ | ⟨-, w⟩
    · rw [y] at w
      exact absurd w (by decide)
    · rw [if_neg w]
  · rcases hg j k a1 a2 a3 a4 with ⟨-, w⟩ | ⟨w, -⟩
    · rw [if_pos w]
    · exact absurd w y
theorem cp_fetch {fu : Nat} (sym : Int32) {F : PF} {G : PG} (rm : jRm 1 F) : PP (cf_X3_fetch fu sym F G) (fun _ F1 G1 => ∃ a : Int32, EMC [a] F G F1 G1 ∧ ∀ j k : Nat, (F 41).toInt = k → k ≤ 700 → j < k → sym = nI j → a = (if G 35 j = 3 then 78 else 77)) := by
  unfold cf_X3_fetch cb_X3_fetch_0
  refine PP.bind (cp_kind sym F G) ?_
  rintro κ _ _ ⟨rfl, rfl, -, hk⟩
  dsimp only
  unfold cb_X3_fetch_12 cb_X3_fetch_16 cb_X3_fetch_21 cb_X3_fetch_23 cb_X3_fetch_26
  refine PP.ite (fun z => PP.bind (cp_wadd 78 G rm) (fun _ F1 G1 e => PP.ret ⟨78, e, fun j k a1 a2 a3 a4 => ?_⟩)) (fun z => PP.bind (cp_wadd 77 G rm) (fun _ F1 G1 e => PP.ret ⟨77, e, fun j k a1 a2 a3 a4 => ?_⟩))
  · rw [if_pos ((hk j k a1 a2 a3 a4).symm.trans z)]
  · rw [if_neg (fun w => z ((hk j k a1 a2 a3 a4).trans w))]
theorem cp_keep {fu : Nat} (sym : Int32) {F : PF} {G : PG} (rm : jRm 1 F) : PP (cf_X3_keep fu sym F G) (fun _ F1 G1 => ∃ a : Int32, EMC [a] F G F1 G1 ∧ ∀ j k : Nat, (F 41).toInt = k → k ≤ 700 → j < k → sym = nI j → a = (if G 35 j = 3 then 80 else 79)) := by
  unfold cf_X3_keep cb_X3_keep_0
  refine PP.bind (cp_kind sym F G) ?_
  rintro κ _ _ ⟨rfl, rfl, -, hk⟩
  dsimp only
  unfold cb_X3_keep_12 cb_X3_keep_16 cb_X3_keep_21 cb_X3_keep_23 cb_X3_keep_26
  refine PP.ite (fun z => PP.bind (cp_wadd 80 G rm) (fun _ F1 G1 e => PP.ret ⟨80, e, fun j k a1 a2 a3 a4 => ?_⟩)) (fun z => PP.bind (cp_wadd 79 G rm) (fun _ F1 G1 e => PP.ret ⟨79, e, fun j k a1 a2 a3 a4 => ?_⟩))
  · rw [if_pos ((hk j k a1 a2 a3 a4).symm.trans z)]
  · rw [if_neg (fun w => z ((hk j k a1 a2 a3 a4).trans w))]
