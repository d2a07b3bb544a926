abbrev kvA : List Nat := [14, 15, 35, 42, 43, 44, 45, 47, 48, 49, 50, 51, 52, 53, 54, 55, 60, 62, 63, 64, 65, 66, 70, 72]
abbrev kvB : List Nat := [16, 17, 18, 19, 20, 21, 22, 23, 27, 28, 29, 30, 34, 56, 57, 58, 59, 67, 68, 69, 71]
/-- what is kept of a function's head -/
def HK (f : Int32) (F : PF) (G : PG) (r : Int32) (F1 : PF) (G1 : PG) : Prop := (F1 61 = F 61 ∧ F1 24 = F 24) ∧ (G1 25 = G 25 ∧ G1 26 = G 26 ∧ G1 33 = G 33) ∧ (∀ k, k ≠ f.toNatClampNeg → G1 32 k = G 32 k) ∧ (¬ F 46 = 0 → G1 32 = G 32) ∧ (F 46 = 0 → r = 1 → (G1 32 f.toNatClampNeg = G 32 f.toNatClampNeg ∧ sgn (G 4) (G 5) (F 42 + 1) 23 = true) ∨ G1 32 f.toNatClampNeg = F 42 + 1)
theorem gq_97 {fu : Nat} (f : Int32) (F : PF) (G : PG) : PP (mb_function_97 fu f F G) (HK f F G) := by
  unfold mb_function_97 mb_function_102 mb_function_107 mb_function_112 mb_function_117 mb_function_122 mb_function_127
  have Ka : KX kvA kvB F G (fup (fup (fup (fup (fup (fup F 50 f) 63 (-1)) 64 (-1)) 52 0) 53 0) 51 0) G := KX.f rfl (KX.f rfl (KX.f rfl (KX.f rfl (KX.f rfl (KX.f rfl KX.rf)))))
  have a42 : (fup (fup (fup (fup (fup (fup F 50 f) 63 (-1)) 64 (-1)) 52 0) 53 0) 51 0) 42 = F 42 := rfl
  generalize fup (fup (fup (fup (fup (fup F 50 f) 63 (-1)) 64 (-1)) 52 0) 53 0) 51 0 = Fa at Ka a42
  refine PP.bind (mw_begins Fa G) ?_
  intro r Fb Gb Kb
  dsimp only
  have b42 : Fb 42 = F 42 := (Kb.1 42 rfl).trans a42
  have KB : KX kvA kvB F G Fb Gb := KX.tr Ka Kb rfl rfl
  unfold mb_function_131
  refine PP.bind (PP.and (mw_openSign 22 Fb Gb) (mp_openSign 22 Fb Gb)) ?_
  rintro r Fc Gc ⟨Kc, hr⟩
  dsimp only
  have KC : KX kvA kvB F G Fc Gc := KX.tr KB Kc rfl rfl
  have fin : ∀ (r : Int32) (F1 : PF) (G1 : PG), KX kvA kvB F G F1 G1 → (r = 1 → sgn (G 4) (G 5) (F 42 + 1) 23 = true ∨ ¬ F 46 = 0) → HK f F G r F1 G1 := by
    intro r F1 G1 K1 h
    refine ⟨⟨K1.1 61 rfl, K1.1 24 rfl⟩, ⟨K1.2 25 rfl, K1.2 26 rfl, K1.2 33 rfl⟩, fun k _ => by rw [K1.2 32 rfl], fun _ => K1.2 32 rfl, fun z e => Or.inl ⟨by rw [K1.2 32 rfl], ?_⟩⟩
    rcases h e with h | h
    · exact h
    · exact absurd z h
  unfold mb_function_137
  refine PP.ite (fun c => ?_) (fun c => ?_)
  · unfold mb_function_140
    exact PP.ret (fin _ _ _ KC (fun e => absurd e (by decide)))
  · have c42 : Fc 42 = F 42 + 1 := by
      rcases hr with ⟨-, rfl, -⟩ | ⟨e, -⟩
      · show Fb 42 + 1 = _
        rw [b42]
      · exact absurd e c
    unfold mb_function_142
    refine PP.bind (mp_isSign 23 Fc Gc) ?_
    rintro z Fd Gd ⟨rfl, rfl, hz⟩
    dsimp only
    rw [KC.2 4 rfl, KC.2 5 rfl, c42] at hz
    unfold mb_function_154
    refine PP.ite (fun cz => ?_) (fun cz => ?_)
    · unfold mb_function_157
      refine PP.ite (fun c46 => ?_) (fun c46 => ?_)
      · unfold mb_function_164
        refine PP.ix (fun _ => PP.mono (mvj_function_174 (F0 := Fc) (G0 := gup Gc 32 f.toNatClampNeg (Fc 42)) f 4 0 Fc _ KX.rf) (fun r F1 G1 K1 => ?_))
        refine ⟨⟨(K1.1 61 rfl).trans (KC.1 61 rfl), (K1.1 24 rfl).trans (KC.1 24 rfl)⟩, ⟨(K1.2 25 rfl).trans (KC.2 25 rfl), (K1.2 26 rfl).trans (KC.2 26 rfl), (K1.2 33 rfl).trans (KC.2 33 rfl)⟩, fun k hk => ?_, fun n => absurd ((KC.1 46 rfl).symm.trans c46) n, fun _ _ => Or.inr ?_⟩
        · rw [K1.2 32 rfl, ← KC.2 32 rfl]
          exact gup_x (G := Gc) (k := 32) hk
        · rw [K1.2 32 rfl, ← c42]
          exact gup_i (G := Gc) (k := 32)
      · exact PP.mono (mvj_function_174 f 4 0 Fc Gc KC) (fun r F1 G1 K1 => fin _ _ _ K1 (fun _ => Or.inr (fun z => c46 ((KC.1 46 rfl).trans z))))
    · refine PP.mono (mvj_function_282 f 4 0 Fc Gc KC) (fun r F1 G1 K1 => fin _ _ _ K1 (fun _ => Or.inl ?_))
      rcases hz with ⟨-, s⟩ | ⟨rfl, -⟩
      · exact s
      · exact absurd rfl cz
theorem gq_function {fu : Nat} (f x2 x3 : Int32) (F : PF) (G : PG) : PP (mf_function fu f x2 x3 F G) (fun r F1 G1 => F1 61 = 1 ∧ (∀ k, k ≠ f.toNatClampNeg → G1 32 k = G 32 k ∧ G1 25 k = G 25 k) ∧ (¬ F 46 = 0 → G1 32 = G 32 ∧ G1 25 = G 25) ∧ (F 46 = 0 → G1 25 f.toNatClampNeg = G 5 x2.toNatClampNeg ∧ (r = 1 → (G1 32 f.toNatClampNeg = -1 ∧ sgn (G 4) (G 5) (F 42 + 1) 23 = true) ∨ G1 32 f.toNatClampNeg = F 42 + 1))) := by
  unfold mf_function mb_function_0 mb_function_5
  refine PP.bind (mw_twice x2 (fup F 61 1) G) ?_
  intro r Fa Ga Ka
  dsimp only
  have eG : Ga = G := funext (fun k => Ka.2 k rfl)
  rw [eG] at Ka ⊢
  have go : ∀ Fb : PF, KX [47, 48, 49] [] (fup F 61 1) G Fb G → PP (mb_function_28 fu f x2 x3 Fb G) (fun r F1 G1 => F1 61 = 1 ∧ (∀ k, k ≠ f.toNatClampNeg → G1 32 k = G 32 k ∧ G1 25 k = G 25 k) ∧ (¬ F 46 = 0 → G1 32 = G 32 ∧ G1 25 = G 25) ∧ (F 46 = 0 → G1 25 f.toNatClampNeg = G 5 x2.toNatClampNeg ∧ (r = 1 → (G1 32 f.toNatClampNeg = -1 ∧ sgn (G 4) (G 5) (F 42 + 1) 23 = true) ∨ G1 32 f.toNatClampNeg = F 42 + 1))) := by
    intro Fb Kb
    have b61 : Fb 61 = 1 := Kb.1 61 rfl
    have b46 : Fb 46 = F 46 := Kb.1 46 rfl
    have b42 : Fb 42 = F 42 := Kb.1 42 rfl
    unfold mb_function_28
    refine PP.ite (fun c => ?_) (fun c => ?_)
    · unfold mb_function_35
      refine PP.ix (fun _ => PP.ix (fun _ => ?_))
      unfold mb_function_47
      refine PP.ix (fun _ => PP.ix (fun _ => ?_))
      unfold mb_function_59
      refine PP.ix (fun _ => ?_)
      unfold mb_function_66
      refine PP.ix (fun _ => ?_)
      unfold mb_function_76
      refine PP.ix (fun _ => ?_)
      unfold mb_function_83
      refine PP.ix (fun _ => ?_)
      unfold mb_function_90
      refine PP.mono (gq_97 f _ _) ?_
      rintro r F1 G1 ⟨⟨h1, -⟩, ⟨h25, -, -⟩, h32, -, h0⟩
      have c46 : F 46 = 0 := b46.symm.trans c
      refine ⟨h1.trans b61, fun k hk => ⟨(h32 k hk).trans ?_, ?_⟩, fun n => absurd c46 n, fun _ => ⟨?_, fun e => ?_⟩⟩
      · exact gup_x (G := gup (gup (gup (gup (gup G 25 _ _) 26 _ _) 33 _ _) 31 _ _) 27 _ _) (k := 32) hk
      · rw [h25]
        exact gup_x (G := G) (k := 25) hk
      · rw [h25]
        exact gup_i (G := G) (k := 25)
      · rcases h0 c e with ⟨q1, q2⟩ | q1
        · refine Or.inl ⟨q1.trans ?_, ?_⟩
          · exact gup_i (G := gup (gup (gup (gup (gup G 25 _ _) 26 _ _) 33 _ _) 31 _ _) 27 _ _) (k := 32)
          · have q2 : sgn (G 4) (G 5) (Fb 42 + 1) 23 = true := q2
            rw [b42] at q2
            exact q2
        · refine Or.inr (q1.trans ?_)
          show Fb 42 + 1 = _
          rw [b42]
    · have n46 : ¬ F 46 = 0 := fun z => c (b46.trans z)
      refine PP.mono (gq_97 f Fb G) ?_
      rintro r F1 G1 ⟨⟨h1, -⟩, ⟨h25, -, -⟩, -, h32, -⟩
      exact ⟨h1.trans b61, fun k _ => ⟨by rw [h32 c], by rw [h25]⟩, fun _ => ⟨h32 c, h25⟩, fun z => absurd z n46⟩
  unfold mb_function_10
  refine PP.ite (fun _ => go Fa Ka) (fun _ => ?_)
  unfold mb_function_16
  refine PP.ix (fun _ => PP.bind (mw_note 11 _ Fa G) ?_)
  intro r Fb Gb Kb
  dsimp only
  have eb : Gb = G := funext (fun k => Kb.2 k rfl)
  rw [eb] at Kb ⊢
  exact go Fb (KX.tr Ka Kb rfl rfl)
