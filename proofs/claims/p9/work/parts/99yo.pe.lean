/-- one formal told: its entry, its cells -/
def FHQ (x1 : Int32) (F : PF) (G : PG) (r : Int32) (F1 : PF) (G1 : PG) : Prop := (r = 0 ∨ r = 1 ∨ r = 2) ∧ (F1 44 = 0 → F 46 = 1 → (x1 = 4 → ¬ F1 47 = 0) ∧ F1 53 = F 53 + (if r = 0 then 1 else 2) ∧ DCL F G (if r = 0 then 1 else 2) (F 53) (if r = 0 then 1 else -1) 1 F1 G1)
theorem gh_formalHere {fu : Nat} (x1 : Int32) (F : PF) (G : PG) : PP (mf_formalHere fu x1 F G) (FHQ x1 F G) := by
  have bad : ∀ (F1 : PF) (G1 : PG), 0 < (F1 44).toInt → FHQ x1 F G 0 F1 G1 := fun F1 G1 z => ⟨Or.inl rfl, fun e => by rw [e] at z; exact absurd z (by decide)⟩
  have rest : ∀ (x2 x3 x4 : Int32) (Fa : PF), KX [42, 43, 44, 45, 47, 48, 49] [] F G Fa G → (F 46 = 1 → x1 = 4 → ¬ Fa 47 = 0) → PP (mb_formalHere_117 fu x2 x3 x4 Fa G) (FHQ x1 F G) := by
    intro x2 x3 x4 Fa K h4
    have e14 : Fa 14 = F 14 := K.1 14 rfl
    have e15 : Fa 15 = F 15 := K.1 15 rfl
    have e53 : Fa 53 = F 53 := K.1 53 rfl
    have e46 : Fa 46 = F 46 := K.1 46 rfl
    have fin : ∀ (r z2 z3 z0 : Int32) (v : Int32) (F2 : PF) (G2 : PG), (KX [14] [16, 17, 18, 19, 20, 21, 22, 23] Fa G F2 G2 ∧ ((Fa 46 = 0 ∧ F2 = Fa ∧ G2 = G) ∨ (¬ Fa 46 = 0 ∧ DCL Fa G z3 (Fa 53) z0 1 F2 G2))) → (r = 0 ∨ r = 1 ∨ r = 2) → z3 = (if r = 0 then 1 else 2) → z0 = (if r = 0 then 1 else -1) → v = (if r = 0 then 1 else 2) → FHQ x1 F G r (fup F2 53 (F2 53 + v)) G2 := by
      intro r z2 z3 z0 v F2 G2 hd hr h3 h0 hv
      refine ⟨hr, fun _ h46 => ⟨fun h => ?_, ?_, ?_⟩⟩
      · show ¬ F2 47 = 0
        rw [hd.1.1 47 rfl]
        exact h4 h46 h
      · show F2 53 + v = _
        rw [hd.1.1 53 rfl, e53, hv]
      · obtain ⟨-, ⟨z, -⟩ | ⟨-, d1, d2, d3, d4, d5, d6, d7, d8⟩⟩ := hd
        · rw [e46, h46] at z
          exact absurd z (by decide)
        · rw [e14] at d1 d2 d3 d4 d5 d6 d7 d8
          rw [e15] at d5
          rw [e53] at d6
          exact ⟨d1, d2, d3, d4.trans h3, d5, d6, d7.trans h0, d8⟩
    unfold mb_formalHere_117
    refine PP.ite (fun c => ?_) (fun c => ?_)
    · unfold mb_formalHere_128 mb_formalHere_129
      rw [if_pos c]
      unfold mb_formalHere_143 mb_formalHere_144
      refine PP.bind (mp_declare x3 1 x2 (Fa 53) 1 1 Fa G) ?_
      intro r F2 G2 hd
      dsimp only
      unfold mb_formalHere_148
      rw [if_pos c]
      unfold mb_formalHere_162 mb_formalHere_163 mb_formalHere_167
      rw [if_pos c]
      unfold mb_formalHere_172 mb_formalHere_185
      exact PP.ret (fin 0 x2 1 1 1 F2 G2 hd (Or.inl rfl) rfl rfl rfl)
    · unfold mb_formalHere_124 mb_formalHere_129
      rw [if_neg c]
      unfold mb_formalHere_139 mb_formalHere_144
      refine PP.bind (mp_declare x3 2 x2 (Fa 53) (-1) 1 Fa G) ?_
      intro r F2 G2 hd
      dsimp only
      unfold mb_formalHere_148
      rw [if_neg c]
      unfold mb_formalHere_158 mb_formalHere_163 mb_formalHere_167
      rw [if_neg c]
      unfold mb_formalHere_176
      refine PP.ite (fun _ => ?_) (fun _ => ?_)
      · unfold mb_formalHere_184 mb_formalHere_185
        exact PP.ret (fin 1 x2 2 (-1) 2 F2 G2 hd (Or.inr (Or.inl rfl)) rfl rfl rfl)
      · unfold mb_formalHere_180 mb_formalHere_185
        exact PP.ret (fin 2 x2 2 (-1) 2 F2 G2 hd (Or.inr (Or.inr rfl)) rfl rfl rfl)
  have main : ∀ x2 : Int32, PP (mb_formalHere_26 fu x1 x2 F G) (FHQ x1 F G) := by
    intro x2
    unfold mb_formalHere_26 mb_formalHere_36
    have K1 : KX [42, 43, 44, 45, 47, 48, 49] [] F G (fup F 42 (F 42 + 1)) G := KX.f rfl KX.rf
    generalize fup F 42 (F 42 + 1) = F1 at K1
    refine PP.bind (mp_name F1 G) ?_
    rintro n F2 G2 (⟨-, rfl, rfl, -⟩ | ⟨rfl, u, -⟩)
    · dsimp only
      have K2 : KX [42, 43, 44, 45, 47, 48, 49] [] F G (fup F1 42 (F1 42 + 1)) G := KX.f rfl K1
      generalize fup F1 42 (F1 42 + 1) = F2 at K2
      unfold mb_formalHere_40
      refine PP.ite (fun _ => ?_) (fun c => ?_)
      · have s72 : ∀ F3 : PF, KX [42, 43, 44, 45, 47, 48, 49] [] F G F3 G → (F 46 = 1 → x1 = 4 → ¬ F3 47 = 0) → PP (mb_formalHere_72 fu x2 n F3 G) (FHQ x1 F G) := by
          intro F3 K3 h3
          have ar : PP (mb_formalHere_85 fu x2 n F3 G) (FHQ x1 F G) := by
            unfold mb_formalHere_85 mb_formalHere_90
            rw [if_neg (by decide)]
            unfold mb_formalHere_97
            refine PP.bind (mp_openSign 24 F3 G) ?_
            rintro r F4 G4 (⟨rfl, rfl, rfl, -⟩ | ⟨rfl, u, -⟩)
            · dsimp only
              unfold mb_formalHere_103
              rw [if_neg (by decide)]
              unfold mb_formalHere_106
              have K4 : KX [42, 43, 44, 45, 47, 48, 49] [] F G (fup (fup F3 43 (F3 43 + 1)) 42 (F3 42 + 1)) G := KX.f rfl (KX.f rfl K3)
              have h4 : F 46 = 1 → x1 = 4 → ¬ (fup (fup F3 43 (F3 43 + 1)) 42 (F3 42 + 1)) 47 = 0 := h3
              generalize fup (fup F3 43 (F3 43 + 1)) 42 (F3 42 + 1) = F4 at K4 h4
              refine PP.bind (mp_closeSign 25 F4 G) ?_
              rintro r F5 G5 (⟨rfl, rfl, rfl, -⟩ | ⟨rfl, u, -⟩)
              · dsimp only
                unfold mb_formalHere_112
                rw [if_neg (by decide)]
                exact rest x2 n 1 _ (KX.f rfl (KX.f rfl K4)) h4
              · dsimp only
                unfold mb_formalHere_112 mb_formalHere_115
                rw [if_pos rfl]
                exact PP.ret (bad _ _ u.1)
            · dsimp only
              unfold mb_formalHere_103 mb_formalHere_115
              rw [if_pos rfl]
              exact PP.ret (bad _ _ u.1)
          unfold mb_formalHere_72
          refine PP.ite (fun _ => ?_) (fun _ => ar)
          unfold mb_formalHere_76
          refine PP.bind (mp_isSign 24 F3 G) ?_
          rintro z _ _ ⟨rfl, rfl, -⟩
          dsimp only
          unfold mb_formalHere_82
          refine PP.ite (fun _ => ?_) (fun _ => ar)
          unfold mb_formalHere_89 mb_formalHere_90
          rw [if_pos rfl]
          exact rest x2 n 0 F3 K3 h3
        unfold mb_formalHere_50
        refine PP.bind (mw_twice n F2 G) ?_
        intro r F3 G3 K3
        dsimp only
        have eg : G3 = G := funext (fun k => K3.2 k rfl)
        rw [eg] at K3 ⊢
        have K4 : KX [42, 43, 44, 45, 47, 48, 49] [] F G F3 G := KX.tr K2 K3 rfl rfl
        unfold mb_formalHere_55
        refine PP.ite (fun _ => ?_) (fun c => s72 F3 K4 (fun _ z => absurd z c))
        unfold mb_formalHere_60
        refine PP.ix (fun _ => PP.bind (mp_note 11 _ (by decide) F3 G) ?_)
        rintro r F5 G5 ⟨K5, rfl, n5, -⟩
        dsimp only
        refine s72 F5 (KX.tr K4 K5 rfl rfl) (fun u _ z => ?_)
        have := n5 (by rw [K4.1 46 rfl, u]; decide)
        rw [z] at this
        exact absurd this (by decide)
      · unfold mb_formalHere_48
        refine PP.ret (bad _ _ ?_)
        have := mt i_le.mpr c
        have z : (0 : Int32).toInt = 0 := rfl
        omega
    · dsimp only
      unfold mb_formalHere_40
      refine PP.ite (fun c => ?_) (fun _ => ?_)
      · have := u.1
        have := i_le.mp c
        have : (0 : Int32).toInt = 0 := rfl
        omega
      · unfold mb_formalHere_48
        exact PP.ret (bad _ _ u.1)
  unfold mf_formalHere mb_formalHere_0
  refine PP.bind (mp_isWord 1 F G) ?_
  rintro z _ _ ⟨rfl, rfl, -⟩
  dsimp only
  unfold mb_formalHere_5
  refine PP.ite (fun _ => ?_) (fun _ => main z)
  unfold mb_formalHere_10
  refine PP.bind (mp_isWord 0 F G) ?_
  rintro y _ _ ⟨rfl, rfl, -⟩
  dsimp only
  unfold mb_formalHere_15
  refine PP.ite (fun _ => ?_) (fun _ => main z)
  unfold mb_formalHere_18
  refine PP.bind (mp_fails 2 (by decide) F G) ?_
  rintro r F1 G1 ⟨-, u⟩
  dsimp only
  unfold mb_formalHere_23
  exact PP.ret (bad _ _ u.1)
/-- no kind of a formal is below 0 -/
def N34 (G : PG) : Prop := ∀ j : Nat, 0 ≤ (G 34 j).toInt
theorem nn_282 {fu : Nat} (f x4 x5 : Int32) (F : PF) (G : PG) (h : N34 G) : PP (mb_function_282 fu f x4 x5 F G) (fun _ _ G1 => N34 G1) := by
  refine PP.mono (mvk_function_282 (F0 := F) (G0 := G) f x4 x5 F G KX.rf) ?_
  intro r F1 G1 K j
  rw [K.2 34 rfl]
  exact h j
theorem nn_177 {fu : Nat} : ∀ (n : Nat) (f x4 x5 x6 : Int32) (F : PF) (G : PG), N34 G → PP (ml_function_177 fu n f x4 x5 x6 F G) (fun _ _ G1 => N34 G1) := by
  intro n
  induction n with
  | zero => intro f x4 x5 x6 F G _; exact PP.no
  | succ n ih =>
    intro f x4 x5 x6 F G h
    show PP (mb_function_177 fu (ml_function_177 fu n) f x4 x5 x6 F G) _
    unfold mb_function_177
    refine PP.ite (fun _ => nn_282 f x4 x5 F G h) (fun _ => ?_)
    unfold mb_function_182
    refine PP.ite (fun _ => ?_) (fun _ => nn_282 f x4 x5 F G h)
    unfold mb_function_189
    refine PP.bind (PP.and (mw_formalHere x5 F G) (gh_formalHere x5 F G)) ?_
    rintro r F1 G1 ⟨K1, hr, -⟩
    dsimp only
    have h1 : N34 G1 := fun j => by rw [K1.2 34 rfl]; exact h j
    unfold mb_function_195
    refine PP.ite (fun _ => ?_) (fun _ => ?_)
    · have go : ∀ (F2 : PF) (G2 : PG), N34 G2 → PP (mb_function_234 fu (ml_function_177 fu n) f x4 x5 r F2 G2) (fun _ _ G1 => N34 G1) := by
        intro F2 G2 h2
        have g2 : ∀ z0, PP (mb_function_246 fu (ml_function_177 fu n) f x5 z0 x4 F2 G2) (fun _ _ G1 => N34 G1) := by
          intro z0
          unfold mb_function_246
          refine PP.bind (mp_isSign 28 F2 G2) ?_
          rintro z _ _ ⟨rfl, rfl, -⟩
          dsimp only
          unfold mb_function_258 mb_function_274 mb_function_270 mb_function_275 mb_function_279
          exact PP.ite (fun _ => ih _ _ _ _ _ _ h2) (fun _ => ih _ _ _ _ _ _ h2)
        unfold mb_function_234 mb_function_241 mb_function_245
        exact PP.ite (fun _ => g2 _) (fun _ => g2 _)
      unfold mb_function_206
      refine PP.ite (fun _ => ?_) (fun _ => go F1 G1 h1)
      unfold mb_function_213
      refine PP.ix (fun _ => ?_)
      unfold mb_function_224
      refine go _ _ (fun j => ?_)
      by_cases e : j = (F1 35).toNatClampNeg
      · rw [e, gup_i]
        rcases hr with rfl | rfl | rfl <;> decide
      · rw [gup_x e]
        exact h1 j
    · unfold mb_function_204
      exact PP.ret h1
theorem nn_function {fu : Nat} (f x2 x3 : Int32) (F : PF) (G : PG) (h : N34 G) : PP (mf_function fu f x2 x3 F G) (fun _ _ G1 => N34 G1) := by
  unfold mf_function mb_function_0 mb_function_5
  refine PP.bind (mw_twice x2 _ G) ?_
  intro r Fa Ga Ka
  dsimp only
  have ha : N34 Ga := fun j => by rw [Ka.2 34 rfl]; exact h j
  have g97 : ∀ (F1 : PF) (G1 : PG), N34 G1 → PP (mb_function_97 fu f F1 G1) (fun _ _ G1 => N34 G1) := by
    intro F1 G1 h1
    unfold mb_function_97 mb_function_102 mb_function_107 mb_function_112 mb_function_117 mb_function_122 mb_function_127
    refine PP.bind (mw_begins _ G1) ?_
    intro r Fb Gb Kb
    dsimp only
    have hb : N34 Gb := fun j => by rw [Kb.2 34 rfl]; exact h1 j
    unfold mb_function_131
    refine PP.bind (mw_openSign 22 Fb Gb) ?_
    intro r Fc Gc Kc
    dsimp only
    have hc : N34 Gc := fun j => by rw [Kc.2 34 rfl]; exact hb j
    unfold mb_function_137 mb_function_140
    refine PP.ite (fun _ => PP.ret hc) (fun _ => ?_)
    unfold mb_function_142
    refine PP.bind (mp_isSign 23 Fc Gc) ?_
    rintro z _ _ ⟨rfl, rfl, -⟩
    dsimp only
    unfold mb_function_154
    refine PP.ite (fun _ => ?_) (fun _ => nn_282 f 4 0 Fc Gc hc)
    unfold mb_function_157 mb_function_164 mb_function_174
    exact PP.ite (fun _ => PP.ix (fun _ => nn_177 _ _ _ _ _ _ _ hc)) (fun _ => nn_177 _ _ _ _ _ _ _ hc)
  have g28 : ∀ (F1 : PF) (G1 : PG), N34 G1 → PP (mb_function_28 fu f x2 x3 F1 G1) (fun _ _ G1 => N34 G1) := by
    intro F1 G1 h1
    unfold mb_function_28
    refine PP.ite (fun _ => ?_) (fun _ => g97 F1 G1 h1)
    unfold mb_function_35 mb_function_47 mb_function_59 mb_function_66 mb_function_76 mb_function_83 mb_function_90
    exact PP.ix (fun _ => PP.ix (fun _ => PP.ix (fun _ => PP.ix (fun _ => PP.ix (fun _ => PP.ix (fun _ => PP.ix (fun _ => PP.ix (fun _ => g97 _ _ h1))))))))
  unfold mb_function_10
  refine PP.ite (fun _ => g28 Fa Ga ha) (fun _ => ?_)
  unfold mb_function_16
  refine PP.ix (fun _ => PP.bind (mp_note 11 _ (by decide) Fa Ga) ?_)
  rintro r Fb Gb ⟨Kb, rfl, -⟩
  dsimp only
  exact g28 Fb Ga ha
/-- where the places of the functions come from -/
theorem n6_function {fu : Nat} (f x2 x3 : Int32) (F : PF) (G : PG) : PP (mf_function fu f x2 x3 F G) (fun _ _ G1 => (∀ k, k ≠ f.toNatClampNeg → G1 26 k = G 26 k) ∧ (¬ F 46 = 0 → G1 26 = G 26) ∧ (F 46 = 0 → G1 26 f.toNatClampNeg = G 6 x2.toNatClampNeg)) := by
  unfold mf_function mb_function_0 mb_function_5
  refine PP.bind (mw_twice x2 _ G) ?_
  intro r Fa Ga Ka
  dsimp only
  have eG : Ga = G := funext (fun k => Ka.2 k rfl)
  have e46 : Fa 46 = F 46 := Ka.1 46 rfl
  rw [eG]
  have g28 : ∀ (F1 : PF), F1 46 = F 46 → PP (mb_function_28 fu f x2 x3 F1 G) (fun _ _ G1 => (∀ k, k ≠ f.toNatClampNeg → G1 26 k = G 26 k) ∧ (¬ F 46 = 0 → G1 26 = G 26) ∧ (F 46 = 0 → G1 26 f.toNatClampNeg = G 6 x2.toNatClampNeg)) := by
    intro F1 e1
    unfold mb_function_28
    refine PP.ite (fun c => ?_) (fun c => ?_)
    · unfold mb_function_35 mb_function_47 mb_function_59 mb_function_66 mb_function_76 mb_function_83 mb_function_90
      refine PP.ix (fun _ => PP.ix (fun _ => PP.ix (fun _ => PP.ix (fun _ => PP.ix (fun _ => PP.ix (fun _ => PP.ix (fun _ => PP.ix (fun _ => PP.mono (gq_97 f _ _) ?_))))))))
      intro r F2 G2 q
      rw [q.2.1.2.1]
      refine ⟨fun k hk => ?_, fun n => absurd (e1.symm.trans c) n, fun _ => ?_⟩
      · exact gup_x (G := gup G 25 f.toNatClampNeg (G 5 x2.toNatClampNeg)) (k := 26) hk
      · exact gup_i (G := gup G 25 f.toNatClampNeg (G 5 x2.toNatClampNeg)) (k := 26)
    · refine PP.mono (gq_97 f F1 G) ?_
      intro r F2 G2 q
      rw [q.2.1.2.1]
      exact ⟨fun _ _ => rfl, fun _ => rfl, fun z => absurd (e1.trans z) c⟩
  unfold mb_function_10
  refine PP.ite (fun _ => g28 Fa e46) (fun _ => ?_)
  unfold mb_function_16
  refine PP.ix (fun _ => PP.bind (mp_note 11 _ (by decide) Fa G) ?_)
  rintro r Fb Gb ⟨Kb, rfl, -⟩
  dsimp only
  exact g28 Fb ((Kb.1 46 rfl).trans e46)
/-- kinds, and the places of the functions -/
def NP (F : PF) (G : PG) : Prop := N34 G ∧ ∀ g : Nat, (g : Int) < (F 24).toInt → 0 ≤ (G 26 g).toInt ∧ (G 26 g).toInt ≤ 4000
