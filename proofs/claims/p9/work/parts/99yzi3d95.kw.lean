/-- the words that the first c FORMALs from s on take -/
def jW1 (G : PG) (s : Nat) : Nat → Nat
  | 0 => 0
  | c + 1 => jW1 G s c + (if G 84 (s + c) = 1 then 1 else 2)
theorem jW1.cg {G G1 : PG} {s : Nat} : ∀ c : Nat, (∀ j : Nat, j < c → G1 84 (s + j) = G 84 (s + j)) → jW1 G1 s c = jW1 G s c := by
  intro c
  induction c with
  | zero => intro _; rfl
  | succ c ih =>
    intro h
    unfold jW1
    rw [ih (fun j hj => h j (by omega)), h c (by omega)]
theorem jW1.le {G : PG} {s : Nat} : ∀ c : Nat, jW1 G s c ≤ 2 * c := by
  intro c
  induction c with
  | zero => exact Nat.le_refl _
  | succ c ih =>
    unfold jW1
    split <;> omega
/-- formalWords of each function are what its FORMALs take -/
def jFW (F : PF) (G : PG) : Prop := (0 ≤ (F 74).toInt ∧ (F 74).toInt ≤ 450) ∧ (0 ≤ (F 85).toInt ∧ (F 85).toInt ≤ 700) ∧ ∀ f : Nat, (f : Int) < (F 74).toInt → ∃ s c : Nat, G 83 f = nI s ∧ G 78 f = nI c ∧ ((s + c : Nat) : Int) ≤ (F 85).toInt ∧ ((f : Int) + 1 = (F 74).toInt → ((s + c : Nat) : Int) = (F 85).toInt) ∧ G 81 f = nI (jW1 G s c)
def CWS (F : PF) (G : PG) (F1 : PF) (G1 : PG) : Prop := jFW F G → jFW F1 G1
theorem CWS.rf {F : PF} {G : PG} : CWS F G F G := id
theorem CWS.tr {F F1 F2 : PF} {G G1 G2 : PG} (h : CWS F G F1 G1) (h1 : CWS F1 G1 F2 G2) : CWS F G F2 G2 := fun q => h1 (h q)
theorem jFW.k {F F1 : PF} {G G1 : PG} (h : jFW F G) (e74 : F1 74 = F 74) (e85 : F1 85 = F 85) (e78 : G1 78 = G 78) (e81 : G1 81 = G 81) (e83 : G1 83 = G 83) (e84 : G1 84 = G 84) : jFW F1 G1 := by
  unfold jFW
  rw [e74, e85, e78, e81, e83]
  refine ⟨h.1, h.2.1, fun f hf => ?_⟩
  obtain ⟨s, c, a1, a2, a3, a4, a5⟩ := h.2.2 f hf
  exact ⟨s, c, a1, a2, a3, a4, by rw [a5]; exact congrArg nI (jW1.cg (G := G) (G1 := G1) c (fun j _ => by rw [e84])).symm⟩
theorem CWS.f {F F1 : PF} {G G1 : PG} {k : Nat} {x : Int32} (e : (k == 74 || k == 85) = false) (h : CWS F G F1 G1) : CWS F G (fup F1 k x) G1 := by
  have e1 : 74 ≠ k := fun q => by rw [← q] at e; cases e
  have e2 : 85 ≠ k := fun q => by rw [← q] at e; cases e
  exact fun q => (h q).k (fup_n e1) (fup_n e2) rfl rfl rfl rfl
theorem CWS.g {F F1 : PF} {G G1 : PG} {k i : Nat} {x : Int32} (e : (k == 78 || k == 81 || k == 83 || k == 84) = false) (h : CWS F G F1 G1) : CWS F G F1 (gup G1 k i x) := by
  have e1 : 78 ≠ k := fun q => by rw [← q] at e; cases e
  have e2 : 81 ≠ k := fun q => by rw [← q] at e; cases e
  have e3 : 83 ≠ k := fun q => by rw [← q] at e; cases e
  have e4 : 84 ≠ k := fun q => by rw [← q] at e; cases e
  exact fun q => (h q).k rfl rfl (gup_o e1) (gup_o e2) (gup_o e3) (gup_o e4)
theorem CWS.gc {F F1 : PF} {G G1 : PG} {k k0 : Nat} (e : (k == 78 || k == 81 || k == 83 || k == 84) = false) (h : CWS F G F1 G1) : CWS F G F1 (gcp G1 k0 k) := by
  have e1 : 78 ≠ k := fun q => by rw [← q] at e; cases e
  have e2 : 81 ≠ k := fun q => by rw [← q] at e; cases e
  have e3 : 83 ≠ k := fun q => by rw [← q] at e; cases e
  have e4 : 84 ≠ k := fun q => by rw [← q] at e; cases e
  exact fun q => (h q).k rfl rfl (if_neg e1) (if_neg e2) (if_neg e3) (if_neg e4)
theorem CWS.k {F F1 : PF} {G G1 : PG} {a b : List Nat} (h : KX a b F G F1 G1) (e : (a.contains 74 || a.contains 85 || b.contains 78 || b.contains 81 || b.contains 83 || b.contains 84) = false) : CWS F G F1 G1 := by
  simp only [Bool.or_eq_false_iff] at e
  obtain ⟨⟨⟨⟨⟨e1, e2⟩, e3⟩, e4⟩, e5⟩, e6⟩ := e
  exact fun q => q.k (h.1 74 e1) (h.1 85 e2) (h.2 78 e3) (h.2 81 e4) (h.2 83 e5) (h.2 84 e6)
theorem kw_X8_clear {fu : Nat} (F : PF) (G : PG) : PP (cf_X8_clear fu F G) (fun _ F' G' => CWS F G F' G') := by
  unfold cf_X8_clear cb_X8_clear_0 cb_X8_clear_5 cb_X8_clear_10 cb_X8_clear_15 cb_X8_clear_20 cb_X8_clear_25
  refine PP.bind (cw_fill_86 _ _ G) ?_
  intro r F1 G1 k
  refine PP.ret (fun _ => ?_)
  have l0 : (0 : Int32).toInt = 0 := rfl
  have e74 : F1 74 = 0 := by rw [k.1 74 rfl, fup_n (by decide), fup_n (by decide), fup_n (by decide), fup_s]
  have e85 : F1 85 = 0 := by rw [k.1 85 rfl, fup_s]
  show jFW F1 G1
  unfold jFW
  rw [e74, e85]
  exact ⟨by omega, by omega, fun f hf => by omega⟩
theorem kw_X8_addFunction {fu : Nat} (x1 x2 : Int32) (F : PF) (G : PG) : PP (cf_X8_addFunction fu x1 x2 F G) (fun _ F' G' => CWS F G F' G') := by
  unfold cf_X8_addFunction cb_X8_addFunction_0 cb_X8_addFunction_96
  refine PP.ite (fun _ => PP.ret CWS.rf) (fun c => ?_)
  have c := mt i_le.mpr c
  have l4 : (450 : Int32).toInt = 450 := rfl
  unfold cb_X8_addFunction_10
  refine PP.ix (fun _ => ?_)
  unfold cb_X8_addFunction_20
  refine PP.bind (cw_X11_truth x2 F _) ?_
  intro r F1 G1 k
  dsimp only
  unfold cb_X8_addFunction_32
  refine PP.ix (fun _ => ?_)
  unfold cb_X8_addFunction_33
  refine PP.ix (fun _ => ?_)
  unfold cb_X8_addFunction_46
  refine PP.ix (fun _ => ?_)
  unfold cb_X8_addFunction_56
  refine PP.ix (fun _ => ?_)
  unfold cb_X8_addFunction_66
  refine PP.ix (fun _ => ?_)
  unfold cb_X8_addFunction_76
  refine PP.ix (fun _ => ?_)
  unfold cb_X8_addFunction_86 cb_X8_addFunction_96
  refine PP.ret (fun q => ?_)
  have e74 : F1 74 = F 74 := k.1 74 rfl
  have e85 : F1 85 = F 85 := k.1 85 rfl
  obtain ⟨⟨q1, q1'⟩, ⟨q2, q2'⟩, q3⟩ := q
  have n74 : (F 74 + 1).toInt = (F 74).toInt + 1 := i_addn _ rfl (by omega) (by omega)
  have c74 : ((F 74).toNatClampNeg : Int) = (F 74).toInt := nN_of q1
  rw [e74]
  refine ⟨⟨by rw [fup_s]; omega, by rw [fup_s]; omega⟩, ⟨by rw [fup_n (by decide), e85]; exact q2, by rw [fup_n (by decide), e85]; exact q2'⟩, fun f hf => ?_⟩
  rw [fup_s] at hf ⊢
  rw [fup_n (by decide), e85]
  by_cases z : f = (F 74).toNatClampNeg
  · refine ⟨(F 85).toInt.toNat, 0, ?_, ?_, by omega, fun _ => by omega, ?_⟩
    · rw [gup_o (by decide), gup_o (by decide), gup_o (by decide), gup_o (by decide), z, gup_i]
      exact (jnI q2).symm
    · rw [gup_o (by decide), gup_o (by decide), gup_o (by decide), z, gup_i]
      rfl
    · rw [gup_o (by decide), gup_o (by decide), z, gup_i]
      rfl
  · obtain ⟨s, m, a1, a2, a3, a4, a5⟩ := q3 f (by omega)
    refine ⟨s, m, ?_, ?_, a3, fun w => by omega, ?_⟩
    · rw [gup_o (by decide), gup_o (by decide), gup_o (by decide), gup_o (by decide), gup_x z, gup_o (by decide), k.2 83 rfl, gup_o (by decide)]
      exact a1
    · rw [gup_o (by decide), gup_o (by decide), gup_o (by decide), gup_x z, gup_o (by decide), gup_o (by decide), k.2 78 rfl, gup_o (by decide)]
      exact a2
    · rw [gup_o (by decide), gup_o (by decide), gup_x z, gup_o (by decide), gup_o (by decide), gup_o (by decide), k.2 81 rfl, gup_o (by decide), a5]
      refine congrArg nI (jW1.cg m (fun j _ => ?_)).symm
      rw [gup_o (by decide), gup_o (by decide), gup_o (by decide), gup_o (by decide), gup_o (by decide), gup_o (by decide), k.2 84 rfl, gup_o (by decide)]
theorem kw_X8_addFormal {fu : Nat} (x1 : Int32) (F : PF) (G : PG) : PP (cf_X8_addFormal fu x1 F G) (fun _ F' G' => CWS F G F' G') := by
  unfold cf_X8_addFormal cb_X8_addFormal_0 cb_X8_addFormal_82
  refine PP.ite (fun _ => PP.ret CWS.rf) (fun c => ?_)
  have c := mt i_le.mpr c
  have l4 : (700 : Int32).toInt = 700 := rfl
  have l0 : (0 : Int32).toInt = 0 := rfl
  unfold cb_X8_addFormal_10
  refine PP.bind (Q1 := fun r F1 G1 => F = F1 ∧ G = G1 ∧ (¬ r = 0 → 0 < (F 74).toInt ∨ (F 74).toInt < 0 ∨ 450 < (F 74).toInt)) ?_ ?_
  · unfold cf_X8_has cb_X8_has_0 cb_X8_has_16 cb_X8_has_17
    refine PP.ite (fun c => PP.bz (fun _ => PP.ret ⟨rfl, rfl, fun z => absurd rfl z⟩)) (fun c => ?_)
    unfold cb_X8_has_4 cb_X8_has_16 cb_X8_has_12 cb_X8_has_17
    refine PP.ite (fun _ => PP.bz (fun _ => PP.ret ⟨rfl, rfl, fun z => absurd rfl z⟩)) (fun _ => PP.bz (fun _ => PP.ret ⟨rfl, rfl, fun _ => ?_⟩))
    have c := mt i_lt.mpr c
    obtain ⟨q, w1, w2, w3⟩ := i_sub (F 74) 1
    have l1 : (1 : Int32).toInt = 1 := rfl
    omega
  rintro r _ _ ⟨rfl, rfl, hr⟩
  dsimp only
  unfold cb_X8_addFormal_20 cb_X8_addFormal_82
  refine PP.ite (fun _ => PP.ret CWS.rf) (fun r0 => ?_)
  have hr := hr r0
  unfold cb_X8_addFormal_23
  refine PP.ix (fun _ => ?_)
  unfold cb_X8_addFormal_33 cb_X8_addFormal_43
  refine PP.ix (fun _ => PP.ix (fun _ => ?_))
  unfold cb_X8_addFormal_58
  refine PP.ix (fun _ => ?_)
  have f74 : fup F 85 (F 85 + 1) 74 = F 74 := fup_n (by decide)
  have f85 : fup F 85 (F 85 + 1) 85 = F 85 + 1 := fup_s
  rw [f74]
  have fin : ∀ v : Int32, v = (if x1 = 1 then 1 else 2) → PP (cb_X8_addFormal_80 fu v (gup (gup G 84 (F 85).toNatClampNeg x1) 78 (F 74 - 1).toNatClampNeg ((gup G 84 (F 85).toNatClampNeg x1) 78 (F 74 - 1).toNatClampNeg + 1) 81 (F 74 - 1).toNatClampNeg) (F 74 - 1) (fup F 85 (F 85 + 1)) (gup (gup G 84 (F 85).toNatClampNeg x1) 78 (F 74 - 1).toNatClampNeg ((gup G 84 (F 85).toNatClampNeg x1) 78 (F 74 - 1).toNatClampNeg + 1))) (fun _ F' G' => CWS F G F' G') := by
    intro v hv
    unfold cb_X8_addFormal_80 cb_X8_addFormal_82
    refine PP.ix (fun _ => PP.ret (fun q => ?_))
    obtain ⟨⟨q1, q1'⟩, ⟨q2, q2'⟩, q3⟩ := q
    have n85 : (F 85 + 1).toInt = (F 85).toInt + 1 := i_addn _ rfl (by omega) (by omega)
    have n74 : (F 74 - 1).toInt = (F 74).toInt - 1 := i_subn _ rfl (by omega) (by omega)
    have c74 : ((F 74 - 1).toNatClampNeg : Int) = (F 74).toInt - 1 := by rw [← n74]; exact nN_of (by omega)
    have c85 : ((F 85).toNatClampNeg : Int) = (F 85).toInt := nN_of q2
    generalize hg : (F 74 - 1).toNatClampNeg = g at c74
    generalize he : (F 85).toNatClampNeg = e at c85
    refine ⟨⟨by rw [f74]; exact q1, by rw [f74]; exact q1'⟩, ⟨by rw [f85]; omega, by rw [f85]; omega⟩, fun f hf => ?_⟩
    rw [f74] at hf ⊢
    rw [f85]
    obtain ⟨s, m, a1, a2, a3, a4, a5⟩ := q3 f hf
    have w84 : ∀ j : Nat, j < m → gup (gup (gup G 84 e x1) 78 g ((gup G 84 e x1) 78 g + 1)) 81 g (gup (gup G 84 e x1) 78 g ((gup G 84 e x1) 78 g + 1) 81 g + v) 84 (s + j) = G 84 (s + j) := fun j hj => by
      rw [gup_o (by decide), gup_o (by decide), gup_x (by omega)]
    have mle := jW1.le (G := G) (s := s) m
    by_cases z : f = g
    · have a4 := a4 (by omega)
      subst z
      have wc := jW1.cg (G := G) m w84
      refine ⟨s, m + 1, ?_, ?_, by omega, fun _ => by omega, ?_⟩
      · rw [gup_o (by decide), gup_o (by decide), gup_o (by decide)]; exact a1
      · rw [gup_o (by decide), gup_i, gup_o (by decide), a2]
        exact nI_t m (by omega)
      · have e84 : gup (gup (gup G 84 e x1) 78 f ((gup G 84 e x1) 78 f + 1)) 81 f (gup (gup G 84 e x1) 78 f ((gup G 84 e x1) 78 f + 1) 81 f + v) 84 (s + m) = x1 := by
          rw [gup_o (by decide), gup_o (by decide), show s + m = e by omega, gup_i]
        have e81 : gup (gup (gup G 84 e x1) 78 f ((gup G 84 e x1) 78 f + 1)) 81 f (gup (gup G 84 e x1) 78 f ((gup G 84 e x1) 78 f + 1) 81 f + v) 81 f = nI (jW1 G s m) + v := by
          rw [gup_i, gup_o (by decide), gup_o (by decide), a5]
        show _ = nI (jW1 _ s m + (if _ = 1 then 1 else 2))
        rw [e81, wc, e84, hv]
        by_cases cx : x1 = 1
        · rw [if_pos cx, if_pos cx]
          exact nI_t _ (by omega)
        · rw [if_neg cx, if_neg cx]
          exact nI_ad (b := 2) (by omega)
    · refine ⟨s, m, ?_, ?_, by omega, fun w => by omega, ?_⟩
      · rw [gup_o (by decide), gup_o (by decide), gup_o (by decide)]; exact a1
      · rw [gup_o (by decide), gup_x z, gup_o (by decide)]; exact a2
      · rw [gup_x z, gup_o (by decide), gup_o (by decide), a5]
        exact congrArg nI (jW1.cg (G := G) m w84).symm
  by_cases cx : x1 = 1
  · rw [if_pos cx]
    unfold cb_X8_addFormal_75
    exact fin 1 (by rw [if_pos cx])
  · rw [if_neg cx]
    unfold cb_X8_addFormal_79
    exact fin 2 (by rw [if_neg cx])
theorem kwj_X4_clear_27 {fu : Nat} {F0 : PF} {G0 : PG} (F : PF) (G : PG) (hK : CWS F0 G0 F G) : PP (cb_X4_clear_27 fu F G) (fun _ F' G' => CWS F0 G0 F' G') := by
  unfold cb_X4_clear_27
  refine PP.ret ?_
  exact hK
theorem kwj_X4_clear_19 {fu : Nat} {F0 : PF} {G0 : PG} (F : PF) (G : PG) (hK : CWS F0 G0 F G) : PP (cb_X4_clear_19 fu F G) (fun _ F' G' => CWS F0 G0 F' G') := by
  unfold cb_X4_clear_19
  exact kwj_X4_clear_27 (fup F 6 (0 : Int32)) G (CWS.f (k := 6) rfl hK)
theorem kwj_X4_clear_12 {fu : Nat} {F0 : PF} {G0 : PG} (F : PF) (G : PG) (hK : CWS F0 G0 F G) : PP (cb_X4_clear_12 fu F G) (fun _ F' G' => CWS F0 G0 F' G') := by
  unfold cb_X4_clear_12
  refine PP.bind (cw_X5_clear F G) ?_
  intro r1 F1 G1 hK1
  dsimp only
  exact kwj_X4_clear_19 F1 G1 (CWS.tr hK (CWS.k hK1 rfl))
theorem kwj_X4_clear_5 {fu : Nat} {F0 : PF} {G0 : PG} (F : PF) (G : PG) (hK : CWS F0 G0 F G) : PP (cb_X4_clear_5 fu F G) (fun _ F' G' => CWS F0 G0 F' G') := by
  unfold cb_X4_clear_5
  refine PP.bind (kw_X8_clear F G) ?_
  intro r1 F1 G1 hK1
  dsimp only
  exact kwj_X4_clear_12 F1 G1 (CWS.tr hK hK1)
theorem kw_X4_clear {fu : Nat} (x1 : Int32) (F : PF) (G : PG) : PP (cf_X4_clear fu x1 F G) (fun _ F' G' => CWS F G F' G') := by
  unfold cf_X4_clear
  unfold cb_X4_clear_0
  exact kwj_X4_clear_5 (fup F 27 x1) G (CWS.f (k := 27) rfl CWS.rf)
theorem kwj_X4_formal_152 {fu : Nat} {F0 : PF} {G0 : PG} (F : PF) (G : PG) (hK : CWS F0 G0 F G) : PP (cb_X4_formal_152 fu F G) (fun _ F' G' => CWS F0 G0 F' G') := by
  unfold cb_X4_formal_152
  refine PP.ret ?_
  exact hK
theorem kwj_X4_formal_143 {fu : Nat} {F0 : PF} {G0 : PG} (x6 : Int32) (F : PF) (G : PG) (hK : CWS F0 G0 F G) : PP (cb_X4_formal_143 fu x6 F G) (fun _ F' G' => CWS F0 G0 F' G') := by
  unfold cb_X4_formal_143
  refine PP.bind (kw_X8_addFormal x6 F G) ?_
  intro r1 F1 G1 hK1
  dsimp only
  exact kwj_X4_formal_152 F1 G1 (CWS.tr hK hK1)
theorem kwj_X4_formal_182 {fu : Nat} {F0 : PF} {G0 : PG} (F : PF) (G : PG) (hK : CWS F0 G0 F G) : PP (cb_X4_formal_182 fu F G) (fun _ F' G' => CWS F0 G0 F' G') := by
  unfold cb_X4_formal_182
  refine PP.ret ?_
  exact hK
theorem kwj_X4_formal_171 {fu : Nat} {F0 : PF} {G0 : PG} (x5 : Int32) (F : PF) (G : PG) (hK : CWS F0 G0 F G) : PP (cb_X4_formal_171 fu x5 F G) (fun _ F' G' => CWS F0 G0 F' G') := by
  unfold cb_X4_formal_171
  refine PP.bind (cw_X5_note (8 : Int32) x5 F G) ?_
  intro r1 F1 G1 hK1
  dsimp only
  exact kwj_X4_formal_182 F1 G1 (CWS.tr hK (CWS.k hK1 rfl))
theorem kwj_X4_formal_166 {fu : Nat} {F0 : PF} {G0 : PG} (x1 : Int32) (x5 : Int32) (F : PF) (G : PG) (hK : CWS F0 G0 F G) : PP (cb_X4_formal_166 fu x1 x5 F G) (fun _ F' G' => CWS F0 G0 F' G') := by
  unfold cb_X4_formal_166
  refine PP.ite (fun c_1 => ?_) (fun c_1 => ?_)
  · skip
    exact kwj_X4_formal_182 F G hK
  · skip
    exact kwj_X4_formal_171 x5 F G hK
theorem kwj_X4_formal_153 {fu : Nat} {F0 : PF} {G0 : PG} (x1 : Int32) (x4 : Int32) (x5 : Int32) (x6 : Int32) (F : PF) (G : PG) (hK : CWS F0 G0 F G) : PP (cb_X4_formal_153 fu x1 x4 x5 x6 F G) (fun _ F' G' => CWS F0 G0 F' G') := by
  unfold cb_X4_formal_153
  refine PP.bind (cw_X5_tellFormal x4 x5 x6 F G) ?_
  intro r1 F1 G1 hK1
  dsimp only
  exact kwj_X4_formal_166 x1 x5 F1 G1 (CWS.tr hK (CWS.k hK1 rfl))
theorem kwj_X4_formal_133 {fu : Nat} {F0 : PF} {G0 : PG} (x1 : Int32) (x4 : Int32) (x5 : Int32) (x6 : Int32) (F : PF) (G : PG) (hK : CWS F0 G0 F G) : PP (cb_X4_formal_133 fu x1 x4 x5 x6 F G) (fun _ F' G' => CWS F0 G0 F' G') := by
  unfold cb_X4_formal_133
  refine PP.ite (fun c_1 => ?_) (fun c_1 => ?_)
  · skip
    exact kwj_X4_formal_143 x6 F G hK
  · skip
    exact kwj_X4_formal_153 x1 x4 x5 x6 F G hK
theorem kwj_X4_formal_124 {fu : Nat} {F0 : PF} {G0 : PG} (x1 : Int32) (x4 : Int32) (x5 : Int32) (x6 : Int32) (F : PF) (G : PG) (hK : CWS F0 G0 F G) : PP (cb_X4_formal_124 fu x1 x4 x5 x6 F G) (fun _ F' G' => CWS F0 G0 F' G') := by
  unfold cb_X4_formal_124
  refine PP.bind (cw_X2_closesWith (22 : Int32) F G) ?_
  intro r1 F1 G1 hK1
  dsimp only
  exact kwj_X4_formal_133 x1 x4 x5 x6 F1 G1 (CWS.tr hK (CWS.k hK1 rfl))
theorem kwj_X4_formal_121 {fu : Nat} {F0 : PF} {G0 : PG} (x1 : Int32) (x4 : Int32) (x5 : Int32) (x6 : Int32) (z0 : Int32) (F : PF) (G : PG) (hK : CWS F0 G0 F G) : PP (cb_X4_formal_121 fu x1 x4 x5 x6 z0 F G) (fun _ F' G' => CWS F0 G0 F' G') := by
  unfold cb_X4_formal_121
  refine PP.ite (fun c_1 => ?_) (fun c_1 => ?_)
  · skip
    exact kwj_X4_formal_133 x1 x4 x5 x6 F G hK
  · skip
    exact kwj_X4_formal_124 x1 x4 x5 x6 F G hK
theorem kwj_X4_formal_110 {fu : Nat} {F0 : PF} {G0 : PG} (x1 : Int32) (x4 : Int32) (x5 : Int32) (z0 : Int32) (F : PF) (G : PG) (hK : CWS F0 G0 F G) : PP (cb_X4_formal_110 fu x1 x4 x5 z0 F G) (fun _ F' G' => CWS F0 G0 F' G') := by
  unfold cb_X4_formal_110
  refine PP.bind (cw_X2_opens (21 : Int32) F G) ?_
  intro r1 F1 G1 hK1
  dsimp only
  exact kwj_X4_formal_121 x1 x4 x5 z0 r1 F1 G1 (CWS.tr hK (CWS.k hK1 rfl))
theorem kwj_X4_formal_105 {fu : Nat} {F0 : PF} {G0 : PG} (x1 : Int32) (x4 : Int32) (x5 : Int32) (F : PF) (G : PG) (hK : CWS F0 G0 F G) : PP (cb_X4_formal_105 fu x1 x4 x5 F G) (fun _ F' G' => CWS F0 G0 F' G') := by
  unfold cb_X4_formal_105
  exact kwj_X4_formal_110 x1 x4 x5 (2 : Int32) F G hK
theorem kwj_X4_formal_109 {fu : Nat} {F0 : PF} {G0 : PG} (x1 : Int32) (x4 : Int32) (x5 : Int32) (F : PF) (G : PG) (hK : CWS F0 G0 F G) : PP (cb_X4_formal_109 fu x1 x4 x5 F G) (fun _ F' G' => CWS F0 G0 F' G') := by
  unfold cb_X4_formal_109
  exact kwj_X4_formal_110 x1 x4 x5 (3 : Int32) F G hK
theorem kwj_X4_formal_100 {fu : Nat} {F0 : PF} {G0 : PG} (x1 : Int32) (x3 : Int32) (x4 : Int32) (x5 : Int32) (F : PF) (G : PG) (hK : CWS F0 G0 F G) : PP (cb_X4_formal_100 fu x1 x3 x4 x5 F G) (fun _ F' G' => CWS F0 G0 F' G') := by
  unfold cb_X4_formal_100
  refine PP.ite (fun c_1 => ?_) (fun c_1 => ?_)
  · skip
    exact kwj_X4_formal_105 x1 x4 x5 F G hK
  · skip
    exact kwj_X4_formal_109 x1 x4 x5 F G hK
theorem kwj_X4_formal_95 {fu : Nat} {F0 : PF} {G0 : PG} (x1 : Int32) (x3 : Int32) (x4 : Int32) (x5 : Int32) (x6 : Int32) (F : PF) (G : PG) (hK : CWS F0 G0 F G) : PP (cb_X4_formal_95 fu x1 x3 x4 x5 x6 F G) (fun _ F' G' => CWS F0 G0 F' G') := by
  unfold cb_X4_formal_95
  refine PP.ite (fun c_1 => ?_) (fun c_1 => ?_)
  · skip
    exact kwj_X4_formal_100 x1 x3 x4 x5 F G hK
  · skip
    exact kwj_X4_formal_133 x1 x4 x5 x6 F G hK
theorem kwj_X4_formal_80 {fu : Nat} {F0 : PF} {G0 : PG} (x1 : Int32) (x3 : Int32) (x4 : Int32) (x5 : Int32) (F : PF) (G : PG) (hK : CWS F0 G0 F G) : PP (cb_X4_formal_80 fu x1 x3 x4 x5 F G) (fun _ F' G' => CWS F0 G0 F' G') := by
  unfold cb_X4_formal_80
  refine PP.ite (fun c_1 => ?_) (fun c_1 => ?_)
  · skip
    exact kwj_X4_formal_100 x1 x3 x4 x5 F G hK
  · skip
    exact kwj_X4_formal_95 x1 x3 x4 x5 (1 : Int32) F G hK
theorem kwj_X4_formal_54 {fu : Nat} {F0 : PF} {G0 : PG} (x1 : Int32) (x3 : Int32) (F : PF) (G : PG) (hK : CWS F0 G0 F G) : PP (cb_X4_formal_54 fu x1 x3 F G) (fun _ F' G' => CWS F0 G0 F' G') := by
  unfold cb_X4_formal_54
  refine PP.bind (cw_X2_expect (2 : Int32) F G) ?_
  intro r1 F1 G1 hK1
  dsimp only
  exact kwj_X4_formal_80 x1 x3 (F 12) (F 13) F1 G1 (CWS.tr hK (CWS.k hK1 rfl))
theorem kwj_X4_formal_47 {fu : Nat} {F0 : PF} {G0 : PG} (x1 : Int32) (x3 : Int32) (F : PF) (G : PG) (hK : CWS F0 G0 F G) : PP (cb_X4_formal_47 fu x1 x3 F G) (fun _ F' G' => CWS F0 G0 F' G') := by
  unfold cb_X4_formal_47
  refine PP.bind (cw_X2_next F G) ?_
  intro r1 F1 G1 hK1
  dsimp only
  exact kwj_X4_formal_54 x1 x3 F1 G1 (CWS.tr hK (CWS.k hK1 rfl))
theorem kwj_X4_formal_31 {fu : Nat} {F0 : PF} {G0 : PG} (x1 : Int32) (x3 : Int32) (F : PF) (G : PG) (hK : CWS F0 G0 F G) : PP (cb_X4_formal_31 fu x1 x3 F G) (fun _ F' G' => CWS F0 G0 F' G') := by
  unfold cb_X4_formal_31
  refine PP.bind (cw_X5_note (9 : Int32) (F 13) F G) ?_
  intro r1 F1 G1 hK1
  dsimp only
  exact kwj_X4_formal_47 x1 x3 F1 G1 (CWS.tr hK (CWS.k hK1 rfl))
theorem kwj_X4_formal_27 {fu : Nat} {F0 : PF} {G0 : PG} (x1 : Int32) (x2 : Int32) (x3 : Int32) (F : PF) (G : PG) (hK : CWS F0 G0 F G) : PP (cb_X4_formal_27 fu x1 x2 x3 F G) (fun _ F' G' => CWS F0 G0 F' G') := by
  unfold cb_X4_formal_27
  refine PP.ite (fun c_1 => ?_) (fun c_1 => ?_)
  · skip
    exact kwj_X4_formal_47 x1 x3 F G hK
  · skip
    exact kwj_X4_formal_31 x1 x3 F G hK
theorem kwj_X4_formal_26 {fu : Nat} {F0 : PF} {G0 : PG} (F : PF) (G : PG) (hK : CWS F0 G0 F G) : PP (cb_X4_formal_26 fu F G) (fun _ F' G' => CWS F0 G0 F' G') := by
  unfold cb_X4_formal_26
  refine PP.ret ?_
  exact hK
theorem kwj_X4_formal_18 {fu : Nat} {F0 : PF} {G0 : PG} (F : PF) (G : PG) (hK : CWS F0 G0 F G) : PP (cb_X4_formal_18 fu F G) (fun _ F' G' => CWS F0 G0 F' G') := by
  unfold cb_X4_formal_18
  refine PP.bind (cw_X2_fail (2 : Int32) F G) ?_
  intro r1 F1 G1 hK1
  dsimp only
  exact kwj_X4_formal_26 F1 G1 (CWS.tr hK (CWS.k hK1 rfl))
theorem kwj_X4_formal_13 {fu : Nat} {F0 : PF} {G0 : PG} (x1 : Int32) (x2 : Int32) (x3 : Int32) (F : PF) (G : PG) (hK : CWS F0 G0 F G) : PP (cb_X4_formal_13 fu x1 x2 x3 F G) (fun _ F' G' => CWS F0 G0 F' G') := by
  unfold cb_X4_formal_13
  refine PP.ite (fun c_1 => ?_) (fun c_1 => ?_)
  · skip
    exact kwj_X4_formal_27 x1 x2 x3 F G hK
  · skip
    exact kwj_X4_formal_18 F G hK
theorem kw_X4_formal {fu : Nat} (x1 : Int32) (x2 : Int32) (F : PF) (G : PG) : PP (cf_X4_formal fu x1 x2 F G) (fun _ F' G' => CWS F G F' G') := by
  unfold cf_X4_formal
  unfold cb_X4_formal_0
  refine PP.ite (fun c_1 => ?_) (fun c_1 => ?_)
  · skip
    exact kwj_X4_formal_27 x1 x2 (F 11) F G CWS.rf
  · skip
    exact kwj_X4_formal_13 x1 x2 (F 11) F G CWS.rf
theorem kwj_X4_formals_12 {fu : Nat} {F0 : PF} {G0 : PG} (F : PF) (G : PG) (hK : CWS F0 G0 F G) : PP (cb_X4_formals_12 fu F G) (fun _ F' G' => CWS F0 G0 F' G') := by
  unfold cb_X4_formals_12
  refine PP.ret ?_
  exact hK
theorem kwj_X4_formals_94 {fu : Nat} {F0 : PF} {G0 : PG} (F : PF) (G : PG) (hK : CWS F0 G0 F G) : PP (cb_X4_formals_94 fu F G) (fun _ F' G' => CWS F0 G0 F' G') := by
  unfold cb_X4_formals_94
  refine PP.ret ?_
  exact hK
theorem kwj_X4_formals_85 {fu : Nat} {F0 : PF} {G0 : PG} (F : PF) (G : PG) (hK : CWS F0 G0 F G) : PP (cb_X4_formals_85 fu F G) (fun _ F' G' => CWS F0 G0 F' G') := by
  unfold cb_X4_formals_85
  refine PP.bind (cw_X2_closesWith (20 : Int32) F G) ?_
  intro r1 F1 G1 hK1
  dsimp only
  exact kwj_X4_formals_94 F1 G1 (CWS.tr hK (CWS.k hK1 rfl))
theorem kwj_X4_formals_79 {fu : Nat} {F0 : PF} {G0 : PG} (ag_33 : Int32 → Int32 → Int32 → PF → PG → PR) (hag_33 : ∀ (x1 : Int32) (x2 : Int32) (x3 : Int32) (F : PF) (G : PG) (hK : CWS F0 G0 F G), PP (ag_33 x1 x2 x3 F G) (fun _ F' G' => CWS F0 G0 F' G')) (x1 : Int32) (x2 : Int32) (x3 : Int32) (F : PF) (G : PG) (hK : CWS F0 G0 F G) : PP (cb_X4_formals_79 fu ag_33 x1 x2 x3 F G) (fun _ F' G' => CWS F0 G0 F' G') := by
  unfold cb_X4_formals_79
  exact hag_33 x1 x2 (x3 + (1 : Int32)) F G hK
theorem kwj_X4_formals_72 {fu : Nat} {F0 : PF} {G0 : PG} (ag_33 : Int32 → Int32 → Int32 → PF → PG → PR) (hag_33 : ∀ (x1 : Int32) (x2 : Int32) (x3 : Int32) (F : PF) (G : PG) (hK : CWS F0 G0 F G), PP (ag_33 x1 x2 x3 F G) (fun _ F' G' => CWS F0 G0 F' G')) (x1 : Int32) (x2 : Int32) (x3 : Int32) (F : PF) (G : PG) (hK : CWS F0 G0 F G) : PP (cb_X4_formals_72 fu ag_33 x1 x2 x3 F G) (fun _ F' G' => CWS F0 G0 F' G') := by
  unfold cb_X4_formals_72
  refine PP.bind (cw_X2_next F G) ?_
  intro r1 F1 G1 hK1
  dsimp only
  exact kwj_X4_formals_79 ag_33 hag_33 x1 x2 x3 F1 G1 (CWS.tr hK (CWS.k hK1 rfl))
theorem kwj_X4_formals_67 {fu : Nat} {F0 : PF} {G0 : PG} (ag_33 : Int32 → Int32 → Int32 → PF → PG → PR) (hag_33 : ∀ (x1 : Int32) (x2 : Int32) (x3 : Int32) (F : PF) (G : PG) (hK : CWS F0 G0 F G), PP (ag_33 x1 x2 x3 F G) (fun _ F' G' => CWS F0 G0 F' G')) (x1 : Int32) (x3 : Int32) (z0 : Int32) (F : PF) (G : PG) (hK : CWS F0 G0 F G) : PP (cb_X4_formals_67 fu ag_33 x1 x3 z0 F G) (fun _ F' G' => CWS F0 G0 F' G') := by
  unfold cb_X4_formals_67
  refine PP.ite (fun c_1 => ?_) (fun c_1 => ?_)
  · skip
    exact kwj_X4_formals_79 ag_33 hag_33 x1 z0 x3 F G hK
  · skip
    exact kwj_X4_formals_72 ag_33 hag_33 x1 z0 x3 F G hK
theorem kwj_X4_formals_62 {fu : Nat} {F0 : PF} {G0 : PG} (ag_33 : Int32 → Int32 → Int32 → PF → PG → PR) (hag_33 : ∀ (x1 : Int32) (x2 : Int32) (x3 : Int32) (F : PF) (G : PG) (hK : CWS F0 G0 F G), PP (ag_33 x1 x2 x3 F G) (fun _ F' G' => CWS F0 G0 F' G')) (x1 : Int32) (x3 : Int32) (F : PF) (G : PG) (hK : CWS F0 G0 F G) : PP (cb_X4_formals_62 fu ag_33 x1 x3 F G) (fun _ F' G' => CWS F0 G0 F' G') := by
  unfold cb_X4_formals_62
  exact kwj_X4_formals_67 ag_33 hag_33 x1 x3 (1 : Int32) F G hK
theorem kwj_X4_formals_66 {fu : Nat} {F0 : PF} {G0 : PG} (ag_33 : Int32 → Int32 → Int32 → PF → PG → PR) (hag_33 : ∀ (x1 : Int32) (x2 : Int32) (x3 : Int32) (F : PF) (G : PG) (hK : CWS F0 G0 F G), PP (ag_33 x1 x2 x3 F G) (fun _ F' G' => CWS F0 G0 F' G')) (x1 : Int32) (x3 : Int32) (F : PF) (G : PG) (hK : CWS F0 G0 F G) : PP (cb_X4_formals_66 fu ag_33 x1 x3 F G) (fun _ F' G' => CWS F0 G0 F' G') := by
  unfold cb_X4_formals_66
  exact kwj_X4_formals_67 ag_33 hag_33 x1 x3 (0 : Int32) F G hK
theorem kwj_X4_formals_50 {fu : Nat} {F0 : PF} {G0 : PG} (ag_33 : Int32 → Int32 → Int32 → PF → PG → PR) (hag_33 : ∀ (x1 : Int32) (x2 : Int32) (x3 : Int32) (F : PF) (G : PG) (hK : CWS F0 G0 F G), PP (ag_33 x1 x2 x3 F G) (fun _ F' G' => CWS F0 G0 F' G')) (x1 : Int32) (x3 : Int32) (F : PF) (G : PG) (hK : CWS F0 G0 F G) : PP (cb_X4_formals_50 fu ag_33 x1 x3 F G) (fun _ F' G' => CWS F0 G0 F' G') := by
  unfold cb_X4_formals_50
  refine PP.ite (fun c_1 => ?_) (fun c_1 => ?_)
  · skip
    exact kwj_X4_formals_62 ag_33 hag_33 x1 x3 F G hK
  · skip
    exact kwj_X4_formals_66 ag_33 hag_33 x1 x3 F G hK
theorem kwj_X4_formals_44 {fu : Nat} {F0 : PF} {G0 : PG} (ag_33 : Int32 → Int32 → Int32 → PF → PG → PR) (hag_33 : ∀ (x1 : Int32) (x2 : Int32) (x3 : Int32) (F : PF) (G : PG) (hK : CWS F0 G0 F G), PP (ag_33 x1 x2 x3 F G) (fun _ F' G' => CWS F0 G0 F' G')) (x1 : Int32) (x3 : Int32) (F : PF) (G : PG) (hK : CWS F0 G0 F G) : PP (cb_X4_formals_44 fu ag_33 x1 x3 F G) (fun _ F' G' => CWS F0 G0 F' G') := by
  unfold cb_X4_formals_44
  refine PP.bind (kw_X4_formal x3 x1 F G) ?_
  intro r1 F1 G1 hK1
  dsimp only
  exact kwj_X4_formals_50 ag_33 hag_33 x1 x3 F1 G1 (CWS.tr hK hK1)
theorem kwj_X4_formals_40 {fu : Nat} {F0 : PF} {G0 : PG} (ag_33 : Int32 → Int32 → Int32 → PF → PG → PR) (hag_33 : ∀ (x1 : Int32) (x2 : Int32) (x3 : Int32) (F : PF) (G : PG) (hK : CWS F0 G0 F G), PP (ag_33 x1 x2 x3 F G) (fun _ F' G' => CWS F0 G0 F' G')) (x1 : Int32) (x2 : Int32) (x3 : Int32) (F : PF) (G : PG) (hK : CWS F0 G0 F G) : PP (cb_X4_formals_40 fu ag_33 x1 x2 x3 F G) (fun _ F' G' => CWS F0 G0 F' G') := by
  unfold cb_X4_formals_40
  refine PP.ite (fun c_1 => ?_) (fun c_1 => ?_)
  · skip
    exact kwj_X4_formals_85 F G hK
  · skip
    exact kwj_X4_formals_44 ag_33 hag_33 x1 x3 F G hK
theorem kwz_X4_formals_33 {fu : Nat} {F0 : PF} {G0 : PG} : ∀ (n : Nat) (x1 : Int32) (x2 : Int32) (x3 : Int32) (F : PF) (G : PG) (hK : CWS F0 G0 F G), PP (cl_X4_formals_33 fu n x1 x2 x3 F G) (fun _ F' G' => CWS F0 G0 F' G') := by
  intro n
  induction n with
  | zero =>
    intro x1 x2 x3 F G hK
    exact PP.no
  | succ n ihn =>
    intro x1 x2 x3 F G hK
    show PP (cb_X4_formals_33 fu (cl_X4_formals_33 fu n) x1 x2 x3 F G) _
    unfold cb_X4_formals_33
    refine PP.ite (fun c_1 => ?_) (fun c_1 => ?_)
    · skip
      exact kwj_X4_formals_85 F G hK
    · skip
      exact kwj_X4_formals_40 (cl_X4_formals_33 fu n) ihn x1 x2 x3 F G hK
theorem kwj_X4_formals_30 {fu : Nat} {F0 : PF} {G0 : PG} (x1 : Int32) (z0 : Int32) (F : PF) (G : PG) (hK : CWS F0 G0 F G) : PP (cb_X4_formals_30 fu x1 z0 F G) (fun _ F' G' => CWS F0 G0 F' G') := by
  unfold cb_X4_formals_30
  exact kwz_X4_formals_33 fu x1 z0 (0 : Int32) F G hK
theorem kwj_X4_formals_29 {fu : Nat} {F0 : PF} {G0 : PG} (x1 : Int32) (F : PF) (G : PG) (hK : CWS F0 G0 F G) : PP (cb_X4_formals_29 fu x1 F G) (fun _ F' G' => CWS F0 G0 F' G') := by
  unfold cb_X4_formals_29
  exact kwj_X4_formals_30 x1 (0 : Int32) F G hK
theorem kwj_X4_formals_25 {fu : Nat} {F0 : PF} {G0 : PG} (x1 : Int32) (F : PF) (G : PG) (hK : CWS F0 G0 F G) : PP (cb_X4_formals_25 fu x1 F G) (fun _ F' G' => CWS F0 G0 F' G') := by
  unfold cb_X4_formals_25
  exact kwj_X4_formals_30 x1 (1 : Int32) F G hK
theorem kwj_X4_formals_13 {fu : Nat} {F0 : PF} {G0 : PG} (x1 : Int32) (F : PF) (G : PG) (hK : CWS F0 G0 F G) : PP (cb_X4_formals_13 fu x1 F G) (fun _ F' G' => CWS F0 G0 F' G') := by
  unfold cb_X4_formals_13
  refine PP.ite (fun c_1 => ?_) (fun c_1 => ?_)
  · skip
    exact kwj_X4_formals_29 x1 F G hK
  · skip
    exact kwj_X4_formals_25 x1 F G hK
theorem kwj_X4_formals_9 {fu : Nat} {F0 : PF} {G0 : PG} (x1 : Int32) (z0 : Int32) (F : PF) (G : PG) (hK : CWS F0 G0 F G) : PP (cb_X4_formals_9 fu x1 z0 F G) (fun _ F' G' => CWS F0 G0 F' G') := by
  unfold cb_X4_formals_9
  refine PP.ite (fun c_1 => ?_) (fun c_1 => ?_)
  · skip
    exact kwj_X4_formals_12 F G hK
  · skip
    exact kwj_X4_formals_13 x1 F G hK
theorem kw_X4_formals {fu : Nat} (x1 : Int32) (F : PF) (G : PG) : PP (cf_X4_formals fu x1 F G) (fun _ F' G' => CWS F G F' G') := by
  unfold cf_X4_formals
  unfold cb_X4_formals_0
  refine PP.bind (cw_X2_opens (19 : Int32) F G) ?_
  intro r1 F1 G1 hK1
  dsimp only
  exact kwj_X4_formals_9 x1 r1 F1 G1 (CWS.tr CWS.rf (CWS.k hK1 rfl))
theorem kwj_X4_startFunction_119 {fu : Nat} {F0 : PF} {G0 : PG} (F : PF) (G : PG) (hK : CWS F0 G0 F G) : PP (cb_X4_startFunction_119 fu F G) (fun _ F' G' => CWS F0 G0 F' G') := by
  unfold cb_X4_startFunction_119
  refine PP.ret ?_
  exact hK
theorem kwj_X4_startFunction_111 {fu : Nat} {F0 : PF} {G0 : PG} (x3 : Int32) (F : PF) (G : PG) (hK : CWS F0 G0 F G) : PP (cb_X4_startFunction_111 fu x3 F G) (fun _ F' G' => CWS F0 G0 F' G') := by
  unfold cb_X4_startFunction_111
  refine PP.bind (cw_X5_enterFunction x3 F G) ?_
  intro r1 F1 G1 hK1
  dsimp only
  exact kwj_X4_startFunction_119 F1 G1 (CWS.tr hK (CWS.k hK1 rfl))
theorem kwj_X4_startFunction_92 {fu : Nat} {F0 : PF} {G0 : PG} (x3 : Int32) (F : PF) (G : PG) (hK : CWS F0 G0 F G) : PP (cb_X4_startFunction_92 fu x3 F G) (fun _ F' G' => CWS F0 G0 F' G') := by
  unfold cb_X4_startFunction_92
  refine PP.ix (fun _ => ?_)
  exact kwj_X4_startFunction_111 x3 F (gup G 80 (F 28).toNatClampNeg (F 6)) (CWS.g (k := 80) rfl hK)
theorem kwj_X4_startFunction_89 {fu : Nat} {F0 : PF} {G0 : PG} (x3 : Int32) (z0 : Int32) (F : PF) (G : PG) (hK : CWS F0 G0 F G) : PP (cb_X4_startFunction_89 fu x3 z0 F G) (fun _ F' G' => CWS F0 G0 F' G') := by
  unfold cb_X4_startFunction_89
  refine PP.ite (fun c_1 => ?_) (fun c_1 => ?_)
  · skip
    exact kwj_X4_startFunction_111 x3 F G hK
  · skip
    exact kwj_X4_startFunction_92 x3 F G hK
theorem kwj_X4_startFunction_78 {fu : Nat} {F0 : PF} {G0 : PG} (x3 : Int32) (F : PF) (G : PG) (hK : CWS F0 G0 F G) : PP (cb_X4_startFunction_78 fu x3 F G) (fun _ F' G' => CWS F0 G0 F' G') := by
  unfold cb_X4_startFunction_78
  refine PP.bind (cw_X8_has (F 28) F G) ?_
  intro r1 F1 G1 hK1
  dsimp only
  exact kwj_X4_startFunction_89 x3 r1 F1 G1 (CWS.tr hK (CWS.k hK1 rfl))
theorem kwj_X4_startFunction_67 {fu : Nat} {F0 : PF} {G0 : PG} (x3 : Int32) (F : PF) (G : PG) (hK : CWS F0 G0 F G) : PP (cb_X4_startFunction_67 fu x3 F G) (fun _ F' G' => CWS F0 G0 F' G') := by
  unfold cb_X4_startFunction_67
  exact kwj_X4_startFunction_78 x3 (fup F 76 (F 28)) G (CWS.f (k := 76) rfl hK)
theorem kwj_X4_startFunction_56 {fu : Nat} {F0 : PF} {G0 : PG} (x3 : Int32) (F : PF) (G : PG) (hK : CWS F0 G0 F G) : PP (cb_X4_startFunction_56 fu x3 F G) (fun _ F' G' => CWS F0 G0 F' G') := by
  unfold cb_X4_startFunction_56
  refine PP.ite (fun c_1 => ?_) (fun c_1 => ?_)
  · skip
    exact kwj_X4_startFunction_67 x3 F G hK
  · skip
    exact kwj_X4_startFunction_78 x3 F G hK
theorem kwj_X4_startFunction_48 {fu : Nat} {F0 : PF} {G0 : PG} (x1 : Int32) (x3 : Int32) (F : PF) (G : PG) (hK : CWS F0 G0 F G) : PP (cb_X4_startFunction_48 fu x1 x3 F G) (fun _ F' G' => CWS F0 G0 F' G') := by
  unfold cb_X4_startFunction_48
  refine PP.ite (fun c_1 => ?_) (fun c_1 => ?_)
  · skip
    exact kwj_X4_startFunction_56 x3 F G hK
  · skip
    exact kwj_X4_startFunction_78 x3 F G hK
theorem kwj_X4_startFunction_35 {fu : Nat} {F0 : PF} {G0 : PG} (x1 : Int32) (x2 : Int32) (x3 : Int32) (F : PF) (G : PG) (hK : CWS F0 G0 F G) : PP (cb_X4_startFunction_35 fu x1 x2 x3 F G) (fun _ F' G' => CWS F0 G0 F' G') := by
  unfold cb_X4_startFunction_35
  refine PP.bind (cw_X5_announce x1 x2 (F 28) F G) ?_
  intro r1 F1 G1 hK1
  dsimp only
  exact kwj_X4_startFunction_48 x1 x3 F1 G1 (CWS.tr hK (CWS.k hK1 rfl))
theorem kwj_X4_startFunction_26 {fu : Nat} {F0 : PF} {G0 : PG} (x1 : Int32) (x2 : Int32) (x3 : Int32) (F : PF) (G : PG) (hK : CWS F0 G0 F G) : PP (cb_X4_startFunction_26 fu x1 x2 x3 F G) (fun _ F' G' => CWS F0 G0 F' G') := by
  unfold cb_X4_startFunction_26
  refine PP.bind (kw_X8_addFunction x2 x3 F G) ?_
  intro r1 F1 G1 hK1
  dsimp only
  exact kwj_X4_startFunction_35 x1 x2 x3 F1 G1 (CWS.tr hK hK1)
theorem kwj_X4_startFunction_23 {fu : Nat} {F0 : PF} {G0 : PG} (x3 : Int32) (F : PF) (G : PG) (hK : CWS F0 G0 F G) : PP (cb_X4_startFunction_23 fu x3 F G) (fun _ F' G' => CWS F0 G0 F' G') := by
  unfold cb_X4_startFunction_23
  exact kwj_X4_startFunction_78 x3 F G hK
theorem kwj_X4_startFunction_10 {fu : Nat} {F0 : PF} {G0 : PG} (x1 : Int32) (x2 : Int32) (x3 : Int32) (F : PF) (G : PG) (hK : CWS F0 G0 F G) : PP (cb_X4_startFunction_10 fu x1 x2 x3 F G) (fun _ F' G' => CWS F0 G0 F' G') := by
  unfold cb_X4_startFunction_10
  refine PP.bind (cw_X5_tellFunction x1 x2 (F 28) F G) ?_
  intro r1 F1 G1 hK1
  dsimp only
  exact kwj_X4_startFunction_23 x3 F1 G1 (CWS.tr hK (CWS.k hK1 rfl))
theorem kw_X4_startFunction {fu : Nat} (x1 : Int32) (x2 : Int32) (x3 : Int32) (F : PF) (G : PG) : PP (cf_X4_startFunction fu x1 x2 x3 F G) (fun _ F' G' => CWS F G F' G') := by
  unfold cf_X4_startFunction
  unfold cb_X4_startFunction_0
  refine PP.ite (fun c_1 => ?_) (fun c_1 => ?_)
  · skip
    exact kwj_X4_startFunction_26 x1 x2 x3 F G CWS.rf
  · skip
    exact kwj_X4_startFunction_10 x1 x2 x3 F G CWS.rf
theorem kwj_X4_walk_299 {fu : Nat} {F0 : PF} {G0 : PG} (z0 : Int32) (F : PF) (G : PG) (hK : CWS F0 G0 F G) : PP (cb_X4_walk_299 fu z0 F G) (fun _ F' G' => CWS F0 G0 F' G') := by
  unfold cb_X4_walk_299
  refine PP.ret ?_
  exact hK
theorem kwj_X4_walk_292 {fu : Nat} {F0 : PF} {G0 : PG} (F : PF) (G : PG) (hK : CWS F0 G0 F G) : PP (cb_X4_walk_292 fu F G) (fun _ F' G' => CWS F0 G0 F' G') := by
  unfold cb_X4_walk_292
  exact kwj_X4_walk_299 (F 14) F G hK
theorem kwj_X4_walk_289 {fu : Nat} {F0 : PF} {G0 : PG} (z0 : Int32) (F : PF) (G : PG) (hK : CWS F0 G0 F G) : PP (cb_X4_walk_289 fu z0 F G) (fun _ F' G' => CWS F0 G0 F' G') := by
  unfold cb_X4_walk_289
  exact kwj_X4_walk_299 z0 F G hK
theorem kwj_X4_walk_282 {fu : Nat} {F0 : PF} {G0 : PG} (F : PF) (G : PG) (hK : CWS F0 G0 F G) : PP (cb_X4_walk_282 fu F G) (fun _ F' G' => CWS F0 G0 F' G') := by
  unfold cb_X4_walk_282
  refine PP.bind (cw_X5_fault F G) ?_
  intro r1 F1 G1 hK1
  dsimp only
  exact kwj_X4_walk_289 r1 F1 G1 (CWS.tr hK (CWS.k hK1 rfl))
theorem kwj_X4_walk_278 {fu : Nat} {F0 : PF} {G0 : PG} (x1 : Int32) (F : PF) (G : PG) (hK : CWS F0 G0 F G) : PP (cb_X4_walk_278 fu x1 F G) (fun _ F' G' => CWS F0 G0 F' G') := by
  unfold cb_X4_walk_278
  refine PP.ite (fun c_1 => ?_) (fun c_1 => ?_)
  · skip
    exact kwj_X4_walk_292 F G hK
  · skip
    exact kwj_X4_walk_282 F G hK
theorem kwj_X4_walk_262 {fu : Nat} {F0 : PF} {G0 : PG} (x1 : Int32) (F : PF) (G : PG) (hK : CWS F0 G0 F G) : PP (cb_X4_walk_262 fu x1 F G) (fun _ F' G' => CWS F0 G0 F' G') := by
  unfold cb_X4_walk_262
  refine PP.bind (cw_X5_note (9 : Int32) (F 13) F G) ?_
  intro r1 F1 G1 hK1
  dsimp only
  exact kwj_X4_walk_278 x1 F1 G1 (CWS.tr hK (CWS.k hK1 rfl))
theorem kwj_X4_walk_251 {fu : Nat} {F0 : PF} {G0 : PG} (x1 : Int32) (F : PF) (G : PG) (hK : CWS F0 G0 F G) : PP (cb_X4_walk_251 fu x1 F G) (fun _ F' G' => CWS F0 G0 F' G') := by
  unfold cb_X4_walk_251
  refine PP.ite (fun c_1 => ?_) (fun c_1 => ?_)
  · skip
    exact kwj_X4_walk_262 x1 F G hK
  · skip
    exact kwj_X4_walk_278 x1 F G hK
theorem kwj_X4_walk_245 {fu : Nat} {F0 : PF} {G0 : PG} (ag_7 : Int32 → Int32 → PF → PG → PR) (hag_7 : ∀ (x1 : Int32) (x2 : Int32) (F : PF) (G : PG) (hK : CWS F0 G0 F G), PP (ag_7 x1 x2 F G) (fun _ F' G' => CWS F0 G0 F' G')) (x1 : Int32) (x2 : Int32) (F : PF) (G : PG) (hK : CWS F0 G0 F G) : PP (cb_X4_walk_245 fu ag_7 x1 x2 F G) (fun _ F' G' => CWS F0 G0 F' G') := by
  unfold cb_X4_walk_245
  exact hag_7 x1 (x2 + (1 : Int32)) F G hK
theorem kwj_X4_walk_234 {fu : Nat} {F0 : PF} {G0 : PG} (ag_7 : Int32 → Int32 → PF → PG → PR) (hag_7 : ∀ (x1 : Int32) (x2 : Int32) (F : PF) (G : PG) (hK : CWS F0 G0 F G), PP (ag_7 x1 x2 F G) (fun _ F' G' => CWS F0 G0 F' G')) (x1 : Int32) (x2 : Int32) (F : PF) (G : PG) (hK : CWS F0 G0 F G) : PP (cb_X4_walk_234 fu ag_7 x1 x2 F G) (fun _ F' G' => CWS F0 G0 F' G') := by
  unfold cb_X4_walk_234
  exact kwj_X4_walk_245 ag_7 hag_7 x1 x2 F G hK
theorem kwj_X4_walk_226 {fu : Nat} {F0 : PF} {G0 : PG} (ag_7 : Int32 → Int32 → PF → PG → PR) (hag_7 : ∀ (x1 : Int32) (x2 : Int32) (F : PF) (G : PG) (hK : CWS F0 G0 F G), PP (ag_7 x1 x2 F G) (fun _ F' G' => CWS F0 G0 F' G')) (x1 : Int32) (x2 : Int32) (x5 : Int32) (x6 : Int32) (F : PF) (G : PG) (hK : CWS F0 G0 F G) : PP (cb_X4_walk_226 fu ag_7 x1 x2 x5 x6 F G) (fun _ F' G' => CWS F0 G0 F' G') := by
  unfold cb_X4_walk_226
  refine PP.bind (cw_X4_globalInt x5 x6 F G) ?_
  intro r1 F1 G1 hK1
  dsimp only
  exact kwj_X4_walk_234 ag_7 hag_7 x1 x2 F1 G1 (CWS.tr hK (CWS.k hK1 rfl))
theorem kwj_X4_walk_237 {fu : Nat} {F0 : PF} {G0 : PG} (ag_7 : Int32 → Int32 → PF → PG → PR) (hag_7 : ∀ (x1 : Int32) (x2 : Int32) (F : PF) (G : PG) (hK : CWS F0 G0 F G), PP (ag_7 x1 x2 F G) (fun _ F' G' => CWS F0 G0 F' G')) (x1 : Int32) (x2 : Int32) (F : PF) (G : PG) (hK : CWS F0 G0 F G) : PP (cb_X4_walk_237 fu ag_7 x1 x2 F G) (fun _ F' G' => CWS F0 G0 F' G') := by
  unfold cb_X4_walk_237
  refine PP.bind (cw_X2_fail (2 : Int32) F G) ?_
  intro r1 F1 G1 hK1
  dsimp only
  exact kwj_X4_walk_245 ag_7 hag_7 x1 x2 F1 G1 (CWS.tr hK (CWS.k hK1 rfl))
theorem kwj_X4_walk_220 {fu : Nat} {F0 : PF} {G0 : PG} (ag_7 : Int32 → Int32 → PF → PG → PR) (hag_7 : ∀ (x1 : Int32) (x2 : Int32) (F : PF) (G : PG) (hK : CWS F0 G0 F G), PP (ag_7 x1 x2 F G) (fun _ F' G' => CWS F0 G0 F' G')) (x1 : Int32) (x2 : Int32) (x4 : Int32) (x5 : Int32) (x6 : Int32) (F : PF) (G : PG) (hK : CWS F0 G0 F G) : PP (cb_X4_walk_220 fu ag_7 x1 x2 x4 x5 x6 F G) (fun _ F' G' => CWS F0 G0 F' G') := by
  unfold cb_X4_walk_220
  refine PP.ite (fun c_1 => ?_) (fun c_1 => ?_)
  · skip
    exact kwj_X4_walk_226 ag_7 hag_7 x1 x2 x5 x6 F G hK
  · skip
    exact kwj_X4_walk_237 ag_7 hag_7 x1 x2 F G hK
theorem kwj_X4_walk_217 {fu : Nat} {F0 : PF} {G0 : PG} (ag_7 : Int32 → Int32 → PF → PG → PR) (hag_7 : ∀ (x1 : Int32) (x2 : Int32) (F : PF) (G : PG) (hK : CWS F0 G0 F G), PP (ag_7 x1 x2 F G) (fun _ F' G' => CWS F0 G0 F' G')) (x1 : Int32) (x2 : Int32) (F : PF) (G : PG) (hK : CWS F0 G0 F G) : PP (cb_X4_walk_217 fu ag_7 x1 x2 F G) (fun _ F' G' => CWS F0 G0 F' G') := by
  unfold cb_X4_walk_217
  exact kwj_X4_walk_245 ag_7 hag_7 x1 x2 F G hK
theorem kwj_X4_walk_214 {fu : Nat} {F0 : PF} {G0 : PG} (ag_7 : Int32 → Int32 → PF → PG → PR) (hag_7 : ∀ (x1 : Int32) (x2 : Int32) (F : PF) (G : PG) (hK : CWS F0 G0 F G), PP (ag_7 x1 x2 F G) (fun _ F' G' => CWS F0 G0 F' G')) (x1 : Int32) (x2 : Int32) (z0 : Int32) (z1 : Int32) (z2 : Int32) (F : PF) (G : PG) (hK : CWS F0 G0 F G) : PP (cb_X4_walk_214 fu ag_7 x1 x2 z0 z1 z2 F G) (fun _ F' G' => CWS F0 G0 F' G') := by
  unfold cb_X4_walk_214
  refine PP.bind (cw_X4_globalArray z2 z1 z0 F G) ?_
  intro r1 F1 G1 hK1
  dsimp only
  exact kwj_X4_walk_217 ag_7 hag_7 x1 x2 F1 G1 (CWS.tr hK (CWS.k hK1 rfl))
theorem kwj_X4_walk_209 {fu : Nat} {F0 : PF} {G0 : PG} (ag_7 : Int32 → Int32 → PF → PG → PR) (hag_7 : ∀ (x1 : Int32) (x2 : Int32) (F : PF) (G : PG) (hK : CWS F0 G0 F G), PP (ag_7 x1 x2 F G) (fun _ F' G' => CWS F0 G0 F' G')) (x1 : Int32) (x2 : Int32) (z0 : Int32) (z1 : Int32) (F : PF) (G : PG) (hK : CWS F0 G0 F G) : PP (cb_X4_walk_209 fu ag_7 x1 x2 z0 z1 F G) (fun _ F' G' => CWS F0 G0 F' G') := by
  unfold cb_X4_walk_209
  exact kwj_X4_walk_214 ag_7 hag_7 x1 x2 (2 : Int32) z0 z1 F G hK
theorem kwj_X4_walk_213 {fu : Nat} {F0 : PF} {G0 : PG} (ag_7 : Int32 → Int32 → PF → PG → PR) (hag_7 : ∀ (x1 : Int32) (x2 : Int32) (F : PF) (G : PG) (hK : CWS F0 G0 F G), PP (ag_7 x1 x2 F G) (fun _ F' G' => CWS F0 G0 F' G')) (x1 : Int32) (x2 : Int32) (z0 : Int32) (z1 : Int32) (F : PF) (G : PG) (hK : CWS F0 G0 F G) : PP (cb_X4_walk_213 fu ag_7 x1 x2 z0 z1 F G) (fun _ F' G' => CWS F0 G0 F' G') := by
  unfold cb_X4_walk_213
  exact kwj_X4_walk_214 ag_7 hag_7 x1 x2 (3 : Int32) z0 z1 F G hK
theorem kwj_X4_walk_198 {fu : Nat} {F0 : PF} {G0 : PG} (ag_7 : Int32 → Int32 → PF → PG → PR) (hag_7 : ∀ (x1 : Int32) (x2 : Int32) (F : PF) (G : PG) (hK : CWS F0 G0 F G), PP (ag_7 x1 x2 F G) (fun _ F' G' => CWS F0 G0 F' G')) (x1 : Int32) (x2 : Int32) (x4 : Int32) (x5 : Int32) (x6 : Int32) (F : PF) (G : PG) (hK : CWS F0 G0 F G) : PP (cb_X4_walk_198 fu ag_7 x1 x2 x4 x5 x6 F G) (fun _ F' G' => CWS F0 G0 F' G') := by
  unfold cb_X4_walk_198
  refine PP.ite (fun c_1 => ?_) (fun c_1 => ?_)
  · skip
    exact kwj_X4_walk_209 ag_7 hag_7 x1 x2 x6 x5 F G hK
  · skip
    exact kwj_X4_walk_213 ag_7 hag_7 x1 x2 x6 x5 F G hK
theorem kwj_X4_walk_191 {fu : Nat} {F0 : PF} {G0 : PG} (ag_7 : Int32 → Int32 → PF → PG → PR) (hag_7 : ∀ (x1 : Int32) (x2 : Int32) (F : PF) (G : PG) (hK : CWS F0 G0 F G), PP (ag_7 x1 x2 F G) (fun _ F' G' => CWS F0 G0 F' G')) (x1 : Int32) (x2 : Int32) (x4 : Int32) (x5 : Int32) (x6 : Int32) (F : PF) (G : PG) (hK : CWS F0 G0 F G) : PP (cb_X4_walk_191 fu ag_7 x1 x2 x4 x5 x6 F G) (fun _ F' G' => CWS F0 G0 F' G') := by
  unfold cb_X4_walk_191
  refine PP.ite (fun c_1 => ?_) (fun c_1 => ?_)
  · skip
    exact kwj_X4_walk_220 ag_7 hag_7 x1 x2 x4 x5 x6 F G hK
  · skip
    exact kwj_X4_walk_198 ag_7 hag_7 x1 x2 x4 x5 x6 F G hK
theorem kwj_X4_walk_179 {fu : Nat} {F0 : PF} {G0 : PG} (ag_7 : Int32 → Int32 → PF → PG → PR) (hag_7 : ∀ (x1 : Int32) (x2 : Int32) (F : PF) (G : PG) (hK : CWS F0 G0 F G), PP (ag_7 x1 x2 F G) (fun _ F' G' => CWS F0 G0 F' G')) (x1 : Int32) (x2 : Int32) (x4 : Int32) (x5 : Int32) (x6 : Int32) (F : PF) (G : PG) (hK : CWS F0 G0 F G) : PP (cb_X4_walk_179 fu ag_7 x1 x2 x4 x5 x6 F G) (fun _ F' G' => CWS F0 G0 F' G') := by
  unfold cb_X4_walk_179
  refine PP.ite (fun c_1 => ?_) (fun c_1 => ?_)
  · skip
    exact kwj_X4_walk_191 ag_7 hag_7 x1 x2 x4 x5 x6 F G hK
  · skip
    exact kwj_X4_walk_220 ag_7 hag_7 x1 x2 x4 x5 x6 F G hK
theorem kwj_X4_walk_176 {fu : Nat} {F0 : PF} {G0 : PG} (ag_7 : Int32 → Int32 → PF → PG → PR) (hag_7 : ∀ (x1 : Int32) (x2 : Int32) (F : PF) (G : PG) (hK : CWS F0 G0 F G), PP (ag_7 x1 x2 F G) (fun _ F' G' => CWS F0 G0 F' G')) (x1 : Int32) (x2 : Int32) (F : PF) (G : PG) (hK : CWS F0 G0 F G) : PP (cb_X4_walk_176 fu ag_7 x1 x2 F G) (fun _ F' G' => CWS F0 G0 F' G') := by
  unfold cb_X4_walk_176
  exact kwj_X4_walk_245 ag_7 hag_7 x1 x2 F G hK
theorem kwj_X4_walk_172 {fu : Nat} {F0 : PF} {G0 : PG} (ag_7 : Int32 → Int32 → PF → PG → PR) (hag_7 : ∀ (x1 : Int32) (x2 : Int32) (F : PF) (G : PG) (hK : CWS F0 G0 F G), PP (ag_7 x1 x2 F G) (fun _ F' G' => CWS F0 G0 F' G')) (x1 : Int32) (x2 : Int32) (F : PF) (G : PG) (hK : CWS F0 G0 F G) : PP (cb_X4_walk_172 fu ag_7 x1 x2 F G) (fun _ F' G' => CWS F0 G0 F' G') := by
  unfold cb_X4_walk_172
  refine PP.bind (cw_X4_endFunction F G) ?_
  intro r1 F1 G1 hK1
  dsimp only
  exact kwj_X4_walk_176 ag_7 hag_7 x1 x2 F1 G1 (CWS.tr hK (CWS.k hK1 rfl))
theorem kwj_X4_walk_168 {fu : Nat} {F0 : PF} {G0 : PG} (ag_7 : Int32 → Int32 → PF → PG → PR) (hag_7 : ∀ (x1 : Int32) (x2 : Int32) (F : PF) (G : PG) (hK : CWS F0 G0 F G), PP (ag_7 x1 x2 F G) (fun _ F' G' => CWS F0 G0 F' G')) (x1 : Int32) (x2 : Int32) (F : PF) (G : PG) (hK : CWS F0 G0 F G) : PP (cb_X4_walk_168 fu ag_7 x1 x2 F G) (fun _ F' G' => CWS F0 G0 F' G') := by
  unfold cb_X4_walk_168
  refine PP.bind (cw_X4_block F G) ?_
  intro r1 F1 G1 hK1
  dsimp only
  exact kwj_X4_walk_172 ag_7 hag_7 x1 x2 F1 G1 (CWS.tr hK (CWS.k hK1 rfl))
theorem kwj_X4_walk_165 {fu : Nat} {F0 : PF} {G0 : PG} (ag_7 : Int32 → Int32 → PF → PG → PR) (hag_7 : ∀ (x1 : Int32) (x2 : Int32) (F : PF) (G : PG) (hK : CWS F0 G0 F G), PP (ag_7 x1 x2 F G) (fun _ F' G' => CWS F0 G0 F' G')) (x1 : Int32) (x2 : Int32) (z0 : Int32) (F : PF) (G : PG) (hK : CWS F0 G0 F G) : PP (cb_X4_walk_165 fu ag_7 x1 x2 z0 F G) (fun _ F' G' => CWS F0 G0 F' G') := by
  unfold cb_X4_walk_165
  refine PP.bind (kw_X4_formals z0 F G) ?_
  intro r1 F1 G1 hK1
  dsimp only
  exact kwj_X4_walk_168 ag_7 hag_7 x1 x2 F1 G1 (CWS.tr hK hK1)
theorem kwj_X4_walk_160 {fu : Nat} {F0 : PF} {G0 : PG} (ag_7 : Int32 → Int32 → PF → PG → PR) (hag_7 : ∀ (x1 : Int32) (x2 : Int32) (F : PF) (G : PG) (hK : CWS F0 G0 F G), PP (ag_7 x1 x2 F G) (fun _ F' G' => CWS F0 G0 F' G')) (x1 : Int32) (x2 : Int32) (F : PF) (G : PG) (hK : CWS F0 G0 F G) : PP (cb_X4_walk_160 fu ag_7 x1 x2 F G) (fun _ F' G' => CWS F0 G0 F' G') := by
  unfold cb_X4_walk_160
  exact kwj_X4_walk_165 ag_7 hag_7 x1 x2 (1 : Int32) F G hK
theorem kwj_X4_walk_164 {fu : Nat} {F0 : PF} {G0 : PG} (ag_7 : Int32 → Int32 → PF → PG → PR) (hag_7 : ∀ (x1 : Int32) (x2 : Int32) (F : PF) (G : PG) (hK : CWS F0 G0 F G), PP (ag_7 x1 x2 F G) (fun _ F' G' => CWS F0 G0 F' G')) (x1 : Int32) (x2 : Int32) (F : PF) (G : PG) (hK : CWS F0 G0 F G) : PP (cb_X4_walk_164 fu ag_7 x1 x2 F G) (fun _ F' G' => CWS F0 G0 F' G') := by
  unfold cb_X4_walk_164
  exact kwj_X4_walk_165 ag_7 hag_7 x1 x2 (0 : Int32) F G hK
theorem kwj_X4_walk_150 {fu : Nat} {F0 : PF} {G0 : PG} (ag_7 : Int32 → Int32 → PF → PG → PR) (hag_7 : ∀ (x1 : Int32) (x2 : Int32) (F : PF) (G : PG) (hK : CWS F0 G0 F G), PP (ag_7 x1 x2 F G) (fun _ F' G' => CWS F0 G0 F' G')) (x1 : Int32) (x2 : Int32) (x5 : Int32) (F : PF) (G : PG) (hK : CWS F0 G0 F G) : PP (cb_X4_walk_150 fu ag_7 x1 x2 x5 F G) (fun _ F' G' => CWS F0 G0 F' G') := by
  unfold cb_X4_walk_150
  refine PP.ite (fun c_1 => ?_) (fun c_1 => ?_)
  · skip
    exact kwj_X4_walk_160 ag_7 hag_7 x1 x2 F G hK
  · skip
    exact kwj_X4_walk_164 ag_7 hag_7 x1 x2 F G hK
theorem kwj_X4_walk_147 {fu : Nat} {F0 : PF} {G0 : PG} (ag_7 : Int32 → Int32 → PF → PG → PR) (hag_7 : ∀ (x1 : Int32) (x2 : Int32) (F : PF) (G : PG) (hK : CWS F0 G0 F G), PP (ag_7 x1 x2 F G) (fun _ F' G' => CWS F0 G0 F' G')) (x1 : Int32) (x2 : Int32) (x5 : Int32) (z0 : Int32) (z1 : Int32) (z2 : Int32) (F : PF) (G : PG) (hK : CWS F0 G0 F G) : PP (cb_X4_walk_147 fu ag_7 x1 x2 x5 z0 z1 z2 F G) (fun _ F' G' => CWS F0 G0 F' G') := by
  unfold cb_X4_walk_147
  refine PP.bind (kw_X4_startFunction z2 z1 z0 F G) ?_
  intro r1 F1 G1 hK1
  dsimp only
  exact kwj_X4_walk_150 ag_7 hag_7 x1 x2 x5 F1 G1 (CWS.tr hK hK1)
theorem kwj_X4_walk_142 {fu : Nat} {F0 : PF} {G0 : PG} (ag_7 : Int32 → Int32 → PF → PG → PR) (hag_7 : ∀ (x1 : Int32) (x2 : Int32) (F : PF) (G : PG) (hK : CWS F0 G0 F G), PP (ag_7 x1 x2 F G) (fun _ F' G' => CWS F0 G0 F' G')) (x1 : Int32) (x2 : Int32) (x5 : Int32) (z0 : Int32) (z1 : Int32) (F : PF) (G : PG) (hK : CWS F0 G0 F G) : PP (cb_X4_walk_142 fu ag_7 x1 x2 x5 z0 z1 F G) (fun _ F' G' => CWS F0 G0 F' G') := by
  unfold cb_X4_walk_142
  exact kwj_X4_walk_147 ag_7 hag_7 x1 x2 x5 (1 : Int32) z0 z1 F G hK
theorem kwj_X4_walk_146 {fu : Nat} {F0 : PF} {G0 : PG} (ag_7 : Int32 → Int32 → PF → PG → PR) (hag_7 : ∀ (x1 : Int32) (x2 : Int32) (F : PF) (G : PG) (hK : CWS F0 G0 F G), PP (ag_7 x1 x2 F G) (fun _ F' G' => CWS F0 G0 F' G')) (x1 : Int32) (x2 : Int32) (x5 : Int32) (z0 : Int32) (z1 : Int32) (F : PF) (G : PG) (hK : CWS F0 G0 F G) : PP (cb_X4_walk_146 fu ag_7 x1 x2 x5 z0 z1 F G) (fun _ F' G' => CWS F0 G0 F' G') := by
  unfold cb_X4_walk_146
  exact kwj_X4_walk_147 ag_7 hag_7 x1 x2 x5 (0 : Int32) z0 z1 F G hK
theorem kwj_X4_walk_131 {fu : Nat} {F0 : PF} {G0 : PG} (ag_7 : Int32 → Int32 → PF → PG → PR) (hag_7 : ∀ (x1 : Int32) (x2 : Int32) (F : PF) (G : PG) (hK : CWS F0 G0 F G), PP (ag_7 x1 x2 F G) (fun _ F' G' => CWS F0 G0 F' G')) (x1 : Int32) (x2 : Int32) (x4 : Int32) (x5 : Int32) (x6 : Int32) (F : PF) (G : PG) (hK : CWS F0 G0 F G) : PP (cb_X4_walk_131 fu ag_7 x1 x2 x4 x5 x6 F G) (fun _ F' G' => CWS F0 G0 F' G') := by
  unfold cb_X4_walk_131
  refine PP.ite (fun c_1 => ?_) (fun c_1 => ?_)
  · skip
    exact kwj_X4_walk_142 ag_7 hag_7 x1 x2 x5 x6 x5 F G hK
  · skip
    exact kwj_X4_walk_146 ag_7 hag_7 x1 x2 x5 x6 x5 F G hK
theorem kwj_X4_walk_125 {fu : Nat} {F0 : PF} {G0 : PG} (ag_7 : Int32 → Int32 → PF → PG → PR) (hag_7 : ∀ (x1 : Int32) (x2 : Int32) (F : PF) (G : PG) (hK : CWS F0 G0 F G), PP (ag_7 x1 x2 F G) (fun _ F' G' => CWS F0 G0 F' G')) (x1 : Int32) (x2 : Int32) (x4 : Int32) (x5 : Int32) (x6 : Int32) (F : PF) (G : PG) (hK : CWS F0 G0 F G) : PP (cb_X4_walk_125 fu ag_7 x1 x2 x4 x5 x6 F G) (fun _ F' G' => CWS F0 G0 F' G') := by
  unfold cb_X4_walk_125
  refine PP.ite (fun c_1 => ?_) (fun c_1 => ?_)
  · skip
    exact kwj_X4_walk_179 ag_7 hag_7 x1 x2 x4 x5 x6 F G hK
  · skip
    exact kwj_X4_walk_131 ag_7 hag_7 x1 x2 x4 x5 x6 F G hK
theorem kwj_X4_walk_113 {fu : Nat} {F0 : PF} {G0 : PG} (ag_7 : Int32 → Int32 → PF → PG → PR) (hag_7 : ∀ (x1 : Int32) (x2 : Int32) (F : PF) (G : PG) (hK : CWS F0 G0 F G), PP (ag_7 x1 x2 F G) (fun _ F' G' => CWS F0 G0 F' G')) (x1 : Int32) (x2 : Int32) (x4 : Int32) (x5 : Int32) (x6 : Int32) (F : PF) (G : PG) (hK : CWS F0 G0 F G) : PP (cb_X4_walk_113 fu ag_7 x1 x2 x4 x5 x6 F G) (fun _ F' G' => CWS F0 G0 F' G') := by
  unfold cb_X4_walk_113
  refine PP.ite (fun c_1 => ?_) (fun c_1 => ?_)
  · skip
    exact kwj_X4_walk_125 ag_7 hag_7 x1 x2 x4 x5 x6 F G hK
  · skip
    exact kwj_X4_walk_179 ag_7 hag_7 x1 x2 x4 x5 x6 F G hK
theorem kwj_X4_walk_110 {fu : Nat} {F0 : PF} {G0 : PG} (ag_7 : Int32 → Int32 → PF → PG → PR) (hag_7 : ∀ (x1 : Int32) (x2 : Int32) (F : PF) (G : PG) (hK : CWS F0 G0 F G), PP (ag_7 x1 x2 F G) (fun _ F' G' => CWS F0 G0 F' G')) (x1 : Int32) (x2 : Int32) (F : PF) (G : PG) (hK : CWS F0 G0 F G) : PP (cb_X4_walk_110 fu ag_7 x1 x2 F G) (fun _ F' G' => CWS F0 G0 F' G') := by
  unfold cb_X4_walk_110
  exact kwj_X4_walk_245 ag_7 hag_7 x1 x2 F G hK
theorem kwj_X4_walk_102 {fu : Nat} {F0 : PF} {G0 : PG} (ag_7 : Int32 → Int32 → PF → PG → PR) (hag_7 : ∀ (x1 : Int32) (x2 : Int32) (F : PF) (G : PG) (hK : CWS F0 G0 F G), PP (ag_7 x1 x2 F G) (fun _ F' G' => CWS F0 G0 F' G')) (x1 : Int32) (x2 : Int32) (x5 : Int32) (x6 : Int32) (F : PF) (G : PG) (hK : CWS F0 G0 F G) : PP (cb_X4_walk_102 fu ag_7 x1 x2 x5 x6 F G) (fun _ F' G' => CWS F0 G0 F' G') := by
  unfold cb_X4_walk_102
  refine PP.bind (cw_X4_constTold x5 x6 F G) ?_
  intro r1 F1 G1 hK1
  dsimp only
  exact kwj_X4_walk_110 ag_7 hag_7 x1 x2 F1 G1 (CWS.tr hK (CWS.k hK1 rfl))
theorem kwj_X4_walk_98 {fu : Nat} {F0 : PF} {G0 : PG} (ag_7 : Int32 → Int32 → PF → PG → PR) (hag_7 : ∀ (x1 : Int32) (x2 : Int32) (F : PF) (G : PG) (hK : CWS F0 G0 F G), PP (ag_7 x1 x2 F G) (fun _ F' G' => CWS F0 G0 F' G')) (x1 : Int32) (x2 : Int32) (x3 : Int32) (x4 : Int32) (x5 : Int32) (x6 : Int32) (F : PF) (G : PG) (hK : CWS F0 G0 F G) : PP (cb_X4_walk_98 fu ag_7 x1 x2 x3 x4 x5 x6 F G) (fun _ F' G' => CWS F0 G0 F' G') := by
  unfold cb_X4_walk_98
  refine PP.ite (fun c_1 => ?_) (fun c_1 => ?_)
  · skip
    exact kwj_X4_walk_113 ag_7 hag_7 x1 x2 x4 x5 x6 F G hK
  · skip
    exact kwj_X4_walk_102 ag_7 hag_7 x1 x2 x5 x6 F G hK
theorem kwj_X4_walk_70 {fu : Nat} {F0 : PF} {G0 : PG} (ag_7 : Int32 → Int32 → PF → PG → PR) (hag_7 : ∀ (x1 : Int32) (x2 : Int32) (F : PF) (G : PG) (hK : CWS F0 G0 F G), PP (ag_7 x1 x2 F G) (fun _ F' G' => CWS F0 G0 F' G')) (x1 : Int32) (x2 : Int32) (x3 : Int32) (z0 : Int32) (F : PF) (G : PG) (hK : CWS F0 G0 F G) : PP (cb_X4_walk_70 fu ag_7 x1 x2 x3 z0 F G) (fun _ F' G' => CWS F0 G0 F' G') := by
  unfold cb_X4_walk_70
  refine PP.bind (cw_X2_expect (2 : Int32) F G) ?_
  intro r1 F1 G1 hK1
  dsimp only
  exact kwj_X4_walk_98 ag_7 hag_7 x1 x2 x3 z0 (F 12) (F 13) F1 G1 (CWS.tr hK (CWS.k hK1 rfl))
theorem kwj_X4_walk_65 {fu : Nat} {F0 : PF} {G0 : PG} (ag_7 : Int32 → Int32 → PF → PG → PR) (hag_7 : ∀ (x1 : Int32) (x2 : Int32) (F : PF) (G : PG) (hK : CWS F0 G0 F G), PP (ag_7 x1 x2 F G) (fun _ F' G' => CWS F0 G0 F' G')) (x1 : Int32) (x2 : Int32) (x3 : Int32) (F : PF) (G : PG) (hK : CWS F0 G0 F G) : PP (cb_X4_walk_65 fu ag_7 x1 x2 x3 F G) (fun _ F' G' => CWS F0 G0 F' G') := by
  unfold cb_X4_walk_65
  refine PP.bind (cw_X4_kindWord x3 F G) ?_
  intro r1 F1 G1 hK1
  dsimp only
  exact kwj_X4_walk_70 ag_7 hag_7 x1 x2 x3 r1 F1 G1 (CWS.tr hK (CWS.k hK1 rfl))
theorem kwj_X4_walk_58 {fu : Nat} {F0 : PF} {G0 : PG} (ag_7 : Int32 → Int32 → PF → PG → PR) (hag_7 : ∀ (x1 : Int32) (x2 : Int32) (F : PF) (G : PG) (hK : CWS F0 G0 F G), PP (ag_7 x1 x2 F G) (fun _ F' G' => CWS F0 G0 F' G')) (x1 : Int32) (x2 : Int32) (x3 : Int32) (F : PF) (G : PG) (hK : CWS F0 G0 F G) : PP (cb_X4_walk_58 fu ag_7 x1 x2 x3 F G) (fun _ F' G' => CWS F0 G0 F' G') := by
  unfold cb_X4_walk_58
  refine PP.bind (cw_X2_next F G) ?_
  intro r1 F1 G1 hK1
  dsimp only
  exact kwj_X4_walk_65 ag_7 hag_7 x1 x2 x3 F1 G1 (CWS.tr hK (CWS.k hK1 rfl))
theorem kwj_X4_walk_53 {fu : Nat} {F0 : PF} {G0 : PG} (ag_7 : Int32 → Int32 → PF → PG → PR) (hag_7 : ∀ (x1 : Int32) (x2 : Int32) (F : PF) (G : PG) (hK : CWS F0 G0 F G), PP (ag_7 x1 x2 F G) (fun _ F' G' => CWS F0 G0 F' G')) (x1 : Int32) (x2 : Int32) (z0 : Int32) (F : PF) (G : PG) (hK : CWS F0 G0 F G) : PP (cb_X4_walk_53 fu ag_7 x1 x2 z0 F G) (fun _ F' G' => CWS F0 G0 F' G') := by
  unfold cb_X4_walk_53
  refine PP.ite (fun c_1 => ?_) (fun c_1 => ?_)
  · skip
    exact kwj_X4_walk_65 ag_7 hag_7 x1 x2 z0 F G hK
  · skip
    exact kwj_X4_walk_58 ag_7 hag_7 x1 x2 z0 F G hK
theorem kwj_X4_walk_48 {fu : Nat} {F0 : PF} {G0 : PG} (ag_7 : Int32 → Int32 → PF → PG → PR) (hag_7 : ∀ (x1 : Int32) (x2 : Int32) (F : PF) (G : PG) (hK : CWS F0 G0 F G), PP (ag_7 x1 x2 F G) (fun _ F' G' => CWS F0 G0 F' G')) (x1 : Int32) (x2 : Int32) (F : PF) (G : PG) (hK : CWS F0 G0 F G) : PP (cb_X4_walk_48 fu ag_7 x1 x2 F G) (fun _ F' G' => CWS F0 G0 F' G') := by
  unfold cb_X4_walk_48
  exact kwj_X4_walk_53 ag_7 hag_7 x1 x2 (1 : Int32) F G hK
theorem kwj_X4_walk_52 {fu : Nat} {F0 : PF} {G0 : PG} (ag_7 : Int32 → Int32 → PF → PG → PR) (hag_7 : ∀ (x1 : Int32) (x2 : Int32) (F : PF) (G : PG) (hK : CWS F0 G0 F G), PP (ag_7 x1 x2 F G) (fun _ F' G' => CWS F0 G0 F' G')) (x1 : Int32) (x2 : Int32) (F : PF) (G : PG) (hK : CWS F0 G0 F G) : PP (cb_X4_walk_52 fu ag_7 x1 x2 F G) (fun _ F' G' => CWS F0 G0 F' G') := by
  unfold cb_X4_walk_52
  exact kwj_X4_walk_53 ag_7 hag_7 x1 x2 (0 : Int32) F G hK
theorem kwj_X4_walk_36 {fu : Nat} {F0 : PF} {G0 : PG} (ag_7 : Int32 → Int32 → PF → PG → PR) (hag_7 : ∀ (x1 : Int32) (x2 : Int32) (F : PF) (G : PG) (hK : CWS F0 G0 F G), PP (ag_7 x1 x2 F G) (fun _ F' G' => CWS F0 G0 F' G')) (x1 : Int32) (x2 : Int32) (F : PF) (G : PG) (hK : CWS F0 G0 F G) : PP (cb_X4_walk_36 fu ag_7 x1 x2 F G) (fun _ F' G' => CWS F0 G0 F' G') := by
  unfold cb_X4_walk_36
  refine PP.ite (fun c_1 => ?_) (fun c_1 => ?_)
  · skip
    exact kwj_X4_walk_48 ag_7 hag_7 x1 x2 F G hK
  · skip
    exact kwj_X4_walk_52 ag_7 hag_7 x1 x2 F G hK
theorem kwj_X4_walk_24 {fu : Nat} {F0 : PF} {G0 : PG} (ag_7 : Int32 → Int32 → PF → PG → PR) (hag_7 : ∀ (x1 : Int32) (x2 : Int32) (F : PF) (G : PG) (hK : CWS F0 G0 F G), PP (ag_7 x1 x2 F G) (fun _ F' G' => CWS F0 G0 F' G')) (x1 : Int32) (x2 : Int32) (F : PF) (G : PG) (hK : CWS F0 G0 F G) : PP (cb_X4_walk_24 fu ag_7 x1 x2 F G) (fun _ F' G' => CWS F0 G0 F' G') := by
  unfold cb_X4_walk_24
  refine PP.ite (fun c_1 => ?_) (fun c_1 => ?_)
  · skip
    exact kwj_X4_walk_251 x1 F G hK
  · skip
    exact kwj_X4_walk_36 ag_7 hag_7 x1 x2 F G hK
theorem kwj_X4_walk_14 {fu : Nat} {F0 : PF} {G0 : PG} (ag_7 : Int32 → Int32 → PF → PG → PR) (hag_7 : ∀ (x1 : Int32) (x2 : Int32) (F : PF) (G : PG) (hK : CWS F0 G0 F G), PP (ag_7 x1 x2 F G) (fun _ F' G' => CWS F0 G0 F' G')) (x1 : Int32) (x2 : Int32) (F : PF) (G : PG) (hK : CWS F0 G0 F G) : PP (cb_X4_walk_14 fu ag_7 x1 x2 F G) (fun _ F' G' => CWS F0 G0 F' G') := by
  unfold cb_X4_walk_14
  refine PP.ite (fun c_1 => ?_) (fun c_1 => ?_)
  · skip
    exact kwj_X4_walk_251 x1 F G hK
  · skip
    exact kwj_X4_walk_24 ag_7 hag_7 x1 x2 F G hK
theorem kwz_X4_walk_7 {fu : Nat} {F0 : PF} {G0 : PG} : ∀ (n : Nat) (x1 : Int32) (x2 : Int32) (F : PF) (G : PG) (hK : CWS F0 G0 F G), PP (cl_X4_walk_7 fu n x1 x2 F G) (fun _ F' G' => CWS F0 G0 F' G') := by
  intro n
  induction n with
  | zero =>
    intro x1 x2 F G hK
    exact PP.no
  | succ n ihn =>
    intro x1 x2 F G hK
    show PP (cb_X4_walk_7 fu (cl_X4_walk_7 fu n) x1 x2 F G) _
    unfold cb_X4_walk_7
    refine PP.ite (fun c_1 => ?_) (fun c_1 => ?_)
    · skip
      exact kwj_X4_walk_251 x1 F G hK
    · skip
      exact kwj_X4_walk_14 (cl_X4_walk_7 fu n) ihn x1 x2 F G hK
theorem kwj_X4_walk_5 {fu : Nat} {F0 : PF} {G0 : PG} (x1 : Int32) (F : PF) (G : PG) (hK : CWS F0 G0 F G) : PP (cb_X4_walk_5 fu x1 F G) (fun _ F' G' => CWS F0 G0 F' G') := by
  unfold cb_X4_walk_5
  exact kwz_X4_walk_7 fu x1 (0 : Int32) F G hK
theorem kw_X4_walk {fu : Nat} (x1 : Int32) (F : PF) (G : PG) : PP (cf_X4_walk fu x1 F G) (fun _ F' G' => CWS F G F' G') := by
  unfold cf_X4_walk
  unfold cb_X4_walk_0
  refine PP.bind (cw_X4_start x1 F G) ?_
  intro r1 F1 G1 hK1
  dsimp only
  exact kwj_X4_walk_5 x1 F1 G1 (CWS.tr CWS.rf (CWS.k hK1 rfl))
theorem kwj_X11_read_88 {fu : Nat} {F0 : PF} {G0 : PG} (x1 : Int32) (F : PF) (G : PG) (hK : CWS F0 G0 F G) : PP (cb_X11_read_88 fu x1 F G) (fun _ F' G' => CWS F0 G0 F' G') := by
  unfold cb_X11_read_88
  refine PP.ret ?_
  exact hK
theorem kwj_X11_read_80 {fu : Nat} {F0 : PF} {G0 : PG} (x1 : Int32) (F : PF) (G : PG) (hK : CWS F0 G0 F G) : PP (cb_X11_read_80 fu x1 F G) (fun _ F' G' => CWS F0 G0 F' G') := by
  unfold cb_X11_read_80
  exact kwj_X11_read_88 x1 (fup F 88 (0 : Int32)) G (CWS.f (k := 88) rfl hK)
theorem kwj_X11_read_77 {fu : Nat} {F0 : PF} {G0 : PG} (x1 : Int32) (z0 : Int32) (F : PF) (G : PG) (hK : CWS F0 G0 F G) : PP (cb_X11_read_77 fu x1 z0 F G) (fun _ F' G' => CWS F0 G0 F' G') := by
  unfold cb_X11_read_77
  refine PP.bz (fun _ => ?_)
  exact kwj_X11_read_80 x1 (fup F 73 z0) G (CWS.f (k := 73) rfl hK)
theorem kwj_X11_read_72 {fu : Nat} {F0 : PF} {G0 : PG} (x1 : Int32) (F : PF) (G : PG) (hK : CWS F0 G0 F G) : PP (cb_X11_read_72 fu x1 F G) (fun _ F' G' => CWS F0 G0 F' G') := by
  unfold cb_X11_read_72
  exact kwj_X11_read_77 x1 (1 : Int32) F G hK
theorem kwj_X11_read_76 {fu : Nat} {F0 : PF} {G0 : PG} (x1 : Int32) (F : PF) (G : PG) (hK : CWS F0 G0 F G) : PP (cb_X11_read_76 fu x1 F G) (fun _ F' G' => CWS F0 G0 F' G') := by
  unfold cb_X11_read_76
  exact kwj_X11_read_77 x1 (0 : Int32) F G hK
theorem kwj_X11_read_64 {fu : Nat} {F0 : PF} {G0 : PG} (x1 : Int32) (F : PF) (G : PG) (hK : CWS F0 G0 F G) : PP (cb_X11_read_64 fu x1 F G) (fun _ F' G' => CWS F0 G0 F' G') := by
  unfold cb_X11_read_64
  refine PP.ite (fun c_1 => ?_) (fun c_1 => ?_)
  · skip
    exact kwj_X11_read_72 x1 F G hK
  · skip
    exact kwj_X11_read_76 x1 F G hK
theorem kwj_X11_read_63 {fu : Nat} {F0 : PF} {G0 : PG} (z0 : Int32) (F : PF) (G : PG) (hK : CWS F0 G0 F G) : PP (cb_X11_read_63 fu z0 F G) (fun _ F' G' => CWS F0 G0 F' G') := by
  unfold cb_X11_read_63
  exact kwj_X11_read_64 z0 F G hK
theorem kwj_X11_read_55 {fu : Nat} {F0 : PF} {G0 : PG} (F : PF) (G : PG) (hK : CWS F0 G0 F G) : PP (cb_X11_read_55 fu F G) (fun _ F' G' => CWS F0 G0 F' G') := by
  unfold cb_X11_read_55
  refine PP.bind (kw_X4_walk (1 : Int32) F G) ?_
  intro r1 F1 G1 hK1
  dsimp only
  exact kwj_X11_read_63 r1 F1 G1 (CWS.tr hK hK1)
theorem kwj_X11_read_50 {fu : Nat} {F0 : PF} {G0 : PG} (z0 : Int32) (F : PF) (G : PG) (hK : CWS F0 G0 F G) : PP (cb_X11_read_50 fu z0 F G) (fun _ F' G' => CWS F0 G0 F' G') := by
  unfold cb_X11_read_50
  refine PP.ite (fun c_1 => ?_) (fun c_1 => ?_)
  · skip
    exact kwj_X11_read_55 F G hK
  · skip
    exact kwj_X11_read_64 z0 F G hK
theorem kwj_X11_read_42 {fu : Nat} {F0 : PF} {G0 : PG} (F : PF) (G : PG) (hK : CWS F0 G0 F G) : PP (cb_X11_read_42 fu F G) (fun _ F' G' => CWS F0 G0 F' G') := by
  unfold cb_X11_read_42
  refine PP.bind (kw_X4_walk (0 : Int32) F G) ?_
  intro r1 F1 G1 hK1
  dsimp only
  exact kwj_X11_read_50 r1 F1 G1 (CWS.tr hK hK1)
/-- a read leaves formalWords as they must be -/
theorem kw_read {fu : Nat} (F : PF) (G : PG) : PP (cf_X11_read fu F G) (fun _ F' G' => jFW F' G') := by
  unfold cf_X11_read cb_X11_read_0
  refine PP.bind (PP.tt (a := cf_X6_forget fu F G)) (fun r1 F1 G1 _ => ?_)
  dsimp only
  unfold cb_X11_read_7
  refine PP.bind (PP.tt (a := cf_X7_forgetInput fu F1 G1)) (fun r2 F2 G2 _ => ?_)
  dsimp only
  unfold cb_X11_read_14
  refine PP.bind (PP.tt (a := cf_X7_forgetOutput fu F2 G2)) (fun r3 F3 G3 _ => ?_)
  dsimp only
  unfold cb_X11_read_21
  refine PP.bind (PP.tt (a := cf_X10_scan fu F3 G3)) (fun r4 F4 G4 _ => ?_)
  dsimp only
  unfold cb_X11_read_28
  refine PP.bind (PP.tt (a := cf_X10_mainId fu F4 G4)) (fun r5 F5 G5 _ => ?_)
  dsimp only
  unfold cb_X11_read_39
  refine PP.bind (cp_clear4 r5 F5 G5) (fun r6 F6 G6 h => ?_)
  dsimp only
  refine PP.mono (kwj_X11_read_42 F6 G6 CWS.rf) (fun _ F' G' w => w ?_)
  have l0 : (0 : Int32).toInt = 0 := rfl
  unfold jFW
  rw [h.2.2.1.1, h.2.2.1.2.2.2]
  exact ⟨by omega, by omega, fun f hf => by omega⟩
