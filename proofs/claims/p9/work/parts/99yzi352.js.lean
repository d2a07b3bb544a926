theorem mp_mean14 {fu nf t : Nat} {x1 : Int32} {F : PF} {G : PG} (u : jSU nf t G) (ht : t ≤ 900) : ∀ (n : Nat) (x2 x3 : Int32), x2.toInt < t → -1 ≤ x2.toInt → ((x3 = -1 ∧ ∀ k : Nat, x2.toInt < k → k < t → ¬ G 16 k = G 5 x1.toNatClampNeg) ∨ ∃ b : Nat, b < t ∧ x2.toInt < b ∧ x3 = nI b ∧ G 16 b = G 5 x1.toNatClampNeg ∧ ∀ i : Nat, b < i → i < t → ¬ G 16 i = G 5 x1.toNatClampNeg) → PP (ml_meaning_14 fu n x1 x2 x3 F G) (fun r F' G' => ∃ y : Int32, jLa (G 16) t (G 5 x1.toNatClampNeg) y ∧ mb_meaning_61 fu x1 y F G = some (r, F', G')) := by
  have l0 : (0 : Int32).toInt = 0 := rfl
  intro n
  induction n with
  | zero => intro x2 x3 h1 h2 h; exact PP.no
  | succ n ih =>
    intro x2 x3 h1 h2 h
    show PP (mb_meaning_14 fu (ml_meaning_14 fu n) x1 x2 x3 F G) _
    unfold mb_meaning_14
    refine PP.ite (fun c => ?_) (fun c => ?_)
    · have c := i_lt.mp c
      intro r F' G' e
      refine ⟨x3, ?_, e⟩
      rcases h with ⟨q1, q2⟩ | ⟨b, q1, q2, q3, q4, q5⟩
      · exact .inl ⟨q1, fun k hk => q2 k (by omega) hk⟩
      · exact .inr ⟨b, q1, q3, q4, q5⟩
    · have c0 := i_ge0 c
      have e := i_decn c0
      have e2 : x2 = nI x2.toInt.toNat := (jnI c0).symm
      unfold mb_meaning_18 mb_meaning_23
      rcases h with ⟨q1, q2⟩ | ⟨b, q1, q2, q3, q4, q5⟩
      · rw [if_pos q1]
        unfold mb_meaning_38
        refine PP.ix (fun _ => PP.ix (fun _ => PP.ite (fun q => ?_) (fun q => ?_)))
        · unfold mb_meaning_53 mb_meaning_55
          refine ih (x2 + (-1)) x2 (by rw [e]; omega) (by rw [e]; omega) (.inr ⟨x2.toInt.toNat, by omega, by rw [e]; omega, e2, q, fun i i1 i2 => q2 i (by omega) i2⟩)
        · unfold mb_meaning_55
          refine ih (x2 + (-1)) x3 (by rw [e]; omega) (by rw [e]; omega) (.inl ⟨q1, fun k k1 k2 => ?_⟩)
          rw [e] at k1
          by_cases z : (k : Int) = x2.toInt
          · rw [show k = x2.toInt.toNat by omega]
            exact q
          · exact q2 k (by omega) k2
      · have e3 : x3.toInt = b := by rw [q3, nI_toInt (by omega)]
        rw [if_neg (fun z => by rw [z] at e3; have l : (-1 : Int32).toInt = -1 := rfl; omega)]
        have en : x3.toNatClampNeg = b := by
          show x3.toInt.toNat = b
          omega
        rw [en]
        refine PP.ix (fun _ => PP.ix (fun _ => PP.ite (fun z => ?_) (fun z => ?_)))
        · unfold mb_meaning_38
          refine PP.ix (fun _ => PP.ix (fun _ => PP.ite (fun q => ?_) (fun q => ?_)))
          · exact absurd (q.trans q4.symm) (u.2.1 x2.toInt.toNat b (by omega) q1 z)
          · unfold mb_meaning_55
            exact ih (x2 + (-1)) x3 (by rw [e]; omega) (by rw [e]; omega) (.inr ⟨b, q1, by rw [e]; omega, q3, q4, q5⟩)
        · intro r F' G' e1
          exact ⟨x3, .inr ⟨b, q1, q3, q4, q5⟩, e1⟩
theorem mp_mean {fu nf t : Nat} (x1 : Int32) {F : PF} {G : PG} (u : jSU nf t G) (h14 : (F 14).toInt = t) (h24 : (F 24).toInt = nf) (ht : t ≤ 900) (hn : nf ≤ 500) : PP (mf_meaning fu x1 F G) (fun r F' G' => G = G' ∧ KX [62] [] F G F' G' ∧ jMn nf t G (G 5 x1.toNatClampNeg) r (F' 62)) := by
  have l0 : (0 : Int32).toInt = 0 := rfl
  have l1 : (-1 : Int32).toInt = -1 := rfl
  intro r F' G' e
  unfold mf_meaning mb_meaning_0 mb_meaning_5 at e
  have e14 : (fup F 62 (-1) 14 - 1).toInt = (t : Int) - 1 := by
    rw [fup_n (by decide), i_dec (by omega), h14]
  obtain ⟨y, k1, k2⟩ := mp_mean14 u ht fu (fup F 62 (-1) 14 - 1) (-1) (by rw [e14]; omega) (by rw [e14]; omega) (.inl ⟨rfl, fun k q1 q2 => by rw [e14] at q1; omega⟩) r F' G' e
  have e62 : fup F 62 (-1) 62 = -1 := fup_s
  have kf : KX [62] [] F G (fup F 62 (-1)) G := KX.f rfl KX.rf
  -- behind the second loop
  have fin : ∀ F1 : PF, KX [62] [] (fup F 62 (-1)) G F1 G → (F1 62 = -1 ∧ (∀ g : Nat, g < nf → ¬ G 25 g = G 5 x1.toNatClampNeg) ∨ ∃ g : Nat, g < nf ∧ F1 62 = nI g ∧ G 25 g = G 5 x1.toNatClampNeg ∧ ∀ i : Nat, i < g → ¬ G 25 i = G 5 x1.toNatClampNeg) → (∀ b : Nat, b < t → y = nI b → G 19 b = 0) → mb_meaning_118 fu y F1 G = some (r, F', G') → G = G' ∧ KX [62] [] F G F' G' ∧ jMn nf t G (G 5 x1.toNatClampNeg) r (F' 62) := by
    intro F1 kx hf hs e1
    have kx := KX.tr kf kx rfl rfl
    unfold mb_meaning_118 at e1
    rcases k1 with ⟨q1, q2⟩ | ⟨b, q1, q2, q3, q4⟩
    · rw [if_pos q1] at e1
      unfold mb_meaning_154 mb_meaning_166 mb_meaning_162 mb_meaning_167 at e1
      rcases hf with ⟨w1, w2⟩ | ⟨g, w1, w2, w3, w4⟩
      · rw [if_pos w1] at e1
        obtain ⟨rfl, rfl, rfl⟩ := ret_el e1
        exact ⟨rfl, kx, .inr ⟨q1, q2, .inl ⟨w1, w2⟩⟩⟩
      · have wz : ¬ F1 62 = -1 := fun z => by
          rw [w2] at z
          have := congrArg Int32.toInt z
          rw [nI_toInt (by omega)] at this
          omega
        rw [if_neg wz] at e1
        obtain ⟨rfl, rfl, rfl⟩ := ret_el e1
        exact ⟨rfl, kx, .inr ⟨rfl, q2, .inr ⟨g, w1, w2, w3, w4⟩⟩⟩
    · have yb : y.toInt = b := by rw [q2, nI_toInt (by omega)]
      rw [if_neg (fun z => by rw [z] at yb; omega)] at e1
      unfold mb_meaning_123 at e1
      have done : ∀ F2 : PF, KX [62] [] F G F2 G → F2 62 = -1 → mb_meaning_154 fu y F2 G = some (r, F', G') → G = G' ∧ KX [62] [] F G F' G' ∧ jMn nf t G (G 5 x1.toNatClampNeg) r (F' 62) := by
        intro F2 kk w e2
        unfold mb_meaning_154 mb_meaning_166 mb_meaning_167 at e2
        rw [if_pos w] at e2
        obtain ⟨rfl, rfl, rfl⟩ := ret_el e2
        exact ⟨rfl, kk, .inl ⟨w, b, q1, q2, q3, q4⟩⟩
      rcases hf with ⟨w1, w2⟩ | ⟨g, w1, w2, w3, w4⟩
      · rw [if_pos w1] at e1
        exact done F1 kx w1 e1
      · have wz : ¬ F1 62 = -1 := fun z => by
          rw [w2] at z
          have := congrArg Int32.toInt z
          rw [nI_toInt (by omega)] at this
          omega
        rw [if_neg wz] at e1
        unfold mb_meaning_131 at e1
        obtain ⟨-, e1⟩ := ix_elim e1
        obtain ⟨-, e1⟩ := ix_elim e1
        have eg : (F1 62).toNatClampNeg = g := by
          show (F1 62).toInt.toNat = g
          rw [w2, nI_toInt (by omega)]
          omega
        have eb : y.toNatClampNeg = b := by
          show y.toInt.toNat = b
          omega
        rw [eg, eb] at e1
        have lt := u.2.2 b q1 (hs b q1 q2) g w1 (w3.trans q3.symm)
        rw [if_neg (fun z => by have := i_le.mp z; omega)] at e1
        unfold mb_meaning_149 at e1
        exact done _ (KX.f rfl kx) fup_s e1
  have e24 : (fup F 62 (-1) 24 - 1).toInt = (nf : Int) - 1 := by
    rw [fup_n (by decide), i_dec (by omega), h24]
  have go77 : (∀ b : Nat, b < t → y = nI b → G 19 b = 0) → mb_meaning_77 fu x1 y (fup F 62 (-1)) G = some (r, F', G') → G = G' ∧ KX [62] [] F G F' G' ∧ jMn nf t G (G 5 x1.toNatClampNeg) r (F' 62) := by
    intro hs e1
    unfold mb_meaning_77 at e1
    obtain ⟨F1, p1, p2, p3⟩ := mp_mean85 hn fu (fup F 62 (-1) 24 - 1) (fup F 62 (-1)) (by rw [e24]; omega) (by rw [e24]; omega) (.inl ⟨e62, fun g g1 g2 => by rw [e24] at g1; omega⟩) r F' G' e1
    exact fin F1 p1 p2 hs p3
  unfold mb_meaning_61 at k2
  rcases id k1 with ⟨q1, q2⟩ | ⟨b, q1, q2, q3, q4⟩
  · rw [if_pos q1] at k2
    refine go77 (fun b b1 b2 => ?_) k2
    rw [q1] at b2
    have := congrArg Int32.toInt b2
    rw [nI_toInt (by omega)] at this
    omega
  · have yb : y.toInt = b := by rw [q2, nI_toInt (by omega)]
    rw [if_neg (fun z => by rw [z] at yb; omega)] at k2
    unfold mb_meaning_66 at k2
    obtain ⟨-, k2⟩ := ix_elim k2
    have eb : y.toNatClampNeg = b := by
      show y.toInt.toNat = b
      omega
    rw [eb] at k2
    by_cases c : G 19 b = 0
    · rw [if_pos c] at k2
      refine go77 (fun b' b1 b2 => ?_) k2
      rw [q2] at b2
      have := congrArg Int32.toInt b2
      rw [nI_toInt (by omega), nI_toInt (by omega)] at this
      rw [show b' = b by omega]
      exact c
    · rw [if_neg c] at k2
      unfold mb_meaning_75 at k2
      obtain ⟨rfl, rfl, rfl⟩ := ret_el k2
      exact ⟨rfl, kf, .inl ⟨e62, b, q1, q2, q3, q4⟩⟩
theorem cp_known {fu K c : Nat} (x : Int32) {F : PF} {G : PG} (h : jSL K c G) (h0 : 0 ≤ x.toInt) (h1 : x.toInt < K) : PP (cf_X5_known fu x F G) (fun r F' G' => F = F' ∧ G = G' ∧ jLa (G 33) c x r) := by
  have l0 : (0 : Int32).toInt = 0 := rfl
  have l1 : (1408 : Int32).toInt = 1408 := rfl
  have h2 := h.1
  unfold cf_X5_known cb_X5_known_0 cb_X5_known_4 cb_X5_known_15 cb_X5_known_11 cb_X5_known_21
  refine PP.ite (fun q => absurd (i_lt.mp q) (by omega)) (fun _ => PP.ite (fun _ => PP.ix (fun _ => PP.ret ⟨rfl, rfl, ?_⟩)) (fun q => absurd (i_lt.mpr (by omega)) q))
  have := h.2.1 x.toInt.toNat (by omega)
  rw [jnI h0] at this
  exact this
/-- the class's reading of an entry -/
theorem cp_kind {fu : Nat} (x : Int32) (F : PF) (G : PG) : PP (cf_X5_kind fu x F G) (fun r F' G' => F = F' ∧ G = G' ∧ (x = -1 → r = -1) ∧ ∀ j c : Nat, (F 41).toInt = c → c ≤ 700 → j < c → x = nI j → r = G 35 j) := by
  have l0 : (0 : Int32).toInt = 0 := rfl
  unfold cf_X5_kind cb_X5_kind_0 cb_X5_kind_4 cb_X5_kind_16 cb_X5_kind_12 cb_X5_kind_22
  have no : (∀ j c : Nat, (F 41).toInt = c → c ≤ 700 → j < c → ¬ x = nI j) → PP (some (-1, F, G)) (fun r F' G' => F = F' ∧ G = G' ∧ (x = -1 → r = -1) ∧ ∀ j c : Nat, (F 41).toInt = c → c ≤ 700 → j < c → x = nI j → r = G 35 j) := fun q => PP.ret ⟨rfl, rfl, fun _ => rfl, fun j c c1 c2 j1 j2 => absurd j2 (q j c c1 c2 j1)⟩
  refine PP.ite (fun q => no (fun j c c1 c2 j1 j2 => ?_)) (fun q => PP.ite (fun _ => PP.ix (fun _ => PP.ret ⟨rfl, rfl, fun z => ?_, fun j c c1 c2 j1 j2 => ?_⟩)) (fun z => no (fun j c c1 c2 j1 j2 => z (i_lt.mpr ?_))))
  · have := i_lt.mp q
    rw [j2, nI_toInt (by omega)] at this
    omega
  · rw [z] at q
    exact absurd (by decide) q
  · rw [show x.toNatClampNeg = j by show x.toInt.toNat = j; rw [j2, nI_toInt (by omega)]; omega]
  · rw [j2, nI_toInt (by omega)]
    omega
theorem cp_value {fu : Nat} (x : Int32) (F : PF) (G : PG) : PP (cf_X5_value fu x F G) (fun r F' G' => F = F' ∧ G = G' ∧ ∀ j c : Nat, (F 41).toInt = c → c ≤ 700 → j < c → x = nI j → r = G 37 j) := by
  have l0 : (0 : Int32).toInt = 0 := rfl
  unfold cf_X5_value cb_X5_value_0 cb_X5_value_4 cb_X5_value_16 cb_X5_value_12 cb_X5_value_22
  have no : (∀ j c : Nat, (F 41).toInt = c → c ≤ 700 → j < c → ¬ x = nI j) → PP (some (0, F, G)) (fun r F' G' => F = F' ∧ G = G' ∧ ∀ j c : Nat, (F 41).toInt = c → c ≤ 700 → j < c → x = nI j → r = G 37 j) := fun q => PP.ret ⟨rfl, rfl, fun j c c1 c2 j1 j2 => absurd j2 (q j c c1 c2 j1)⟩
  refine PP.ite (fun q => no (fun j c c1 c2 j1 j2 => ?_)) (fun q => PP.ite (fun _ => PP.ix (fun _ => PP.ret ⟨rfl, rfl, fun j c c1 c2 j1 j2 => ?_⟩)) (fun z => no (fun j c c1 c2 j1 j2 => z (i_lt.mpr ?_))))
  · have := i_lt.mp q
    rw [j2, nI_toInt (by omega)] at this
    omega
  · rw [show x.toNatClampNeg = j by show x.toInt.toNat = j; rw [j2, nI_toInt (by omega)]; omega]
  · rw [j2, nI_toInt (by omega)]
    omega
theorem cp_size {fu : Nat} (x : Int32) (F : PF) (G : PG) : PP (cf_X5_size fu x F G) (fun r F' G' => F = F' ∧ G = G' ∧ ∀ j c : Nat, (F 41).toInt = c → c ≤ 700 → j < c → x = nI j → r = G 38 j) := by
  have l0 : (0 : Int32).toInt = 0 := rfl
  unfold cf_X5_size cb_X5_size_0 cb_X5_size_4 cb_X5_size_16 cb_X5_size_12 cb_X5_size_22
  have no : (∀ j c : Nat, (F 41).toInt = c → c ≤ 700 → j < c → ¬ x = nI j) → PP (some (0, F, G)) (fun r F' G' => F = F' ∧ G = G' ∧ ∀ j c : Nat, (F 41).toInt = c → c ≤ 700 → j < c → x = nI j → r = G 38 j) := fun q => PP.ret ⟨rfl, rfl, fun j c c1 c2 j1 j2 => absurd j2 (q j c c1 c2 j1)⟩
  refine PP.ite (fun q => no (fun j c c1 c2 j1 j2 => ?_)) (fun q => PP.ite (fun _ => PP.ix (fun _ => PP.ret ⟨rfl, rfl, fun j c c1 c2 j1 j2 => ?_⟩)) (fun z => no (fun j c c1 c2 j1 j2 => z (i_lt.mpr ?_))))
  · have := i_lt.mp q
    rw [j2, nI_toInt (by omega)] at this
    omega
  · rw [show x.toNatClampNeg = j by show x.toInt.toNat = j; rw [j2, nI_toInt (by omega)]; omega]
  · rw [j2, nI_toInt (by omega)]
    omega
theorem cp_isGlobal {fu : Nat} (x : Int32) (F : PF) (G : PG) : PP (cf_X5_isGlobal fu x F G) (fun r F' G' => F = F' ∧ G = G' ∧ ∀ j c : Nat, (F 41).toInt = c → c ≤ 700 → j < c → x = nI j → ((r = 1 ∧ G 34 j = 0) ∨ (r = 0 ∧ ¬ G 34 j = 0))) := by
  have l0 : (0 : Int32).toInt = 0 := rfl
  unfold cf_X5_isGlobal cb_X5_isGlobal_0 cb_X5_isGlobal_4 cb_X5_isGlobal_12 cb_X5_isGlobal_21 cb_X5_isGlobal_25 cb_X5_isGlobal_26
  have no : (∀ j c : Nat, (F 41).toInt = c → c ≤ 700 → j < c → ¬ x = nI j) → PP (if b01 0 = true then some (0, F, G) else none) (fun r F' G' => F = F' ∧ G = G' ∧ ∀ j c : Nat, (F 41).toInt = c → c ≤ 700 → j < c → x = nI j → ((r = 1 ∧ G 34 j = 0) ∨ (r = 0 ∧ ¬ G 34 j = 0))) := fun q => PP.bz (fun _ => PP.ret ⟨rfl, rfl, fun j c c1 c2 j1 j2 => absurd j2 (q j c c1 c2 j1)⟩)
  have ex : ∀ j c : Nat, c ≤ 700 → j < c → x = nI j → x.toNatClampNeg = j := fun j c c2 j1 j2 => by show x.toInt.toNat = j; rw [j2, nI_toInt (by omega)]; omega
  refine PP.ite (fun q => no (fun j c c1 c2 j1 j2 => ?_)) (fun q => PP.ite (fun z => no (fun j c c1 c2 j1 j2 => ?_)) (fun z => PP.ix (fun _ => PP.ite (fun y => PP.bz (fun _ => PP.ret ⟨rfl, rfl, fun j c c1 c2 j1 j2 => ?_⟩)) (fun y => PP.bz (fun _ => PP.ret ⟨rfl, rfl, fun j c c1 c2 j1 j2 => ?_⟩)))))
  · have := i_lt.mp q
    rw [j2, nI_toInt (by omega)] at this
    omega
  · have := i_le.mp z
    rw [j2, nI_toInt (by omega)] at this
    omega
  · rw [ex j c c2 j1 j2] at y
    exact .inl ⟨rfl, y⟩
  · rw [ex j c c2 j1 j2] at y
    exact .inr ⟨rfl, y⟩
