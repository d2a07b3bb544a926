section JW4
variable {fu : Nat}
/-- the reference leaves a scope -/
theorem mp_ends0 {x1 : Int32} {G : PG} : ∀ (n t : Nat) (F : PF), (F 14).toInt = t → t ≤ 900 → PP (ml_ends_0 fu n x1 F G) (fun _ F1 G1 => G = G1 ∧ KX [14, 15] [] F G F1 G1 ∧ F1 15 = x1 ∧ ∃ t1 : Nat, t1 ≤ t ∧ (F1 14).toInt = t1 ∧ (∀ k : Nat, t1 ≤ k → k < t → x1.toInt < (G 19 k).toInt) ∧ (t1 = 0 ∨ (G 19 (t1 - 1)).toInt ≤ x1.toInt)) := by
  have l0 : (0 : Int32).toInt = 0 := rfl
  intro n
  induction n with
  | zero => intro t F _ _; exact PP.no
  | succ n ih =>
    intro t F h14 ht
    show PP (mb_ends_0 fu (ml_ends_0 fu n) x1 F G) _
    have fin : (t = 0 ∨ (G 19 (t - 1)).toInt ≤ x1.toInt) → PP (mb_ends_35 fu x1 F G) (fun _ F1 G1 => G = G1 ∧ KX [14, 15] [] F G F1 G1 ∧ F1 15 = x1 ∧ ∃ t1 : Nat, t1 ≤ t ∧ (F1 14).toInt = t1 ∧ (∀ k : Nat, t1 ≤ k → k < t → x1.toInt < (G 19 k).toInt) ∧ (t1 = 0 ∨ (G 19 (t1 - 1)).toInt ≤ x1.toInt)) := by
      intro z
      unfold mb_ends_35 mb_ends_40
      exact PP.ret ⟨rfl, KX.f rfl KX.rf, fup_s, t, Nat.le_refl _, by rw [fup_n (by decide)]; exact h14, fun k a b => absurd b (by omega), z⟩
    unfold mb_ends_0
    refine PP.ite (fun q => fin (.inl ?_)) (fun q => ?_)
    · have := i_le.mp q
      omega
    · have q0 := mt i_le.mpr q
      have e := i_dec (x := F 14) (by omega)
      have en : (F 14 - 1).toNatClampNeg = t - 1 := by
        show (F 14 - 1).toInt.toNat = t - 1
        omega
      unfold mb_ends_7
      rw [en]
      refine PP.ix (fun _ => PP.ite (fun z => fin (.inr (i_le.mp z))) (fun z => ?_))
      have z' := mt i_le.mpr z
      unfold mb_ends_22 mb_ends_32
      refine PP.mono (ih (t - 1) (fup F 14 (F 14 - 1)) (by rw [fup_s]; omega) (by omega)) ?_
      rintro r F1 G1 ⟨k0, k1, k2, t1, k3, k4, k5, k6⟩
      refine ⟨k0, KX.tr (KX.f rfl KX.rf) k1 rfl rfl, k2, t1, by omega, k4, fun j a b => ?_, k6⟩
      by_cases y : j = t - 1
      · rw [y]
        omega
      · exact k5 j a (by omega)
theorem mp_endsL {x1 : Int32} {t : Nat} {F : PF} {G : PG} (h14 : (F 14).toInt = t) (ht : t ≤ 900) : PP (mf_ends fu x1 F G) (fun _ F1 G1 => G = G1 ∧ KX [14, 15] [] F G F1 G1 ∧ F1 15 = x1 ∧ ∃ t1 : Nat, t1 ≤ t ∧ (F1 14).toInt = t1 ∧ (∀ k : Nat, t1 ≤ k → k < t → x1.toInt < (G 19 k).toInt) ∧ (t1 = 0 ∨ (G 19 (t1 - 1)).toInt ≤ x1.toInt)) := by
  unfold mf_ends
  exact mp_ends0 fu t F h14 ht
theorem mp_endsA {x1 : Int32} {G : PG} : ∀ (n : Nat) (F : PF), PP (ml_ends_0 fu n x1 F G) (fun _ F1 G1 => G = G1 ∧ KX [14, 15] [] F G F1 G1 ∧ F1 15 = x1) := by
  intro n
  induction n with
  | zero => intro F; exact PP.no
  | succ n ih =>
    intro F
    show PP (mb_ends_0 fu (ml_ends_0 fu n) x1 F G) _
    unfold mb_ends_0 mb_ends_35 mb_ends_40
    refine PP.ite (fun q => PP.ret ⟨rfl, KX.f rfl KX.rf, fup_s⟩) (fun q => ?_)
    unfold mb_ends_7 mb_ends_35 mb_ends_40 mb_ends_22 mb_ends_32
    refine PP.ix (fun _ => PP.ite (fun z => PP.ret ⟨rfl, KX.f rfl KX.rf, fup_s⟩) (fun z => ?_))
    refine PP.mono (ih (fup F 14 (F 14 - 1))) ?_
    rintro r F1 G1 ⟨k0, k1, k2⟩
    exact ⟨k0, KX.tr (KX.f rfl KX.rf) k1 rfl rfl, k2⟩
/-- the name of token x1 is told in this scope already -/
def jTw (nf t : Nat) (x1 : Int32) (F : PF) (G : PG) : Prop := (∃ k : Nat, k < t ∧ G 19 k = F 15 ∧ G 16 k = G 5 x1.toNatClampNeg) ∨ (F 15 = 0 ∧ ∃ f : Nat, f < nf ∧ G 25 f = G 5 x1.toNatClampNeg ∧ (G 26 f).toInt < (G 6 x1.toNatClampNeg).toInt)
theorem mp_tw127 (x1 x2 : Int32) {F : PF} {G : PG} {T : Prop} (h46 : ¬ F 46 = 0) (a : x2 = 0 → ¬ T) (b : ¬ x2 = 0 → T) : PP (mb_twice_127 fu x1 x2 F G) (fun _ F1 G1 => G = G1 ∧ (T → ¬ F1 47 = 0) ∧ (¬ T → F = F1)) := by
  unfold mb_twice_127 mb_twice_142
  refine PP.ite (fun q => PP.ret ⟨rfl, fun z => absurd z (a q), fun _ => rfl⟩) (fun q => ?_)
  unfold mb_twice_131
  refine PP.ix (fun _ => PP.bind (mp_note 5 _ (by decide) F G) ?_)
  rintro r F1 G1 ⟨k1, k2, k3, k4⟩
  dsimp only
  unfold mb_twice_142
  refine PP.ret ⟨k2, fun _ z => ?_, fun z => absurd (b q) z⟩
  have := k3 h46
  rw [z] at this
  exact absurd this (by decide)
theorem mp_tw66 {nf : Nat} {x1 : Int32} {F : PF} {G : PG} {A : Prop} (h24 : (F 24).toInt = nf) (hn : nf ≤ 500) (h46 : ¬ F 46 = 0) : ∀ (n k : Nat) (x2 : Int32), k ≤ nf → (x2 = 0 → ¬ (A ∨ (F 15 = 0 ∧ ∃ f : Nat, f < k ∧ G 25 f = G 5 x1.toNatClampNeg ∧ (G 26 f).toInt < (G 6 x1.toNatClampNeg).toInt))) → (¬ x2 = 0 → A ∨ (F 15 = 0 ∧ ∃ f : Nat, f < k ∧ G 25 f = G 5 x1.toNatClampNeg ∧ (G 26 f).toInt < (G 6 x1.toNatClampNeg).toInt)) → PP (ml_twice_66 fu n x1 x2 (nI k) F G) (fun _ F1 G1 => G = G1 ∧ ((A ∨ (F 15 = 0 ∧ ∃ f : Nat, f < nf ∧ G 25 f = G 5 x1.toNatClampNeg ∧ (G 26 f).toInt < (G 6 x1.toNatClampNeg).toInt)) → ¬ F1 47 = 0) ∧ (¬ (A ∨ (F 15 = 0 ∧ ∃ f : Nat, f < nf ∧ G 25 f = G 5 x1.toNatClampNeg ∧ (G 26 f).toInt < (G 6 x1.toNatClampNeg).toInt)) → F = F1)) := by
  intro n
  induction n with
  | zero => intro k x2 _ _ _; exact PP.no
  | succ n ih =>
    intro k x2 hk a b
    show PP (mb_twice_66 fu (ml_twice_66 fu n) x1 x2 (nI k) F G) _
    have ek : (nI k).toInt = k := nI_toInt (by omega)
    have en : (nI k).toNatClampNeg = k := nI_c k (by omega)
    unfold mb_twice_66
    refine PP.ite (fun q => ?_) (fun q => ?_)
    · have e : k = nf := by
        have := i_le.mp q
        omega
      rw [e] at a b
      exact mp_tw127 x1 x2 h46 a b
    · have kn : k < nf := by
        have := mt i_le.mpr q
        omega
      unfold mb_twice_74
      refine PP.ite (fun c => ?_) (fun c => ?_)
      · have no : ¬ (G 25 k = G 5 x1.toNatClampNeg ∧ (G 26 k).toInt < (G 6 x1.toNatClampNeg).toInt) → x2 = 0 → PP (mb_twice_119 fu (ml_twice_66 fu n) x1 (nI k) F G) (fun _ F1 G1 => G = G1 ∧ ((A ∨ (F 15 = 0 ∧ ∃ f : Nat, f < nf ∧ G 25 f = G 5 x1.toNatClampNeg ∧ (G 26 f).toInt < (G 6 x1.toNatClampNeg).toInt)) → ¬ F1 47 = 0) ∧ (¬ (A ∨ (F 15 = 0 ∧ ∃ f : Nat, f < nf ∧ G 25 f = G 5 x1.toNatClampNeg ∧ (G 26 f).toInt < (G 6 x1.toNatClampNeg).toInt)) → F = F1)) := by
          intro z y
          unfold mb_twice_119 mb_twice_120
          rw [nI_t k (by omega)]
          refine ih (k + 1) 0 (by omega) (fun _ w => ?_) (fun w => absurd rfl w)
          rcases w with w | ⟨w1, f, w2, w3⟩
          · exact a y (.inl w)
          · by_cases fk : f = k
            · rw [fk] at w3
              exact z w3
            · exact a y (.inr ⟨w1, f, by omega, w3⟩)
        have yes : (A ∨ (F 15 = 0 ∧ ∃ f : Nat, f < k + 1 ∧ G 25 f = G 5 x1.toNatClampNeg ∧ (G 26 f).toInt < (G 6 x1.toNatClampNeg).toInt)) → PP (mb_twice_115 fu (ml_twice_66 fu n) x1 (nI k) F G) (fun _ F1 G1 => G = G1 ∧ ((A ∨ (F 15 = 0 ∧ ∃ f : Nat, f < nf ∧ G 25 f = G 5 x1.toNatClampNeg ∧ (G 26 f).toInt < (G 6 x1.toNatClampNeg).toInt)) → ¬ F1 47 = 0) ∧ (¬ (A ∨ (F 15 = 0 ∧ ∃ f : Nat, f < nf ∧ G 25 f = G 5 x1.toNatClampNeg ∧ (G 26 f).toInt < (G 6 x1.toNatClampNeg).toInt)) → F = F1)) := by
          intro z
          unfold mb_twice_115 mb_twice_120
          rw [nI_t k (by omega)]
          exact ih (k + 1) 1 (by omega) (fun w => absurd w i10n) (fun _ => z)
        unfold mb_twice_81
        refine PP.ite (fun y => ?_) (fun y => yes ?_)
        · unfold mb_twice_85
          rw [en]
          refine PP.ix (fun _ => PP.ix (fun _ => PP.ite (fun w => ?_) (fun w => no (fun v => w v.1) y)))
          unfold mb_twice_100
          rw [en]
          refine PP.ix (fun _ => PP.ix (fun _ => PP.ite (fun v => no (fun u => ?_) y) (fun v => yes (.inr ⟨c, k, by omega, w, ?_⟩))))
          · have := i_le.mp v
            have := u.2
            omega
          · have := mt i_le.mpr v
            omega
        · rcases b y with w | ⟨w1, f, w2, w3⟩
          · exact .inl w
          · exact .inr ⟨w1, f, by omega, w3⟩
      · refine mp_tw127 x1 x2 h46 (fun y w => ?_) (fun y => ?_)
        · rcases w with w | ⟨w1, -⟩
          · exact a y (.inl w)
          · exact c w1
        · rcases b y with w | ⟨w1, -⟩
          · exact .inl w
          · exact absurd w1 c
theorem mp_tw12 {nf t : Nat} {x1 : Int32} {F : PF} {G : PG} (h14 : (F 14).toInt = t) (ht : t ≤ 900) (h24 : (F 24).toInt = nf) (hn : nf ≤ 500) (h46 : ¬ F 46 = 0) : ∀ (n k : Nat) (x2 : Int32), k ≤ t → (x2 = 0 → ¬ ∃ j : Nat, j < k ∧ G 19 j = F 15 ∧ G 16 j = G 5 x1.toNatClampNeg) → (¬ x2 = 0 → ∃ j : Nat, j < k ∧ G 19 j = F 15 ∧ G 16 j = G 5 x1.toNatClampNeg) → PP (ml_twice_12 fu n x1 x2 (nI k) F G) (fun _ F1 G1 => G = G1 ∧ (jTw nf t x1 F G → ¬ F1 47 = 0) ∧ (¬ jTw nf t x1 F G → F = F1)) := by
  intro n
  induction n with
  | zero => intro k x2 _ _ _; exact PP.no
  | succ n ih =>
    intro k x2 hk a b
    show PP (mb_twice_12 fu (ml_twice_12 fu n) x1 x2 (nI k) F G) _
    have ek : (nI k).toInt = k := nI_toInt (by omega)
    have en : (nI k).toNatClampNeg = k := nI_c k (by omega)
    unfold mb_twice_12
    refine PP.ite (fun q => ?_) (fun q => ?_)
    · have e : k = t := by
        have := i_le.mp q
        omega
      rw [e] at a b
      unfold mb_twice_64
      refine mp_tw66 (A := ∃ k : Nat, k < t ∧ G 19 k = F 15 ∧ G 16 k = G 5 x1.toNatClampNeg) h24 hn h46 fu 0 x2 (Nat.zero_le _) (fun y w => ?_) (fun y => .inl (b y))
      rcases w with w | ⟨-, f, w2, -⟩
      · exact a y w
      · omega
    · have kn : k < t := by
        have := mt i_le.mpr q
        omega
      have no : ¬ (G 19 k = F 15 ∧ G 16 k = G 5 x1.toNatClampNeg) → x2 = 0 → PP (mb_twice_56 fu (ml_twice_12 fu n) x1 (nI k) F G) (fun _ F1 G1 => G = G1 ∧ (jTw nf t x1 F G → ¬ F1 47 = 0) ∧ (¬ jTw nf t x1 F G → F = F1)) := by
        intro z y
        unfold mb_twice_56 mb_twice_57
        rw [nI_t k (by omega)]
        refine ih (k + 1) 0 (by omega) (fun _ w => ?_) (fun w => absurd rfl w)
        obtain ⟨j, w1, w2⟩ := w
        by_cases jk : j = k
        · rw [jk] at w2
          exact z w2
        · exact a y ⟨j, by omega, w2⟩
      have yes : (∃ j : Nat, j < k + 1 ∧ G 19 j = F 15 ∧ G 16 j = G 5 x1.toNatClampNeg) → PP (mb_twice_52 fu (ml_twice_12 fu n) x1 (nI k) F G) (fun _ F1 G1 => G = G1 ∧ (jTw nf t x1 F G → ¬ F1 47 = 0) ∧ (¬ jTw nf t x1 F G → F = F1)) := by
        intro z
        unfold mb_twice_52 mb_twice_57
        rw [nI_t k (by omega)]
        exact ih (k + 1) 1 (by omega) (fun w => absurd w i10n) (fun _ => z)
      unfold mb_twice_20
      refine PP.ite (fun y => ?_) (fun y => yes ?_)
      · unfold mb_twice_24
        rw [en]
        refine PP.ix (fun _ => PP.ite (fun w => ?_) (fun w => no (fun v => w v.1) y))
        unfold mb_twice_37
        rw [en]
        exact PP.ix (fun _ => PP.ix (fun _ => PP.ite (fun v => yes ⟨k, by omega, w, v⟩) (fun v => no (fun u => v u.2) y)))
      · obtain ⟨j, w1, w2⟩ := b y
        exact ⟨j, by omega, w2⟩
theorem mp_twice {nf t : Nat} {x1 : Int32} {F : PF} {G : PG} (h14 : (F 14).toInt = t) (ht : t ≤ 900) (h24 : (F 24).toInt = nf) (hn : nf ≤ 500) (h46 : ¬ F 46 = 0) : PP (mf_twice fu x1 F G) (fun _ F1 G1 => G = G1 ∧ (jTw nf t x1 F G → ¬ F1 47 = 0) ∧ (¬ jTw nf t x1 F G → F = F1)) := by
  unfold mf_twice mb_twice_0
  rw [if_neg h46]
  unfold mb_twice_8
  exact mp_tw12 h14 ht h24 hn h46 fu 0 0 (Nat.zero_le _) (fun _ w => by obtain ⟨j, w1, -⟩ := w; omega) (fun w => absurd rfl w)
theorem mp_twice0 {x1 : Int32} {F : PF} {G : PG} (h46 : F 46 = 0) : PP (mf_twice fu x1 F G) (fun _ F1 G1 => F = F1 ∧ G = G1) := by
  unfold mf_twice mb_twice_0 mb_twice_7
  rw [if_pos h46]
  exact PP.ret ⟨rfl, rfl⟩
/-- the reference tells a name -/
def jDe (t : Nat) (x1 x2 x3 x4 x5 x6 : Int32) (F : PF) (G : PG) (F1 : PF) (G1 : PG) : Prop :=
  KX [14] [16, 17, 18, 19, 20, 21, 22, 23] F G F1 G1 ∧ (F1 14).toInt = (t : Int) + 1 ∧ (∀ j : Nat, j ≠ t → G1 16 j = G 16 j ∧ G1 17 j = G 17 j ∧ G1 18 j = G 18 j ∧ G1 19 j = G 19 j ∧ G1 20 j = G 20 j ∧ G1 21 j = G 21 j ∧ G1 22 j = G 22 j ∧ G1 23 j = G 23 j) ∧
  (G1 16 t = G 5 x1.toNatClampNeg ∧ G1 17 t = x2 ∧ G1 18 t = G 6 x1.toNatClampNeg ∧ G1 19 t = F 15 ∧ G1 20 t = x4 ∧ G1 21 t = x5 ∧ G1 22 t = vp_nar .boolean x3 ∧ G1 23 t = vp_nar .boolean x6)
theorem mp_decl {t : Nat} (x1 x2 x3 x4 x5 x6 : Int32) {F : PF} {G : PG} (h14 : (F 14).toInt = t) (ht : t < 900) (h46 : ¬ F 46 = 0) : PP (mf_declare fu x1 x2 x3 x4 x5 x6 F G) (fun _ F1 G1 => jDe t x1 x2 x3 x4 x5 x6 F G F1 G1) := by
  have en : (F 14).toNatClampNeg = t := by
    show (F 14).toInt.toNat = t
    omega
  have ea : (F 14 + 1).toInt = (F 14).toInt + 1 := i_addn _ rfl (by omega) (by omega)
  unfold mf_declare mb_declare_0
  rw [if_neg h46]
  unfold mb_declare_8 mb_declare_23 mb_declare_33 mb_declare_48 mb_declare_61 mb_declare_71 mb_declare_82 mb_declare_93 mb_declare_104 mb_declare_114
  rw [en]
  refine PP.ix (fun _ => PP.ix (fun _ => PP.ix (fun _ => PP.ix (fun _ => PP.ix (fun _ => PP.ix (fun _ => PP.ix (fun _ => PP.ix (fun _ => PP.ix (fun _ => PP.ix (fun _ => ?_))))))))))
  generalize F 14 + 1 = y at ea ⊢
  generalize e3 : vp_nar .boolean x3 = b3
  generalize e6 : vp_nar .boolean x6 = b6
  refine PP.ret ⟨KX.f rfl (KX.g rfl (KX.g rfl (KX.g rfl (KX.g rfl (KX.g rfl (KX.g rfl (KX.g rfl (KX.g rfl KX.rf)))))))), by rw [fup_s]; omega, fun j hj => ⟨?_, ?_, ?_, ?_, ?_, ?_, ?_, ?_⟩, ⟨?_, ?_, ?_, ?_, ?_, ?_, ?_, ?_⟩⟩
  · show gup G 16 t (G 5 x1.toNatClampNeg) 16 j = _
    exact gup_x hj
  · show gup G 17 t x2 17 j = _
    exact gup_x hj
  · show gup G 18 t (G 6 x1.toNatClampNeg) 18 j = _
    exact gup_x hj
  · show gup G 19 t (F 15) 19 j = _
    exact gup_x hj
  · show gup G 20 t x4 20 j = _
    exact gup_x hj
  · show gup G 21 t x5 21 j = _
    exact gup_x hj
  · show gup G 22 t b3 22 j = _
    exact gup_x hj
  · show gup G 23 t b6 23 j = _
    exact gup_x hj
  · show gup G 16 t (G 5 x1.toNatClampNeg) 16 t = _
    exact gup_i
  · show gup G 17 t x2 17 t = _
    exact gup_i
  · show gup G 18 t (G 6 x1.toNatClampNeg) 18 t = _
    exact gup_i
  · show gup G 19 t (F 15) 19 t = _
    exact gup_i
  · show gup G 20 t x4 20 t = _
    exact gup_i
  · show gup G 21 t x5 21 t = _
    exact gup_i
  · show gup G 22 t b3 22 t = _
    rw [e3]
    exact gup_i
  · show gup G 23 t b6 23 t = _
    rw [e6]
    exact gup_i
theorem mp_decl0 (x1 x2 x3 x4 x5 x6 : Int32) {F : PF} {G : PG} (h46 : F 46 = 0) : PP (mf_declare fu x1 x2 x3 x4 x5 x6 F G) (fun _ F1 G1 => F = F1 ∧ G = G1) := by
  unfold mf_declare mb_declare_0 mb_declare_7
  rw [if_pos h46]
  exact PP.ret ⟨rfl, rfl⟩
end JW4
