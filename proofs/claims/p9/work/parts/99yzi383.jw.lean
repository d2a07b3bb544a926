theorem jLa.ext {ids ids1 : Nat → Int32} {c : Nat} {id r : Int32} (h : jLa ids c id r) (e : ∀ j : Nat, j < c → ids1 j = ids j) : jLa ids1 c id r := by
  rcases h with ⟨h1, h2⟩ | ⟨j, h1, h2, h3, h4⟩
  · exact .inl ⟨h1, fun j hj => by rw [e j hj]; exact h2 j hj⟩
  · exact .inr ⟨j, h1, h2, by rw [e j h1]; exact h3, fun i a b => by rw [e i b]; exact h4 i a b⟩
theorem jLa.dn {ids : Nat → Int32} {c : Nat} {id r : Int32} (h : jLa ids (c + 1) id r) (e : ¬ ids c = id) : jLa ids c id r := by
  rcases h with ⟨h1, h2⟩ | ⟨j, h1, h2, h3, h4⟩
  · exact .inl ⟨h1, fun j hj => h2 j (by omega)⟩
  · have : j ≠ c := fun z => e (by rw [← z]; exact h3)
    exact .inr ⟨j, by omega, h2, h3, fun i a b => h4 i a (by omega)⟩
theorem jLa.up {ids : Nat → Int32} {c : Nat} {id r : Int32} (h : jLa ids c id r) (e : ¬ ids c = id) : jLa ids (c + 1) id r := by
  rcases h with ⟨h1, h2⟩ | ⟨j, h1, h2, h3, h4⟩
  · refine .inl ⟨h1, fun j hj => ?_⟩
    by_cases z : j = c
    · rw [z]
      exact e
    · exact h2 j (by omega)
  · refine .inr ⟨j, by omega, h2, h3, fun i a b => ?_⟩
    by_cases z : i = c
    · rw [z]
      exact e
    · exact h4 i a (by omega)
theorem i_tn {x : Int32} : x.toNatClampNeg = x.toInt.toNat := rfl
/-- the last symbol goes -/
theorem jSL.pop {K c : Nat} {G : PG} (h : jSL K (c + 1) G) (h0 : 0 ≤ (G 33 c).toInt) : jSL K c (gup G 40 (G 33 c).toNatClampNeg (G 39 c)) := by
  obtain ⟨h1, h2, h3⟩ := h
  have e33 : gup G 40 (G 33 c).toNatClampNeg (G 39 c) 33 = G 33 := gup_o (by decide)
  have e39 : gup G 40 (G 33 c).toNatClampNeg (G 39 c) 39 = G 39 := gup_o (by decide)
  unfold jSL
  rw [e33, e39]
  refine ⟨h1, fun k hk => ?_, fun j hj => h3 j (by omega)⟩
  by_cases z : k = (G 33 c).toNatClampNeg
  · have e : nI k = G 33 c := by
      rw [z]
      exact jnI h0
    rw [e, z, gup_i]
    exact h3 c (Nat.lt_succ_self _)
  · rw [gup_x z]
    refine (h2 k hk).dn (fun y => z ?_)
    rw [y]
    show k = (nI k).toInt.toNat
    rw [nI_toInt (by omega)]
    omega
/-- one more symbol -/
theorem jSL.psh {K c : Nat} {G G1 : PG} {id : Int32} (h : jSL K c G) (i0 : 0 ≤ id.toInt) (a1 : ∀ j : Nat, j < c → G1 33 j = G 33 j) (a2 : G1 33 c = id) (a3 : ∀ j : Nat, j < c → G1 39 j = G 39 j) (a4 : G1 39 c = G 40 id.toNatClampNeg) (a5 : ∀ k : Nat, k ≠ id.toNatClampNeg → G1 40 k = G 40 k) (a6 : G1 40 id.toNatClampNeg = nI c) (i1 : id.toInt < K) : jSL K (c + 1) G1 := by
  obtain ⟨h1, h2, h3⟩ := h
  have ie : nI id.toNatClampNeg = id := jnI i0
  refine ⟨h1, fun k hk => ?_, fun j hj => ?_⟩
  · by_cases z : k = id.toNatClampNeg
    · rw [z, a6]
      exact .inr ⟨c, Nat.lt_succ_self _, rfl, by rw [a2, ie], fun i x y => absurd y (by omega)⟩
    · rw [a5 k z]
      refine ((h2 k hk).ext a1).up (fun y => z ?_)
      rw [a2] at y
      rw [y]
      show k = (nI k).toInt.toNat
      rw [nI_toInt (by omega)]
      omega
  · by_cases z : j = c
    · rw [z, a2, a4]
      have q := h2 id.toNatClampNeg (by rw [i_tn]; omega)
      rw [ie] at q
      exact q.ext a1
    · rw [a1 j (by omega), a3 j (by omega)]
      exact (h3 j (by omega)).ext (fun i hi => a1 i (by omega))
section JW3
variable {fu : Nat}
/-- the class leaves a scope -/
theorem cp_leave7 {K : Nat} {lv : Int32} : ∀ (n c : Nat) (x1 : Int32) (F : PF) (G : PG), (F 41).toInt = c → x1.toInt = (c : Int) - 1 → c ≤ 700 → F 42 = lv → jSL K c G → (∀ j : Nat, j < c → 0 ≤ (G 33 j).toInt ∧ (G 33 j).toInt < K) → PP (cl_X5_leave_7 fu n x1 F G) (fun _ F1 G1 => KX [41, 42] [40] F G F1 G1 ∧ F1 42 = lv - 1 ∧ ∃ c1 : Nat, c1 ≤ c ∧ (F1 41).toInt = c1 ∧ jSL K c1 G1 ∧ (∀ j : Nat, c1 ≤ j → j < c → G 34 j = lv) ∧ (c1 = 0 ∨ ¬ G 34 (c1 - 1) = lv)) := by
  have l0 : (0 : Int32).toInt = 0 := rfl
  have l1 : (1408 : Int32).toInt = 1408 := rfl
  intro n
  induction n with
  | zero => intro c x1 F G _ _ _ _ _ _; exact PP.no
  | succ n ih =>
    intro c x1 F G h41 hx hc h42 hL hr
    have K8 := hL.1
    show PP (cb_X5_leave_7 fu (cl_X5_leave_7 fu n) x1 F G) _
    have fin : (c = 0 ∨ ¬ G 34 (c - 1) = lv) → PP (cb_X5_leave_65 fu F G) (fun _ F1 G1 => KX [41, 42] [40] F G F1 G1 ∧ F1 42 = lv - 1 ∧ ∃ c1 : Nat, c1 ≤ c ∧ (F1 41).toInt = c1 ∧ jSL K c1 G1 ∧ (∀ j : Nat, c1 ≤ j → j < c → G 34 j = lv) ∧ (c1 = 0 ∨ ¬ G 34 (c1 - 1) = lv)) := by
      intro z
      unfold cb_X5_leave_65 cb_X5_leave_75
      exact PP.ret ⟨KX.f rfl KX.rf, by rw [fup_s, h42], c, Nat.le_refl _, by rw [fup_n (by decide)]; exact h41, hL, fun j a b => absurd b (by omega), z⟩
    unfold cb_X5_leave_7
    refine PP.ite (fun q => fin (.inl ?_)) (fun q => ?_)
    · have := i_lt.mp q
      omega
    · have q0 := i_ge0 q
      have en : x1.toNatClampNeg = c - 1 := by
        show x1.toInt.toNat = c - 1
        omega
      obtain ⟨r0, r1⟩ := hr (c - 1) (by omega)
      unfold cb_X5_leave_11
      rw [en]
      refine PP.ix (fun _ => PP.ite (fun z => ?_) (fun z => fin (.inr (by rw [← h42]; exact z))))
      unfold cb_X5_leave_24
      rw [en]
      refine PP.ix (fun _ => PP.ite (fun y => absurd (i_lt.mp y) (by omega)) (fun _ => ?_))
      unfold cb_X5_leave_35
      refine PP.ite (fun y => absurd (i_le.mp y) (by omega)) (fun _ => ?_)
      unfold cb_X5_leave_42 cb_X5_leave_54 cb_X5_leave_59
      rw [en]
      refine PP.ix (fun _ => PP.ix (fun _ => ?_))
      have hL' : jSL K (c - 1) (gup G 40 (G 33 (c - 1)).toNatClampNeg (G 39 (c - 1))) := jSL.pop (c := c - 1) (by rw [show c - 1 + 1 = c by omega]; exact hL) r0
      refine PP.mono (ih (c - 1) (x1 + (-1)) (fup F 41 x1) (gup G 40 (G 33 (c - 1)).toNatClampNeg (G 39 (c - 1))) (by rw [fup_s]; omega) (by rw [i_decn q0]; omega) (by omega) (by rw [fup_n (by decide)]; exact h42) hL' (fun j hj => hr j (by omega))) ?_
      rintro r F1 G1 ⟨k1, k2, c1, k3, k4, k5, k6, k7⟩
      refine ⟨KX.tr (KX.f rfl (KX.g rfl KX.rf)) k1 rfl rfl, k2, c1, by omega, k4, k5, fun j a b => ?_, k7⟩
      by_cases y : j = c - 1
      · rw [y, ← h42]
        exact z
      · exact k6 j a (by omega)
theorem cp_leave {K c : Nat} {F : PF} {G : PG} (h41 : (F 41).toInt = c) (hc : c ≤ 700) (hL : jSL K c G) (hr : ∀ j : Nat, j < c → 0 ≤ (G 33 j).toInt ∧ (G 33 j).toInt < K) : PP (cf_X5_leave fu F G) (fun _ F1 G1 => KX [41, 42] [40] F G F1 G1 ∧ F1 42 = F 42 - 1 ∧ ∃ c1 : Nat, c1 ≤ c ∧ (F1 41).toInt = c1 ∧ jSL K c1 G1 ∧ (∀ j : Nat, c1 ≤ j → j < c → G 34 j = F 42) ∧ (c1 = 0 ∨ ¬ G 34 (c1 - 1) = F 42)) := by
  unfold cf_X5_leave cb_X5_leave_0
  exact cp_leave7 fu c _ F G h41 (by rw [i_dec (by omega)]; omega) hc rfl hL hr
/-- no symbol of this scope: nothing goes -/
theorem cp_leave0 {F : PF} {G : PG} (h0 : 0 ≤ (F 41).toInt) (hc : (F 41).toInt ≤ 700) (h : ∀ j : Nat, (j : Int) < (F 41).toInt → ¬ G 34 j = F 42) : PP (cf_X5_leave fu F G) (fun _ F1 G1 => fup F 42 (F 42 - 1) = F1 ∧ G = G1) := by
  have l0 : (0 : Int32).toInt = 0 := rfl
  have e := i_dec h0
  unfold cf_X5_leave cb_X5_leave_0
  cases fu with
  | zero => exact PP.no
  | succ n =>
    show PP (cb_X5_leave_7 (n + 1) (cl_X5_leave_7 (n + 1) n) (F 41 - 1) F G) _
    unfold cb_X5_leave_7 cb_X5_leave_65 cb_X5_leave_75
    refine PP.ite (fun q => PP.ret ⟨rfl, rfl⟩) (fun q => ?_)
    have q0 := i_ge0 q
    unfold cb_X5_leave_11 cb_X5_leave_65 cb_X5_leave_75
    refine PP.ix (fun _ => PP.ite (fun z => absurd z ?_) (fun _ => PP.ret ⟨rfl, rfl⟩))
    refine h _ ?_
    show (((F 41 - 1).toInt.toNat : Nat) : Int) < _
    omega
/-- a symbol comes -/
def jIns (c : Nat) (x1 x2 x3 x4 x5 : Int32) (F : PF) (G : PG) (F1 : PF) (G1 : PG) : Prop :=
  KX [41] [33, 34, 35, 36, 37, 38, 39, 40] F G F1 G1 ∧ (F1 41).toInt = (c : Int) + 1 ∧ (∀ j : Nat, j ≠ c → G1 33 j = G 33 j ∧ G1 34 j = G 34 j ∧ G1 35 j = G 35 j ∧ G1 36 j = G 36 j ∧ G1 37 j = G 37 j ∧ G1 38 j = G 38 j ∧ G1 39 j = G 39 j) ∧
  (G1 33 c = x1 ∧ G1 34 c = F 42 ∧ G1 35 c = x3 ∧ G1 36 c = x2 ∧ G1 37 c = x4 ∧ G1 38 c = x5 ∧ G1 39 c = G 40 x1.toNatClampNeg) ∧ G1 40 x1.toNatClampNeg = nI c ∧ ∀ k : Nat, k ≠ x1.toNatClampNeg → G1 40 k = G 40 k
theorem cp_install {c : Nat} (x1 x2 x3 x4 x5 : Int32) {F : PF} {G : PG} (h41 : (F 41).toInt = c) (hc : c < 700) (i0 : 0 ≤ x1.toInt) (i1 : x1.toInt < 1408) : PP (cf_X5_install fu x1 x2 x3 x4 x5 F G) (fun _ F1 G1 => jIns c x1 x2 x3 x4 x5 F G F1 G1) := by
  have l0 : (0 : Int32).toInt = 0 := rfl
  have l1 : (1408 : Int32).toInt = 1408 := rfl
  have l7 : (700 : Int32).toInt = 700 := rfl
  have en : (F 41).toNatClampNeg = c := by
    show (F 41).toInt.toNat = c
    omega
  have ec : F 41 = nI c := i_eq.mpr (by rw [nI_toInt (by omega)]; exact h41)
  have ea : (F 41 + 1).toInt = (F 41).toInt + 1 := i_addn _ rfl (by omega) (by omega)
  unfold cf_X5_install cb_X5_install_0
  refine PP.ite (fun q => absurd (i_le.mp q) (by omega)) (fun _ => ?_)
  unfold cb_X5_install_10
  refine PP.ite (fun q => absurd (i_lt.mp q) (by omega)) (fun _ => ?_)
  unfold cb_X5_install_14
  refine PP.ite (fun q => absurd (i_le.mp q) (by omega)) (fun _ => ?_)
  unfold cb_X5_install_21 cb_X5_install_31 cb_X5_install_44 cb_X5_install_54 cb_X5_install_64 cb_X5_install_75 cb_X5_install_86 cb_X5_install_101 cb_X5_install_111 cb_X5_install_121
  rw [en]
  refine PP.ix (fun _ => PP.ix (fun _ => PP.ix (fun _ => PP.ix (fun _ => PP.ix (fun _ => PP.ix (fun _ => PP.ix (fun _ => PP.ix (fun _ => PP.ix (fun _ => ?_)))))))))
  generalize F 41 + 1 = y at ea ⊢
  refine PP.ret ⟨KX.f rfl (KX.g rfl (KX.g rfl (KX.g rfl (KX.g rfl (KX.g rfl (KX.g rfl (KX.g rfl (KX.g rfl KX.rf)))))))), by rw [fup_s]; omega, fun j hj => ⟨?_, ?_, ?_, ?_, ?_, ?_, ?_⟩, ⟨?_, ?_, ?_, ?_, ?_, ?_, ?_⟩, ?_, fun k hk => ?_⟩
  · show gup G 33 c x1 33 j = _
    exact gup_x hj
  · show gup G 34 c (F 42) 34 j = _
    exact gup_x hj
  · show gup G 35 c x3 35 j = _
    exact gup_x hj
  · show gup G 36 c x2 36 j = _
    exact gup_x hj
  · show gup G 37 c x4 37 j = _
    exact gup_x hj
  · show gup G 38 c x5 38 j = _
    exact gup_x hj
  · show gup G 39 c (G 40 x1.toNatClampNeg) 39 j = _
    exact gup_x hj
  · show gup G 33 c x1 33 c = _
    exact gup_i
  · show gup G 34 c (F 42) 34 c = _
    exact gup_i
  · show gup G 35 c x3 35 c = _
    exact gup_i
  · show gup G 36 c x2 36 c = _
    exact gup_i
  · show gup G 37 c x4 37 c = _
    exact gup_i
  · show gup G 38 c x5 38 c = _
    exact gup_i
  · show gup G 39 c (G 40 x1.toNatClampNeg) 39 c = _
    exact gup_i
  · show gup G 40 x1.toNatClampNeg (F 41) 40 x1.toNatClampNeg = _
    rw [gup_i]
    exact ec
  · show gup G 40 x1.toNatClampNeg (F 41) 40 k = _
    exact gup_x hk
/-- the class has this name in this scope already -/
def jHre (c : Nat) (lv pl r : Int32) (G : PG) : Prop := ∃ j : Nat, j < c ∧ r = nI j ∧ G 34 j = lv ∧ ¬ (G 35 j = 4 ∧ pl.toInt < (G 36 j).toInt)
theorem cp_tell {K c : Nat} (x1 x2 x3 x4 x5 : Int32) {F : PF} {G : PG} {r : Int32} (h41 : (F 41).toInt = c) (hc : c < 700) (i0 : 0 ≤ x1.toInt) (i1 : x1.toInt < K) (on : ¬ F 45 = 0) (hL : jSL K c G) (hr : jLa (G 33) c x1 r) (hp : x2.toInt ≤ 4000) : PP (cf_X5_tell fu x1 x2 x3 x4 x5 F G) (fun _ F1 G1 => (jHre c (F 42) x2 r G → (F1 43).toInt ≤ 4000) ∧ (¬ jHre c (F 42) x2 r G → jIns c x1 x2 x3 x4 x5 F G F1 G1)) := by
  have l0 : (0 : Int32).toInt = 0 := rfl
  have K8 := hL.1
  have ins : ¬ jHre c (F 42) x2 r G → PP (cb_X5_tell_103 fu x1 x2 x3 x4 x5 F G) (fun _ F1 G1 => (jHre c (F 42) x2 r G → (F1 43).toInt ≤ 4000) ∧ (¬ jHre c (F 42) x2 r G → jIns c x1 x2 x3 x4 x5 F G F1 G1)) := by
    intro z
    unfold cb_X5_tell_103
    refine PP.bind (cp_install x1 x2 x3 x4 x5 h41 hc i0 (by omega)) ?_
    rintro r1 F1 G1 k
    dsimp only
    unfold cb_X5_tell_114
    exact PP.ret ⟨fun y => absurd y z, fun _ => k⟩
  have nt : jHre c (F 42) x2 r G → PP (cb_X5_tell_94 fu x2 F G) (fun _ F1 G1 => (jHre c (F 42) x2 r G → (F1 43).toInt ≤ 4000) ∧ (¬ jHre c (F 42) x2 r G → jIns c x1 x2 x3 x4 x5 F G F1 G1)) := by
    intro z
    unfold cb_X5_tell_94
    refine PP.bind (cp_note 1 x2 (by decide) (by decide) F G) ?_
    rintro r1 F1 G1 ⟨-, -, -, k⟩
    dsimp only
    unfold cb_X5_tell_100 cb_X5_tell_114
    exact PP.ret ⟨fun _ => k on hp, fun y => absurd z y⟩
  have a81 : ∀ x7 : Int32, (x7 = 0 → ¬ jHre c (F 42) x2 r G) → (¬ x7 = 0 → jHre c (F 42) x2 r G) → PP (cb_X5_tell_81 fu x1 x2 x3 x4 x5 x7 F G) (fun _ F1 G1 => (jHre c (F 42) x2 r G → (F1 43).toInt ≤ 4000) ∧ (¬ jHre c (F 42) x2 r G → jIns c x1 x2 x3 x4 x5 F G F1 G1)) := by
    intro x7 a b
    unfold cb_X5_tell_81 cb_X5_tell_82
    refine PP.ite (fun z => ins (a z)) (fun z => ?_)
    unfold cb_X5_tell_89
    rw [if_pos rfl]
    exact nt (b z)
  have a47 : ¬ jHre c (F 42) x2 r G → PP (cb_X5_tell_47 fu x1 x2 x3 x4 x5 r F G) (fun _ F1 G1 => (jHre c (F 42) x2 r G → (F1 43).toInt ≤ 4000) ∧ (¬ jHre c (F 42) x2 r G → jIns c x1 x2 x3 x4 x5 F G F1 G1)) := by
    intro z
    unfold cb_X5_tell_47 cb_X5_tell_48
    rw [if_pos rfl]
    exact a81 0 (fun _ => z) (fun y => absurd rfl y)
  unfold cf_X5_tell cb_X5_tell_0
  rw [if_neg on]
  unfold cb_X5_tell_8
  refine PP.bind (cp_known x1 hL i0 i1) ?_
  rintro r1 _ _ ⟨rfl, rfl, k⟩
  dsimp only
  rw [k.one hr]
  unfold cb_X5_tell_13
  rcases hr with ⟨z1, z2⟩ | ⟨j, z1, z2, z3, z4⟩
  · rw [if_pos (show r < 0 by rw [z1]; decide)]
    refine a47 (fun y => ?_)
    obtain ⟨j, y1, y2, -⟩ := y
    rw [z1] at y2
    exact nI_n1 (by omega) y2.symm
  · have er : r.toInt = j := by rw [z2, nI_toInt (by omega)]
    have en : r.toNatClampNeg = j := by
      show r.toInt.toNat = j
      omega
    have uq : ∀ i : Nat, i < c → r = nI i → i = j := fun i hi y => nI_ij (y.symm.trans z2) (by omega) (by omega)
    rw [if_neg (show ¬ r < 0 from fun y => absurd (i_lt.mp y) (by omega))]
    unfold cb_X5_tell_20
    rw [if_neg (show ¬ F 41 ≤ r from fun y => absurd (i_le.mp y) (by omega))]
    unfold cb_X5_tell_29
    rw [en]
    refine PP.ix (fun _ => PP.ite (fun y => ?_) (fun y => a47 (fun w => ?_)))
    · unfold cb_X5_tell_43 cb_X5_tell_48
      rw [if_neg i10n]
      unfold cb_X5_tell_55
      rw [en]
      have h1 : ¬ (G 35 j = 4 ∧ x2.toInt < (G 36 j).toInt) → jHre c (F 42) x2 r G := fun w => ⟨j, z1, z2, y, w⟩
      refine PP.ix (fun _ => PP.ite (fun w => ?_) (fun w => a81 1 (fun v => absurd v i10n) (fun _ => h1 (fun v => w v.1))))
      unfold cb_X5_tell_66
      rw [en]
      refine PP.ix (fun _ => PP.ite (fun v => a81 1 (fun u => absurd u i10n) (fun _ => h1 (fun u => ?_))) (fun v => ?_))
      · have := i_le.mp v
        have := u.2
        omega
      · have v' := mt i_le.mpr v
        unfold cb_X5_tell_77 cb_X5_tell_82
        rw [if_neg i10n]
        unfold cb_X5_tell_89
        rw [if_neg i10n]
        refine ins (fun u => ?_)
        obtain ⟨i, u1, u2, u3, u4⟩ := u
        rw [uq i u1 u2] at u4
        exact u4 ⟨w, by omega⟩
    · obtain ⟨i, u1, u2, u3, u4⟩ := w
      rw [uq i u1 u2] at u3
      exact y u3
end JW3
