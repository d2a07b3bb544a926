/-- words that the class writes, if its code is on -/
def EMC (ws : List Int32) (F : PF) (G : PG) (F1 : PF) (G1 : PG) : Prop := KX [6] [5] F G F1 G1 ∧ (F 7 = 0 → F1 6 = F 6 ∧ G1 5 = G 5) ∧ (F 7 = 1 → (F1 6).toInt = (F 6).toInt + ws.length ∧ (∀ j, j < wN F → G1 5 j = G 5 j) ∧ ∀ (j : Nat) (x : Int32), ws[j]? = some x → G1 5 (wN F + j) = x)
def jRm (m : Int) (F : PF) : Prop := F 7 = 0 ∨ (F 7 = 1 ∧ 0 ≤ (F 6).toInt ∧ (F 6).toInt + m ≤ 8400)
theorem wN_i {F : PF} {x : Int} (h : (F 6).toInt = x) : wN F = x.toNat := by
  show (F 6).toInt.toNat = _
  rw [h]
theorem EMC.tr {ws vs : List Int32} {F F1 F2 : PF} {G G1 G2 : PG} (h : EMC ws F G F1 G1) (k : EMC vs F1 G1 F2 G2) (h0 : 0 ≤ (F 6).toInt) : EMC (ws ++ vs) F G F2 G2 := by
  obtain ⟨a1, a2, a3⟩ := h
  obtain ⟨b1, b2, b3⟩ := k
  have e7 : F1 7 = F 7 := a1.1 7 rfl
  refine ⟨KX.tr a1 b1 rfl rfl, fun q => ?_, fun q => ?_⟩
  · obtain ⟨c1, c2⟩ := a2 q
    obtain ⟨d1, d2⟩ := b2 (e7.trans q)
    exact ⟨d1.trans c1, d2.trans c2⟩
  · obtain ⟨c1, c2, c3⟩ := a3 q
    obtain ⟨d1, d2, d3⟩ := b3 (e7.trans q)
    have n0 : wN F = (F 6).toInt.toNat := rfl
    have n1 : wN F1 = wN F + ws.length := by
      have e : wN F1 = (F1 6).toInt.toNat := rfl
      omega
    refine ⟨by rw [d1, c1, List.length_append]; omega, fun j hj => (d2 j (by omega)).trans (c2 j hj), fun j x hj => ?_⟩
    rcases Nat.lt_or_ge j ws.length with q1 | q1
    · rw [List.getElem?_append_left q1] at hj
      rw [d2 (wN F + j) (by omega)]
      exact c3 j x hj
    · rw [List.getElem?_append_right q1] at hj
      have := d3 (j - ws.length) x hj
      rw [n1, show wN F + ws.length + (j - ws.length) = wN F + j by omega] at this
      exact this
theorem cp_wadd {fu : Nat} (x : Int32) {F : PF} (G : PG) (h : jRm 1 F) : PP (cf_X1_add fu x F G) (fun _ F1 G1 => EMC [x] F G F1 G1) := by
  have l0 : (8400 : Int32).toInt = 8400 := rfl
  unfold cf_X1_add cb_X1_add_0 cb_X1_add_7 cb_X1_add_17 cb_X1_add_27 cb_X1_add_37
  refine PP.ite (fun q => PP.ret ⟨KX.rf, fun _ => ⟨rfl, rfl⟩, fun z => ?_⟩) (fun q => PP.ite (fun z => ?_) (fun z => PP.ix (fun _ => PP.ret ⟨KX.f rfl (KX.g rfl KX.rf), fun y => absurd y q, fun _ => ⟨?_, fun j hj => ?_, fun j y hj => ?_⟩⟩)))
  · rw [q] at z
    exact absurd z (by decide)
  · rcases h with h | ⟨-, h1, h2⟩
    · exact absurd h q
    · have := i_le.mp z
      omega
  · rw [fup_s]
    rcases h with h | ⟨-, h1, h2⟩
    · exact absurd h q
    · exact (i_addn (F 6) rfl (by omega) (by omega) : (F 6 + 1).toInt = (F 6).toInt + 1)
  · exact gup_x (Nat.ne_of_lt hj)
  · cases j with
    | zero =>
      have e : x = y := Option.some.inj hj
      rw [← e]
      exact gup_i
    | succ j =>
      have e : (none : Option Int32) = some y := hj
      cases e
theorem cp_wpair {fu : Nat} (x y : Int32) {F : PF} (G : PG) (h : jRm 2 F) : PP (cf_X1_addPair fu x y F G) (fun _ F1 G1 => EMC [x, y] F G F1 G1) := by
  have l0 : (8399 : Int32).toInt = 8399 := rfl
  unfold cf_X1_addPair cb_X1_addPair_0 cb_X1_addPair_7 cb_X1_addPair_17 cb_X1_addPair_27 cb_X1_addPair_39 cb_X1_addPair_49
  refine PP.ite (fun q => PP.ret ⟨KX.rf, fun _ => ⟨rfl, rfl⟩, fun z => ?_⟩) (fun q => PP.ite (fun z => ?_) (fun z => PP.ix (fun _ => PP.ix (fun _ => PP.ret ⟨KX.f rfl (KX.g rfl (KX.g rfl KX.rf)), fun y => absurd y q, fun _ => ?_⟩))))
  · rw [q] at z
    exact absurd z (by decide)
  · rcases h with h | ⟨-, h1, h2⟩
    · exact absurd h q
    · have := i_le.mp z
      omega
  · rcases h with h | ⟨-, h1, h2⟩
    · exact absurd h q
    have e1 : (F 6 + 1).toInt = (F 6).toInt + 1 := i_addn _ rfl (by omega) (by omega)
    have en : (F 6 + 1).toNatClampNeg = wN F + 1 := by
      show (F 6 + 1).toInt.toNat = (F 6).toInt.toNat + 1
      omega
    rw [en]
    refine ⟨?_, fun j hj => ?_, fun j v hj => ?_⟩
    · rw [fup_s]
      exact (i_addn (F 6) rfl (by omega) (by omega) : (F 6 + 2).toInt = (F 6).toInt + 2)
    · rw [gup_x (by omega)]
      exact gup_x (Nat.ne_of_lt hj)
    · cases j with
      | zero =>
        have e : x = v := Option.some.inj hj
        rw [← e, gup_x (show wN F + 0 ≠ wN F + 1 by omega)]
        exact gup_i
      | succ j =>
        cases j with
        | zero =>
          have e : y = v := Option.some.inj hj
          rw [← e]
          exact gup_i
        | succ j =>
          have e : (none : Option Int32) = some v := hj
          cases e
theorem cp_wjump {fu : Nat} (x y : Int32) {F : PF} (G : PG) (h : jRm 2 F) : PP (cf_X1_addJump fu x y F G) (fun r F1 G1 => EMC [x, y] F G F1 G1 ∧ (F 7 = 0 → r = -1) ∧ (F 7 = 1 → r = nI (wN F + 1))) := by
  have l0 : (8399 : Int32).toInt = 8399 := rfl
  unfold cf_X1_addJump cb_X1_addJump_0 cb_X1_addJump_7 cb_X1_addJump_17 cb_X1_addJump_19 cb_X1_addJump_29 cb_X1_addJump_41 cb_X1_addJump_51
  refine PP.ite (fun q => PP.ret ⟨⟨KX.rf, fun _ => ⟨rfl, rfl⟩, fun z => ?_⟩, fun _ => rfl, fun z => ?_⟩) (fun q => PP.ite (fun z => PP.ix (fun _ => PP.ix (fun _ => PP.ret ⟨⟨KX.f rfl (KX.g rfl (KX.g rfl KX.rf)), fun y => absurd y q, fun _ => ?_⟩, fun y => absurd y q, fun _ => ?_⟩))) (fun z => ?_))
  · rw [q] at z
    exact absurd z (by decide)
  · rw [q] at z
    exact absurd z (by decide)
  · rcases h with h | ⟨-, h1, h2⟩
    · exact absurd h q
    have e1 : (F 6 + 1).toInt = (F 6).toInt + 1 := i_addn _ rfl (by omega) (by omega)
    have en : (F 6 + 1).toNatClampNeg = wN F + 1 := by
      show (F 6 + 1).toInt.toNat = (F 6).toInt.toNat + 1
      omega
    rw [en]
    refine ⟨?_, fun j hj => ?_, fun j v hj => ?_⟩
    · rw [fup_s]
      exact (i_addn (F 6) rfl (by omega) (by omega) : (F 6 + 2).toInt = (F 6).toInt + 2)
    · rw [gup_x (by omega)]
      exact gup_x (Nat.ne_of_lt hj)
    · cases j with
      | zero =>
        have e : x = v := Option.some.inj hj
        rw [← e, gup_x (show wN F + 0 ≠ wN F + 1 by omega)]
        exact gup_i
      | succ j =>
        cases j with
        | zero =>
          have e : y = v := Option.some.inj hj
          rw [← e]
          exact gup_i
        | succ j =>
          have e : (none : Option Int32) = some v := hj
          cases e
  · rcases h with h | ⟨-, h1, h2⟩
    · exact absurd h q
    rw [fup_s]
    have e2 : (F 6 + 2).toInt = (F 6).toInt + 2 := i_addn _ rfl (by omega) (by omega)
    have e3 : (F 6 + 2 - 1).toInt = (F 6 + 2).toInt - 1 := i_subn _ rfl (by omega) (by omega)
    have e4 : wN F = (F 6).toInt.toNat := rfl
    refine i_eq.mpr ?_
    rw [nI_toInt (show wN F + 1 < 2 ^ 31 by omega), e3, e2]
    omega
  · rcases h with h | ⟨-, h1, h2⟩
    · exact absurd h q
    · exact absurd (i_lt.mpr (by omega)) z
/-- no jump waits -/
theorem cp_aim0 {fu : Nat} (x t : Int32) (hx : x.toInt < 0) (F : PF) (G : PG) : PP (cf_X1_aim fu x t F G) (fun _ F1 G1 => F = F1 ∧ G = G1) := by
  unfold cf_X1_aim cb_X1_aim_0
  cases fu with
  | zero => exact PP.no
  | succ m =>
    show PP (cb_X1_aim_5 (m + 1) (cl_X1_aim_5 (m + 1) m) t x 0 F G) _
    unfold cb_X1_aim_5 cb_X1_aim_13 cb_X1_aim_49
    exact PP.ite (fun _ => PP.ret ⟨rfl, rfl⟩) (fun _ => PP.ite (fun _ => PP.ret ⟨rfl, rfl⟩) (fun q => absurd (i_lt.mpr (show x.toInt < (0 : Int32).toInt from hx)) q))
/-- one jump waits -/
theorem cp_aim1 {fu : Nat} (h : Nat) (x t : Int32) (F : PF) (G : PG) (hx : x = nI h) (h0 : h < 8400) (h1 : (h : Int) < (F 6).toInt) (h2 : G 5 h = -1) : PP (cf_X1_aim fu x t F G) (fun _ F1 G1 => F = F1 ∧ G1 = gup G 5 h t) := by
  have l0 : (0 : Int32).toInt = 0 := rfl
  have l1 : (8400 : Int32).toInt = 8400 := rfl
  have ex : x.toInt = h := by rw [hx, nI_toInt (by omega)]
  have en : x.toNatClampNeg = h := by
    show x.toInt.toNat = h
    omega
  have e01 : ((0 : Int32) + 1).toInt = 1 := rfl
  unfold cf_X1_aim cb_X1_aim_0
  cases fu with
  | zero => exact PP.no
  | succ m =>
    show PP (cb_X1_aim_5 (m + 1) (cl_X1_aim_5 (m + 1) m) t x 0 F G) _
    unfold cb_X1_aim_5 cb_X1_aim_13 cb_X1_aim_17 cb_X1_aim_25 cb_X1_aim_40 cb_X1_aim_49
    refine PP.ite (fun q => absurd (i_le.mp q) (by omega)) (fun _ => PP.ite (fun q => absurd (i_lt.mp q) (by omega)) (fun _ => PP.ite (fun q => absurd (i_le.mp q) (by omega)) (fun _ => PP.ix (fun _ => PP.ix (fun _ => ?_)))))
    rw [en, h2]
    cases m with
    | zero => exact PP.no
    | succ k =>
      show PP (cb_X1_aim_5 (k + 1 + 1) (cl_X1_aim_5 (k + 1 + 1) k) t (-1) (0 + 1) F (gup G 5 h t)) _
      unfold cb_X1_aim_5 cb_X1_aim_13 cb_X1_aim_49
      exact PP.ite (fun q => absurd (i_le.mp q) (by omega)) (fun _ => PP.ite (fun _ => PP.ret ⟨rfl, rfl⟩) (fun q => absurd (show (-1 : Int32) < 0 by decide) q))
/-- the class notes -/
theorem cp_note {fu : Nat} (k p : Int32) (k0 : 0 ≤ k.toInt) (k1 : k.toInt < 10) (F : PF) (G : PG) : PP (cf_X5_note fu k p F G) (fun _ F1 G1 => G = G1 ∧ KX [43, 44, 47] [] F G F1 G1 ∧ (F 45 = 0 → F = F1) ∧ (¬ F 45 = 0 → p.toInt ≤ 4000 → (F1 43).toInt ≤ 4000)) := by
  have l0 : (0 : Int32).toInt = 0 := rfl
  have l10 : (10 : Int32).toInt = 10 := rfl
  unfold cf_X5_note cb_X5_note_0 cb_X5_note_7 cb_X5_note_11 cb_X5_note_19 cb_X5_note_20
  refine PP.ite (fun q => PP.ret ⟨rfl, KX.rf, fun _ => rfl, fun z => absurd q z⟩) (fun q => PP.ite (fun z => absurd (i_lt.mp z) (by omega)) (fun _ => PP.ite (fun _ => ?_) (fun z => absurd (i_lt.mpr (by omega)) z)))
  have g43 : fup F 47 0 43 = F 43 := fup_n (by decide)
  unfold cb_X5_note_25 cb_X5_note_33 cb_X5_note_41 cb_X5_note_49 cb_X5_note_54 cb_X5_note_59
  rw [g43]
  have w : ∀ y : Int32, PP (some (0, fup (fup (fup F 47 0) 43 p) 44 y, G)) (fun _ F1 G1 => G = G1 ∧ KX [43, 44, 47] [] F G F1 G1 ∧ (F 45 = 0 → F = F1) ∧ (¬ F 45 = 0 → p.toInt ≤ 4000 → (F1 43).toInt ≤ 4000)) := fun y => PP.ret ⟨rfl, KX.f rfl (KX.f rfl (KX.f rfl KX.rf)), fun z => absurd z q, fun _ z => by rw [fup_n (by decide), fup_s]; exact z⟩
  have v : ¬ p < F 43 → PP (some (0, fup F 47 0, G)) (fun _ F1 G1 => G = G1 ∧ KX [43, 44, 47] [] F G F1 G1 ∧ (F 45 = 0 → F = F1) ∧ (¬ F 45 = 0 → p.toInt ≤ 4000 → (F1 43).toInt ≤ 4000)) := fun y => PP.ret ⟨rfl, KX.f rfl KX.rf, fun z => absurd z q, fun _ z => by
    rw [g43]
    have := mt i_lt.mpr y
    omega⟩
  exact PP.ite (fun _ => w _) (fun y => PP.ite (fun _ => PP.ite (fun _ => v y) (fun _ => w _)) (fun _ => v y))
