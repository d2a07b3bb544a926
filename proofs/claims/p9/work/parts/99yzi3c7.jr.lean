/-- the byte k of a word -/
def byt (x : Int32) (k : Nat) : Int32 := (x >>> nI (24 - 8 * k)) &&& 255
theorem bv_255 (i : Nat) (hi : i < 32) : (255#32).getLsbD i = decide (i < 8) := by
  revert i
  decide
theorem bv_low (v : BitVec 32) : ((v.signExtend 8).signExtend 32) &&& 255#32 = v &&& 255#32 := by
  apply BitVec.eq_of_getLsbD_eq
  intro i hi
  rw [BitVec.getLsbD_and, BitVec.getLsbD_and, bv_255 i hi]
  by_cases h : i < 8
  · rw [BitVec.getLsbD_signExtend, BitVec.getLsbD_signExtend]
    simp [h, hi]
  · simp [h]
theorem bv_sh (v : BitVec 32) (s : Nat) (hs : s ≤ 24) : (v >>> s) &&& 255#32 = (v.sshiftRight s) &&& 255#32 := by
  apply BitVec.eq_of_getLsbD_eq
  intro i hi
  rw [BitVec.getLsbD_and, BitVec.getLsbD_and, bv_255 i hi]
  by_cases h : i < 8
  · rw [BitVec.getLsbD_ushiftRight, BitVec.getLsbD_sshiftRight, if_pos (show s + i < 32 by omega)]
    simp [h, hi]
  · simp [h]
theorem by_low (v : Int32) : v.toInt8.toInt32 &&& 255 = v &&& 255 := Int32.toBitVec.inj (bv_low v.toBitVec)
theorem by_sh (x : Int32) : ∀ k : Nat, k < 4 → (vp_nar .byte (((x.toUInt32 >>> ((nI (24 - 8 * k)).toUInt32 &&& Int32.toUInt32 31)).toInt32).toInt8.toInt32)) &&& 255 = byt x k := by
  intro k hk
  have nr : ∀ v : Int32, vp_nar .byte v = v.toInt8.toInt32 := fun v => rfl
  rw [nr, by_low, by_low]
  unfold byt
  rcases (show k = 0 ∨ k = 1 ∨ k = 2 ∨ k = 3 by omega) with z | z | z | z <;> subst z
  · exact Int32.toBitVec.inj (bv_sh x.toBitVec 24 (by decide))
  · exact Int32.toBitVec.inj (bv_sh x.toBitVec 16 (by decide))
  · exact Int32.toBitVec.inj (bv_sh x.toBitVec 8 (by decide))
  · exact Int32.toBitVec.inj (bv_sh x.toBitVec 0 (by decide))
theorem by_am : ∀ j : Nat, j < 20 → (((24 : Int32) - ((8 : Int32) * (nI j - nI j / (4 : Int32) * (4 : Int32)))) &&& 31) = nI (24 - 8 * (j % 4)) := by decide
section JR7
variable {fu : Nat} {F Fc Fm : PF} {G Gc Gm : PG}
/-- the class takes a word -/
theorem cp_take3 {n : Nat} (x : Int32) (hn : n ≤ 3996) (F0 : PF) (G0 : PG) : ∀ (m k : Nat) (F : PF) (G : PG), k ≤ 4 → (F 88).toInt = (n : Int) + k → KX [88] [87] F0 G0 F G → (∀ i : Nat, i < n → G 87 i = G0 87 i) → (∀ j : Nat, j < k → G 87 (n + j) &&& 255 = byt x j) → PP (cl_X9_take_3 fu m x (nI (24 - 8 * k) - nI (if k = 4 then 8 else 0)) F G) (fun _ F' G' => (F' 88).toInt = (n : Int) + 4 ∧ KX [88] [87] F0 G0 F' G' ∧ (∀ i : Nat, i < n → G' 87 i = G0 87 i) ∧ ∀ j : Nat, j < 4 → G' 87 (n + j) &&& 255 = byt x j) := by
  intro m
  induction m with
  | zero => intro k F G _ _ _ _ _; exact PP.no
  | succ m ih =>
    intro k F G hk h88 kx h1 h2
    have l4 : (4000 : Int32).toInt = 4000 := rfl
    have en : (F 88).toNatClampNeg = n + k := by
      show (F 88).toInt.toNat = n + k
      omega
    show PP (cb_X9_take_3 fu (cl_X9_take_3 fu m) x (nI (24 - 8 * k) - nI (if k = 4 then 8 else 0)) F G) _
    unfold cb_X9_take_3 cb_X9_take_46
    by_cases c : k = 4
    · subst c
      rw [if_pos (show nI (24 - 8 * 4) - nI (if 4 = 4 then 8 else 0) < 0 by decide)]
      exact PP.ret ⟨h88, kx, h1, h2⟩
    · have e0 : nI (24 - 8 * k) - nI (if k = 4 then 8 else 0) = nI (24 - 8 * k) := by
        rw [if_neg c]
        exact Int32.sub_zero _
      rw [e0, if_neg (fun y => by have := i_lt.mp y; rw [nI_toInt (by omega)] at this; have l0 : (0 : Int32).toInt = 0 := rfl; omega)]
      unfold cb_X9_take_7
      rw [if_neg (fun y => by have := i_le.mp y; omega)]
      unfold cb_X9_take_17 cb_X9_take_30 cb_X9_take_40
      rw [en]
      refine PP.ix (fun _ => ?_)
      have e8 : nI (24 - 8 * k) + (-8) = nI (24 - 8 * (k + 1)) - nI (if k + 1 = 4 then 8 else 0) := by
        rcases (show k = 0 ∨ k = 1 ∨ k = 2 ∨ k = 3 by omega) with z | z | z | z <;> subst z <;> decide
      rw [e8]
      refine ih (k + 1) _ _ (by omega) ?_ (KX.f rfl (KX.g rfl kx)) (fun i hi => ?_) (fun j hj => ?_)
      · rw [fup_s, i_addn (m := 1) _ rfl (by omega) (by omega), h88]
        omega
      · rw [gup_x (by omega)]
        exact h1 i hi
      · by_cases e : j = k
        · rw [e, gup_i]
          exact by_sh x k (by omega)
        · rw [gup_x (by omega)]
          exact h2 j (by omega)
theorem cp_take {n : Nat} (x : Int32) (hn : n ≤ 3996) (h88 : (F 88).toInt = n) : PP (cf_X9_take fu x F G) (fun _ F' G' => (F' 88).toInt = (n : Int) + 4 ∧ KX [88] [87] F G F' G' ∧ (∀ i : Nat, i < n → G' 87 i = G 87 i) ∧ ∀ j : Nat, j < 4 → G' 87 (n + j) &&& 255 = byt x j) := by
  unfold cf_X9_take cb_X9_take_0
  exact cp_take3 x hn F G fu 0 F G (by omega) (by omega) KX.rf (fun _ _ => rfl) (fun j hj => absurd hj (Nat.not_lt_zero _))
/-- the word at j of twenty bytes -/
def w5 (x1 x2 x3 x4 x5 : Int32) (j : Nat) : Int32 := if j < 4 then x1 else if j < 8 then x2 else if j < 12 then x3 else if j < 16 then x4 else x5
theorem cp_feed {n : Nat} (x1 x2 x3 x4 x5 : Int32) (h88 : (F 88).toInt = n) : PP (cf_X11_feed fu x1 x2 x3 x4 x5 F G) (fun _ F' G' => KX [88] [87] F G F' G' ∧ (3980 < n → F = F' ∧ G = G') ∧ (n ≤ 3980 → (F' 88).toInt = (n : Int) + 20 ∧ (∀ i : Nat, i < n → G' 87 i = G 87 i) ∧ ∀ j : Nat, j < 20 → G' 87 (n + j) &&& 255 = byt (w5 x1 x2 x3 x4 x5 j) (j % 4))) := by
  have l3 : (3980 : Int32).toInt = 3980 := rfl
  unfold cf_X11_feed cb_X11_feed_0
  refine PP.ite (fun c => ?_) (fun c => PP.ret ⟨KX.rf, fun _ => ⟨rfl, rfl⟩, fun y => absurd (i_le.mpr (by omega)) c⟩)
  have nb : n ≤ 3980 := by
    have := i_le.mp c
    omega
  unfold cb_X11_feed_15
  refine PP.bind (cp_take x1 (by omega) h88) ?_
  rintro _ Fa Ga ⟨a1, a2, a3, a4⟩
  dsimp only
  unfold cb_X11_feed_23
  refine PP.bind (cp_take (n := n + 4) x2 (by omega) (by omega)) ?_
  rintro _ Fb Gb ⟨b1, b2, b3, b4⟩
  dsimp only
  unfold cb_X11_feed_31
  refine PP.bind (cp_take (n := n + 8) x3 (by omega) (by omega)) ?_
  rintro _ Fd Gd ⟨d1, d2, d3, d4⟩
  dsimp only
  unfold cb_X11_feed_39
  refine PP.bind (cp_take (n := n + 12) x4 (by omega) (by omega)) ?_
  rintro _ Fe Ge ⟨e1, e2, e3, e4⟩
  dsimp only
  unfold cb_X11_feed_48
  refine PP.bind (cp_take (n := n + 16) x5 (by omega) (by omega)) ?_
  rintro _ Fg Gg ⟨g1, g2, g3, g4⟩
  dsimp only
  unfold cb_X11_feed_57
  refine PP.ret ⟨KX.tr (KX.tr (KX.tr (KX.tr a2 b2 rfl rfl) d2 rfl rfl) e2 rfl rfl) g2 rfl rfl, fun y => by omega, fun _ => ⟨by omega, fun i hi => ?_, fun j hj => ?_⟩⟩
  · show Gg 87 i = G 87 i
    rw [g3 i (by omega), e3 i (by omega), d3 i (by omega), b3 i (by omega), a3 i hi]
  · show Gg 87 (n + j) &&& 255 = _
    unfold w5
    by_cases c1 : j < 4
    · rw [if_pos c1, g3 _ (by omega), e3 _ (by omega), d3 _ (by omega), b3 _ (by omega), a4 j c1, Nat.mod_eq_of_lt c1]
    · by_cases c2 : j < 8
      · rw [if_neg c1, if_pos c2, g3 _ (by omega), e3 _ (by omega), d3 _ (by omega), show n + j = n + 4 + (j - 4) by omega, b4 _ (by omega), show j % 4 = j - 4 by omega]
      · by_cases c3 : j < 12
        · rw [if_neg c1, if_neg c2, if_pos c3, g3 _ (by omega), e3 _ (by omega), show n + j = n + 8 + (j - 8) by omega, d4 _ (by omega), show j % 4 = j - 8 by omega]
        · by_cases c4 : j < 16
          · rw [if_neg c1, if_neg c2, if_neg c3, if_pos c4, g3 _ (by omega), show n + j = n + 12 + (j - 12) by omega, e4 _ (by omega), show j % 4 = j - 12 by omega]
          · rw [if_neg c1, if_neg c2, if_neg c3, if_neg c4, show n + j = n + 16 + (j - 16) by omega, g4 _ (by omega), show j % 4 = j - 16 by omega]
theorem mp_feed18 {n : Nat} (x1 x2 x3 x4 x5 : Int32) (hn : n ≤ 3980) (h2 : (F 2).toInt = n) : ∀ (m j : Nat) (G1 : PG), j ≤ 20 → KX [] [0] F G F G1 → (∀ i : Nat, i < n → G1 0 i = G 0 i) → (∀ y : Nat, y < j → G1 0 (n + y) = byt (w5 x1 x2 x3 x4 x5 y) (y % 4)) → PP (ml_feed_18 fu m x1 x2 x3 x4 x5 (nI j) F G1) (fun _ F' G' => (F' 2).toInt = (n : Int) + 20 ∧ KX [2] [0] F G F' G' ∧ (∀ i : Nat, i < n → G' 0 i = G 0 i) ∧ ∀ y : Nat, y < 20 → G' 0 (n + y) = byt (w5 x1 x2 x3 x4 x5 y) (y % 4)) := by
  intro m
  induction m with
  | zero => intro j G1 _ _ _ _; exact PP.no
  | succ m ih =>
    intro j G1 hj kx h0 h1
    have jI : (nI j).toInt = j := nI_toInt (by omega)
    have l20 : (20 : Int32).toInt = 20 := rfl
    have l16 : (16 : Int32).toInt = 16 := rfl
    have l12 : (12 : Int32).toInt = 12 := rfl
    have l8 : (8 : Int32).toInt = 8 := rfl
    have l4 : (4 : Int32).toInt = 4 := rfl
    show PP (mb_feed_18 fu (ml_feed_18 fu m) x1 x2 x3 x4 x5 (nI j) F G1) _
    unfold mb_feed_18
    refine PP.ite (fun c => ?_) (fun c => ?_)
    · have e : j = 20 := by
        have := i_le.mp c
        omega
      subst e
      unfold mb_feed_108 mb_feed_119
      refine PP.ret ⟨?_, KX.f rfl (KX.tr KX.rf kx rfl rfl), h0, h1⟩
      rw [fup_s, i_addn (m := 20) _ rfl (by omega) (by omega), h2]
    · have j20 : j < 20 := by
        rcases Nat.lt_or_ge j 20 with y | y
        · exact y
        · exact absurd (i_le.mpr (by omega)) c
      have w71 : PP (mb_feed_71 fu (ml_feed_18 fu m) x1 x2 x3 x4 x5 (nI j) (w5 x1 x2 x3 x4 x5 j) F G1) (fun _ F' G' => (F' 2).toInt = (n : Int) + 20 ∧ KX [2] [0] F G F' G' ∧ (∀ i : Nat, i < n → G' 0 i = G 0 i) ∧ ∀ y : Nat, y < 20 → G' 0 (n + y) = byt (w5 x1 x2 x3 x4 x5 y) (y % 4)) := by
        have ea : (F 2 + nI j).toInt = (n : Int) + j := by
          have := i_addn (F 2) (n := nI j) (m := j) jI (by omega) (by omega)
          omega
        have ec : (F 2 + nI j).toNatClampNeg = n + j := by
          show (F 2 + nI j).toInt.toNat = n + j
          omega
        unfold mb_feed_71 mb_feed_102
        rw [ec, by_am j j20, nI_s j (by omega)]
        refine PP.ix (fun _ => ?_)
        refine ih (j + 1) _ (by omega) (KX.tr kx (KX.g (a := []) (b := [0]) (k := 0) rfl KX.rf) rfl rfl) (fun i hi => ?_) (fun y hy => ?_)
        · rw [gup_x (by omega)]
          exact h0 i hi
        · by_cases e : y = j
          · rw [e, gup_i]
            rfl
          · rw [gup_x (by omega)]
            exact h1 y (by omega)
      unfold w5 at w71
      unfold mb_feed_25
      by_cases c4 : j < 4
      · rw [if_neg (fun y => by have := i_le.mp y; omega)]
        rw [if_pos c4] at w71
        exact w71
      · rw [if_pos (i_le.mpr (by omega))]
        rw [if_neg c4] at w71
        unfold mb_feed_35
        by_cases c8 : j < 8
        · rw [if_neg (fun y => by have := i_le.mp y; omega)]
          rw [if_pos c8] at w71
          exact w71
        · rw [if_pos (i_le.mpr (by omega))]
          rw [if_neg c8] at w71
          unfold mb_feed_46
          by_cases c12 : j < 12
          · rw [if_neg (fun y => by have := i_le.mp y; omega)]
            rw [if_pos c12] at w71
            exact w71
          · rw [if_pos (i_le.mpr (by omega))]
            rw [if_neg c12] at w71
            unfold mb_feed_57
            by_cases c16 : j < 16
            · rw [if_neg (fun y => by have := i_le.mp y; omega)]
              rw [if_pos c16] at w71
              exact w71
            · rw [if_pos (i_le.mpr (by omega))]
              rw [if_neg c16] at w71
              exact w71
theorem mp_feed {n : Nat} (x1 x2 x3 x4 x5 : Int32) (h2 : (F 2).toInt = n) (n4 : n ≤ 4000) : PP (mf_feed fu x1 x2 x3 x4 x5 F G) (fun _ F' G' => KX [2] [0] F G F' G' ∧ (3980 < n → F = F' ∧ G = G') ∧ (n ≤ 3980 → (F' 2).toInt = (n : Int) + 20 ∧ (∀ i : Nat, i < n → G' 0 i = G 0 i) ∧ ∀ j : Nat, j < 20 → G' 0 (n + j) = byt (w5 x1 x2 x3 x4 x5 j) (j % 4))) := by
  have l3 : (4000 : Int32).toInt = 4000 := rfl
  have ea : (F 2 + 20).toInt = (F 2).toInt + 20 := i_addn _ rfl (by omega) (by omega)
  unfold mf_feed mb_feed_0
  refine PP.ite (fun c => ?_) (fun c => PP.ret ⟨KX.rf, fun _ => ⟨rfl, rfl⟩, fun y => absurd (i_le.mpr (by omega)) c⟩)
  have nb : n ≤ 3980 := by
    have := i_le.mp c
    omega
  unfold mb_feed_15
  refine PP.mono (mp_feed18 x1 x2 x3 x4 x5 nb h2 fu 0 G (by omega) KX.rf (fun _ _ => rfl) (fun j hj => absurd hj (Nat.not_lt_zero _))) (fun _ F' G' w => ⟨w.2.1, fun y => by omega, fun _ => ⟨w.1, w.2.2.1, w.2.2.2⟩⟩)
end JR7
