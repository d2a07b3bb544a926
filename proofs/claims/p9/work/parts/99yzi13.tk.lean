def sgc (i : Nat) : Int32 := (bytS.getD 3 []).getD i 0
theorem sg_16 : ∀ k : Nat, k < 256 → ((nI k).toUInt32 % 65536).toInt32 = nI k := by decide +kernel
theorem sg_8 : ∀ k : Nat, k < 256 → ∀ i : Nat, i < 23 → ((bytS.getD 3 []).getD i 0 = (nI k).toInt8.toInt32 ↔ sgc i = nI k) := by decide +kernel
theorem cp_index {fu : Nat} {c : Int32} {k : Nat} (ek : c = nI k) (hk : k < 256) (F : PF) (G : PG) : PP (cf_J0_indexOf_0f7a4 fu 3 ((c.toUInt32 % 65536).toInt32) F G) (fun r F' G' => F = F' ∧ G = G' ∧ ((∃ i : Nat, i < 23 ∧ r = nI i ∧ sgc i = c) ∨ (r = -1 ∧ ∀ i : Nat, i < 23 → ¬ sgc i = c))) := by
  have e16 : (c.toUInt32 % 65536).toInt32 = c := by rw [ek]; exact sg_16 k hk
  rw [e16]
  have ci : c.toInt = k := by rw [ek, nI_toInt (by omega)]
  have l0 : (0 : Int32).toInt = 0 := rfl
  have l255 : (255 : Int32).toInt = 255 := rfl
  have loop : ∀ (k2 : Nat) (x5 : Int32) (a : Nat), x5 = nI a → a ≤ 23 → (∀ j : Nat, j < a → ¬ sgc j = c) → PP (cl_J1_indexOfChar_4cfef_7 fu k2 3 23 (c.toInt8.toInt32) x5 F G) (fun r F' G' => F = F' ∧ G = G' ∧ ((∃ i : Nat, i < 23 ∧ r = nI i ∧ sgc i = c) ∨ (r = -1 ∧ ∀ i : Nat, i < 23 → ¬ sgc i = c))) := by
    intro k2
    induction k2 with
    | zero => intro x5 a _ _ _; exact PP.no
    | succ k2 ih =>
      intro x5 a e5 a0 ha
      have e5i : x5.toInt = a := by rw [e5, nI_toInt (by omega)]
      have l23 : (23 : Int32).toInt = 23 := rfl
      show PP (cb_J1_indexOfChar_4cfef_7 fu (cl_J1_indexOfChar_4cfef_7 fu k2) 3 23 (c.toInt8.toInt32) x5 F G) _
      unfold cb_J1_indexOfChar_4cfef_7 cb_J1_indexOfChar_4cfef_31
      refine PP.ite (fun z => PP.ret ⟨rfl, rfl, .inr ⟨rfl, fun i hi => ha i ?_⟩⟩) (fun z => ?_)
      · have := i_le.mp z
        omega
      have z1 := mt i_le.mpr z
      unfold cb_J1_indexOfChar_4cfef_13 cb_J1_indexOfChar_4cfef_22 cb_J1_indexOfChar_4cfef_25
      refine PP.lt (fun _ => PP.ix (fun _ => ?_))
      have xa : x5.toNatClampNeg = a := by
        show x5.toInt.toNat = a
        omega
      rw [xa]
      have q8 := sg_8 k hk a (by omega)
      rw [← ek] at q8
      refine PP.ite (fun w => PP.ret ⟨rfl, rfl, .inl ⟨a, by omega, e5, q8.mp w⟩⟩) (fun w => ?_)
      refine ih (x5 + 1) (a + 1) (by rw [e5, ← nI_add]; rfl) (by omega) (fun j hj => ?_)
      rcases Nat.lt_or_ge j a with q | q
      · exact ha j q
      · rw [show j = a by omega]
        exact fun t => w (q8.mpr t)
  unfold cf_J0_indexOf_0f7a4 cb_J0_indexOf_0f7a4_0 cb_J0_indexOf_0f7a4_6
  refine PP.bind (Q1 := fun r F' G' => F = F' ∧ G = G' ∧ ((∃ i : Nat, i < 23 ∧ r = nI i ∧ sgc i = c) ∨ (r = -1 ∧ ∀ i : Nat, i < 23 → ¬ sgc i = c))) ?_ (fun r F' G' q => PP.ret q)
  unfold cf_J0_indexOf_7cf53 cb_J0_indexOf_7cf53_0 cf_J0_isLatin1_aae02
  rw [if_pos (show 3 < 4 by decide)]
  show PP (cb_J0_indexOf_7cf53_4 fu 3 c 0 1 F G) _
  unfold cb_J0_indexOf_7cf53_4
  rw [if_neg (show ¬ (1 : Int32) = 0 by decide)]
  unfold cb_J0_indexOf_7cf53_7 cf_J0_length_8abf5
  rw [if_pos (show 3 < 4 by decide), if_pos (show 3 < 4 by decide)]
  show PP (cb_J0_indexOf_7cf53_17 fu (nI (lenS.getD 3 0) >>> ((0 : Int32) &&& 31)) 0 c 3 F G) _
  rw [show nI (lenS.getD 3 0) >>> ((0 : Int32) &&& 31) = 23 by decide]
  unfold cb_J0_indexOf_7cf53_17 cb_J0_indexOf_7cf53_20 cb_J0_indexOf_7cf53_36
  refine PP.bind (Q1 := fun r F' G' => F = F' ∧ G = G' ∧ ((∃ i : Nat, i < 23 ∧ r = nI i ∧ sgc i = c) ∨ (r = -1 ∧ ∀ i : Nat, i < 23 → ¬ sgc i = c))) ?_ (fun r F' G' q => PP.ret q)
  unfold cf_J1_indexOf_4cfef cb_J1_indexOf_4cfef_0 cf_J1_canEncode_9a6ad cb_J1_canEncode_9a6ad_0 cb_J1_canEncode_9a6ad_4 cb_J1_canEncode_9a6ad_11 cb_J1_canEncode_9a6ad_16
  rw [if_neg (show ¬ c < (0 : Int32) from fun q => by have := i_lt.mp q; omega), if_neg (show ¬ (255 : Int32) < c from fun q => by have := i_lt.mp q; omega), if_pos (show b01 1 = true by decide)]
  show PP (cb_J1_indexOf_4cfef_4 fu 3 c 0 23 1 F G) _
  unfold cb_J1_indexOf_4cfef_4
  rw [if_neg (show ¬ (1 : Int32) = 0 by decide)]
  unfold cb_J1_indexOf_4cfef_9 cb_J1_indexOf_4cfef_14
  rw [if_pos (show 3 < 4 by decide), if_neg (show ¬ (0 : Int32) < 0 by decide), if_neg (show ¬ nI (lenS.getD 3 0) < (23 : Int32) by decide)]
  unfold cb_J1_indexOf_4cfef_21
  rw [if_pos (show (0 : Int32) < 23 by decide)]
  unfold cb_J1_indexOf_4cfef_29 cb_J1_indexOf_4cfef_36
  refine PP.bind (Q1 := fun r F' G' => F = F' ∧ G = G' ∧ ((∃ i : Nat, i < 23 ∧ r = nI i ∧ sgc i = c) ∨ (r = -1 ∧ ∀ i : Nat, i < 23 → ¬ sgc i = c))) ?_ (fun r F' G' q => PP.ret q)
  unfold cf_J1_indexOfChar_4cfef cb_J1_indexOfChar_4cfef_0
  exact loop fu 0 0 rfl (Nat.zero_le _) (fun j hj => absurd hj (by omega))
/-- the length of sign w; sign w stands at x -/
def sgl (w : Nat) : Nat := stS (w + 1) - 1 - stS w
def SGM (b : Nat → Int32) (x w : Nat) : Prop := ∀ j : Nat, j < sgl w → chS 0 (nI (stS w + j)) = b (x + j)
/-- sign w, of length l, is the token at x: it stands there, and no longer one does -/
def SGT (b : Nat → Int32) (x w : Nat) : Prop := w < 45 ∧ SGM b x w ∧ ∀ v : Nat, v < 45 → SGM b x v → sgl v ≤ sgl w
theorem sgl_eq {b : Nat → Int32} {x m w : Nat} (hw : w < 45) : MWD b 0 stS x m w ↔ (sgl w = m ∧ SGM b x w) := by
  have h : ∀ w : Nat, w < 45 → stS w + 1 < stS (w + 1) := by decide +kernel
  have q := h w hw
  unfold MWD SGM sgl
  constructor
  · rintro ⟨a, c⟩
    exact ⟨by omega, fun j hj => c j (by omega)⟩
  · rintro ⟨a, c⟩
    exact ⟨by omega, fun j hj => c j (by omega)⟩
/-- two signs of one length at one place are one -/
theorem sg_two : ∀ v : Nat, v < 45 → ∀ w : Nat, w < 45 → sgl v = sgl w → (∀ j : Nat, j < 4 → j < sgl v → chS 0 (nI (stS v + j)) = chS 0 (nI (stS w + j))) → v = w := by decide +kernel
theorem sgl_4 : ∀ w : Nat, w < 45 → 1 ≤ sgl w ∧ sgl w ≤ 4 := by decide +kernel
theorem sg_nz : ∀ w : Nat, w < 45 → ∀ j : Nat, j < 4 → j < sgl w → ¬ chS 0 (nI (stS w + j)) = 0 := by decide +kernel
theorem SGT.one {b : Nat → Int32} {x v w : Nat} (h : SGT b x v) (g : SGT b x w) : v = w := by
  obtain ⟨a1, a2, a3⟩ := h
  obtain ⟨c1, c2, c3⟩ := g
  have e : sgl v = sgl w := by
    have p := a3 w c1 c2
    have q := c3 v a1 a2
    omega
  exact sg_two v a1 w c1 e (fun j _ hj => by rw [a2 j hj, c2 j (by omega)])
theorem mp_signT {fu : Nat} {b : Nat → Int32} {n : Nat} {Fc Fm : PF} {Gc Gm : PG} (h : BT b n Fc Gc Fm Gm) {x1 : Int32} {x : Nat} (e1 : x1.toInt = x) (hx : x < n) : PP (mb_tokenAt_32 fu x1 Fm Gm) (fun r F' G' => (∃ w : Nat, SGT b x w ∧ x + sgl w ≤ n ∧ r = nI (x + sgl w) ∧ addM Fm Gm 4 (nI w) x1 F' G') ∨ ((∀ w : Nat, w < 45 → ¬ SGM b x w) ∧ r = -1 ∧ Fm = F' ∧ Gm = G')) := by
  obtain ⟨h0, h1, h2, h3, h4⟩ := id h
  have inn : ∀ w : Nat, w < 45 → SGM b x w → x + sgl w ≤ n := by
    intro w hw g
    have q := sgl_4 w hw
    rcases Nat.lt_or_ge n (x + sgl w) with z | z
    · have t := g (sgl w - 1) (by omega)
      rw [h4 _ (by omega)] at t
      exact absurd t (sg_nz w hw _ (by omega) (by omega))
    · exact z
  have loop : ∀ (k : Nat) (x3 : Int32) (a : Nat), x3.toInt = a → a ≤ 4 → (∀ v : Nat, v < 45 → SGM b x v → sgl v ≤ a) → PP (ml_tokenAt_34 fu k x1 x3 Fm Gm) (fun r F' G' => (∃ w : Nat, SGT b x w ∧ x + sgl w ≤ n ∧ r = nI (x + sgl w) ∧ addM Fm Gm 4 (nI w) x1 F' G') ∨ ((∀ w : Nat, w < 45 → ¬ SGM b x w) ∧ r = -1 ∧ Fm = F' ∧ Gm = G')) := by
    intro k
    induction k with
    | zero => intro x3 a _ _ _; exact PP.no
    | succ k ih =>
      intro x3 a e3 a0 ha
      have l0 : (0 : Int32).toInt = 0 := rfl
      show PP (mb_tokenAt_34 fu (ml_tokenAt_34 fu k) x1 x3 Fm Gm) _
      unfold mb_tokenAt_34 mb_tokenAt_89
      refine PP.ite (fun z => PP.ret (.inr ⟨fun w hw g => ?_, rfl, rfl, rfl⟩)) (fun z => ?_)
      · have z1 := i_le.mp z
        have q1 := ha w hw g
        have q2 := sgl_4 w hw
        omega
      have z1 := mt i_le.mpr z
      have e13 : (x1 + x3).toInt = ((x + a : Nat) : Int) := by
        have e : (x1 + x3).toInt = x1.toInt + x3.toInt := i_addn x1 rfl (by omega) (by omega)
        omega
      have less : (∀ v : Nat, v < 45 → SGM b x v → ¬ sgl v = a) → PP (mb_tokenAt_60 fu (ml_tokenAt_34 fu k) x1 x3 (-1) Fm Gm) (fun r F' G' => (∃ w : Nat, SGT b x w ∧ x + sgl w ≤ n ∧ r = nI (x + sgl w) ∧ addM Fm Gm 4 (nI w) x1 F' G') ∨ ((∀ w : Nat, w < 45 → ¬ SGM b x w) ∧ r = -1 ∧ Fm = F' ∧ Gm = G')) := by
        intro no
        unfold mb_tokenAt_60
        rw [if_pos (show (-1 : Int32) = -1 from rfl)]
        unfold mb_tokenAt_68 mb_tokenAt_83
        have e3m : (x3 + (-1 : Int32)).toInt = x3.toInt + (-1) := i_addn x3 (m := -1) rfl (by omega) (by omega)
        refine ih (x3 + (-1)) (a - 1) (by omega) (by omega) (fun v hv g => ?_)
        have q1 := ha v hv g
        have q2 := no v hv g
        omega
      unfold mb_tokenAt_38
      refine PP.ite (fun w => ?_) (fun w => ?_)
      · have w1 := i_lt.mp w
        unfold mb_tokenAt_59
        refine less (fun v hv g q => ?_)
        have := inn v hv g
        omega
      · unfold mb_tokenAt_48
        refine PP.bind (mp_place h row_S e1 e3 (by omega) (by omega)) ?_
        rintro r _ _ ⟨rfl, rfl, hr⟩
        dsimp only
        unfold mb_tokenAt_56
        rcases hr with ⟨w, w0, w1, w2, w3⟩ | ⟨q, qn⟩
        · have g := (sgl_eq w0).mp w2
          unfold mb_tokenAt_60
          rw [if_neg (show ¬ r = -1 from fun t => by
            rw [t] at w1
            have := congrArg Int32.toInt w1
            rw [nI_toInt (by omega)] at this
            have l : (-1 : Int32).toInt = -1 := rfl
            omega)]
          unfold mb_tokenAt_71 mb_tokenAt_79
          refine PP.bind (mp_token 4 r x1 Fm Gm) (fun r' F' G' q => PP.ret (.inl ⟨w, ⟨w0, g.2, fun v hv gv => by rw [g.1]; exact ha v hv gv⟩, inn w w0 g.2, ?_, by rw [← w1]; exact q⟩))
          exact i_eq.mpr (by rw [nI_toInt (by have := inn w w0 g.2; omega), e13, g.1])
        · rw [q]
          exact less (fun v hv g t => qn v hv ((sgl_eq hv).mpr ⟨t, g⟩))
  unfold mb_tokenAt_32
  exact loop fu 4 4 rfl (Nat.le_refl _) (fun v hv _ => (sgl_4 v hv).2)
