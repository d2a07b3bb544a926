/-- the class's stack of values has room -/
def jXn (F : PF) : Prop := 0 ≤ (F 56).toInt ∧ (F 56).toInt ≤ xn F ∧ 0 < xn F ∧ xn F ≤ 1048576
theorem gext_lo {G : PG} {F : PF} {i : Nat} (h : i < xn F) (hx : xn F ≤ 1048576) : gext G F 55 i = G 55 i := by
  have e : (nI (xn F)).toNatClampNeg = xn F := by
    show (nI (xn F)).toInt.toNat = _
    rw [nI_toInt (by omega)]
    omega
  have e0 : (0 : Int32).toNatClampNeg = 0 := rfl
  unfold gext
  rw [if_pos rfl, e, e0]
  unfold va_cpy
  rw [if_pos ⟨Nat.zero_le _, by omega⟩, Nat.zero_add, Nat.sub_zero]
section JK2
variable {fu : Nat}
theorem cp_push40 (x : Int32) {F : PF} {G : PG} (h1 : (F 56).toInt < xn F) (h2 : xn F ≤ 1048576) : PP (cb_X6_push_40 fu x F G) (fun _ F' G' => fup F 56 (F 56 + 1) = F' ∧ gup G 55 (F 56).toNatClampNeg x = G') := by
  have e : (nI (xn F)).toInt = xn F := nI_toInt (by omega)
  unfold cb_X6_push_40
  rw [if_neg (show ¬ nI (xn F) ≤ F 56 from fun z => absurd (i_le.mp z) (by omega))]
  unfold cb_X6_push_52
  refine PP.ix (fun _ => ?_)
  unfold cb_X6_push_62 cb_X6_push_72
  exact PP.ret ⟨rfl, rfl⟩
/-- a value onto the class's stack -/
def jPu (x : Int32) (F : PF) (G : PG) (F' : PF) (G' : PG) : Prop := KX [56, 300] [55] F G F' G' ∧ (F' 56).toInt = (F 56).toInt + 1 ∧ jXn F' ∧ (∀ i : Nat, (i : Int) < (F 56).toInt → G' 55 i = G 55 i) ∧ G' 55 (F 56).toInt.toNat = x
theorem cp_push (x : Int32) {F : PF} {G : PG} (h : jXn F) (h3 : (F 56).toInt < 500000) : PP (cf_X6_push fu x F G) (fun _ F' G' => jPu x F G F' G') := by
  obtain ⟨h0, h1, h2, h4⟩ := h
  have e : (nI (xn F)).toInt = xn F := nI_toInt (by omega)
  have a1 : (F 56 + 1).toInt = (F 56).toInt + 1 := i_addn _ rfl (by omega) (by omega)
  have l5 : (524288 : Int32).toInt = 524288 := rfl
  unfold cf_X6_push cb_X6_push_0
  refine PP.ite (fun c => ?_) (fun c => ?_)
  · have c' := i_lt.mp c
    refine PP.mono (cp_push40 x (by omega) h4) ?_
    rintro _ _ _ ⟨rfl, rfl⟩
    refine ⟨KX.f rfl (KX.g rfl KX.rf), by rw [fup_s]; exact a1, ?_, fun i hi => gup_x (by show i ≠ (F 56).toInt.toNat; omega), gup_i⟩
    unfold jXn
    rw [fup_s, xn_fup (by decide)]
    exact ⟨by omega, by omega, h2, h4⟩
  · have c' := mt i_lt.mpr c
    unfold cb_X6_push_12
    refine PP.ite (fun d => absurd (i_le.mp d) (by omega)) (fun d => ?_)
    unfold cb_X6_push_22
    have hg : gok F = true := decide_eq_true (p := 0 < xn F ∧ xn F ≤ 524288) ⟨h2, by omega⟩
    rw [if_pos hg]
    have e2 : (nI (xn F) * 2).toInt = (nI (xn F)).toInt * 2 := i_muln _ rfl (by omega) (by omega)
    have en : xn (fup F 300 (nI (xn F) * 2)) = 2 * xn F := by
      rw [xn_grow]
      show (nI (xn F) * 2).toInt.toNat = _
      omega
    have f56 : fup F 300 (nI (xn F) * 2) 56 = F 56 := fup_n (by decide)
    refine PP.mono (cp_push40 x (by rw [f56, en]; omega) (by rw [en]; omega)) ?_
    rintro _ _ _ ⟨rfl, rfl⟩
    rw [f56]
    have k0 : KX [56, 300] [55] F G F (gext G F) := ⟨fun _ _ => rfl, fun k hk => if_neg (fun z => by rw [z] at hk; exact absurd hk (by decide))⟩
    refine ⟨KX.f rfl (KX.f rfl (KX.g rfl k0)), by rw [fup_s]; exact a1, ?_, fun i hi => ?_, gup_i⟩
    · unfold jXn
      rw [fup_s, xn_fup (by decide), en]
      exact ⟨by omega, by omega, by omega, by omega⟩
    · rw [gup_x (by show i ≠ (F 56).toInt.toNat; omega)]
      exact gext_lo (by omega) h4
theorem cp_pop {F : PF} {G : PG} (h : 0 < (F 56).toInt) : PP (cf_X6_pop fu F G) (fun r F' G' => G = G' ∧ fup F 56 (F 56 - 1) = F' ∧ G 55 ((F 56).toInt.toNat - 1) = r) := by
  have e : (F 56 - 1).toInt = (F 56).toInt - 1 := i_subn _ rfl (by omega) (by have := i_rng (F 56); omega)
  unfold cf_X6_pop cb_X6_pop_0
  rw [if_pos (show (0 : Int32) < F 56 from i_lt.mpr h)]
  unfold cb_X6_pop_9 cb_X6_pop_19
  refine PP.ix (fun _ => PP.ret ⟨rfl, rfl, ?_⟩)
  rw [fup_s, show (F 56 - 1).toNatClampNeg = (F 56).toInt.toNat - 1 by show (F 56 - 1).toInt.toNat = _; omega]
theorem jXn.pop {F : PF} (h : jXn F) (h0 : 0 < (F 56).toInt) : jXn (fup F 56 (F 56 - 1)) ∧ (fup F 56 (F 56 - 1) 56).toInt = (F 56).toInt - 1 := by
  have e : (F 56 - 1).toInt = (F 56).toInt - 1 := i_subn _ rfl (by omega) (by have := i_rng (F 56); omega)
  obtain ⟨h1, h2, h3, h4⟩ := h
  refine ⟨?_, by rw [fup_s]; exact e⟩
  unfold jXn
  rw [fup_s, xn_fup (by decide)]
  exact ⟨by omega, by omega, h3, h4⟩
theorem jXn.f {F : PF} {k : Nat} {x : Int32} (h : jXn F) (h1 : 56 ≠ k) (h2 : 300 ≠ k) : jXn (fup F k x) := by
  unfold jXn
  rw [fup_n h1, xn_fup h2]
  exact h
theorem cp_nxt {F : PF} {G : PG} (h0 : 0 ≤ (F 57).toInt) (h1 : (F 57).toInt < (F 6).toInt) : PP (cf_X6_next fu F G) (fun r F' G' => G = G' ∧ fup F 57 (F 57 + 1) = F' ∧ G 5 (F 57).toNatClampNeg = r) := by
  have l0 : (0 : Int32).toInt = 0 := rfl
  unfold cf_X6_next cb_X6_next_0
  rw [if_neg (show ¬ F 57 < 0 from fun z => absurd (i_lt.mp z) (by omega))]
  unfold cb_X6_next_7
  rw [if_pos (show F 57 < F 6 from i_lt.mpr h1)]
  unfold cb_X6_next_26
  refine PP.ix (fun _ => ?_)
  unfold cb_X6_next_38 cb_X6_next_49
  exact PP.ret ⟨rfl, rfl, rfl⟩
theorem cp_truth (x : Int32) (F : PF) (G : PG) : PP (cf_X11_truth fu x F G) (fun r F' G' => F = F' ∧ G = G' ∧ (if x = 0 then 0 else 1) = r) := by
  unfold cf_X11_truth cb_X11_truth_0 cb_X11_truth_4 cb_X11_truth_8 cb_X11_truth_9
  by_cases c : x = 0
  · rw [if_pos c, if_pos c]
    exact PP.ret ⟨rfl, rfl, rfl⟩
  · rw [if_neg c, if_neg c]
    exact PP.ret ⟨rfl, rfl, rfl⟩
/-- what the class does to one value, and the reference -/
theorem jk_alone {c a : Int32} (x : Int32) {Fc Fm : PF} {Gc Gm : PG} (h : (a = 39 ∧ c = 64) ∨ (a = 43 ∧ c = 62) ∨ (a = 44 ∧ c = 63)) : JP (cf_X6_changed fu c x Fc Gc) (mf_alone fu a x Fm Gm) (jSm Fc Gc Fm Gm) := by
  unfold cf_X6_changed cb_X6_changed_0 mf_alone mb_alone_0
  rcases h with ⟨rfl, rfl⟩ | ⟨rfl, rfl⟩ | ⟨rfl, rfl⟩
  · rw [if_neg (show ¬ ((64 : Int32).toInt < 62 ∨ 64 < (64 : Int32).toInt) by decide), if_neg (show ¬ (64 : Int32) = 62 by decide), if_neg (show ¬ (64 : Int32) = 63 by decide), if_pos rfl]
    unfold cb_X6_changed_45 mb_alone_6 mb_alone_32
    exact jSm.rt rfl
  · rw [if_neg (show ¬ ((62 : Int32).toInt < 62 ∨ 64 < (62 : Int32).toInt) by decide), if_pos (show (62 : Int32) = 62 from rfl), if_neg (show ¬ (43 : Int32) = 39 by decide)]
    unfold cb_X6_changed_28 mb_alone_11
    rw [if_pos rfl]
    unfold mb_alone_17 mb_alone_32
    exact jSm.rt rfl
  · rw [if_neg (show ¬ ((63 : Int32).toInt < 62 ∨ 64 < (63 : Int32).toInt) by decide), if_neg (show ¬ (63 : Int32) = 62 by decide), if_pos (show (63 : Int32) = 63 from rfl), if_neg (show ¬ (44 : Int32) = 39 by decide)]
    unfold cb_X6_changed_32 mb_alone_11
    rw [if_neg (show ¬ (44 : Int32) = 43 by decide)]
    unfold mb_alone_23
    by_cases e : x = 0
    · rw [if_pos e, if_pos e]
      unfold cb_X6_changed_36 cb_X6_changed_41 mb_alone_27 mb_alone_32
      refine JP.L (cp_truth 1 Fc Gc) ?_
      rintro r _ _ ⟨rfl, rfl, rfl⟩
      exact jSm.rt (show (if (1 : Int32) = 0 then (0 : Int32) else 1) = 1 by decide)
    · rw [if_neg e, if_neg e]
      unfold cb_X6_changed_40 cb_X6_changed_41 mb_alone_31 mb_alone_32
      refine JP.L (cp_truth 0 Fc Gc) ?_
      rintro r _ _ ⟨rfl, rfl, rfl⟩
      exact jSm.rt (show (if (0 : Int32) = 0 then (0 : Int32) else 1) = 0 by decide)
theorem cp_tr65 (x : Int32) (F : PF) (G : PG) : PP (cf_X6_changed fu 65 x F G) (fun r F' G' => F = F' ∧ G = G' ∧ (if x = 0 then 0 else 1) = r) := by
  unfold cf_X6_changed cb_X6_changed_0
  rw [if_pos (show ((65 : Int32).toInt < 62 ∨ 64 < (65 : Int32).toInt) by decide)]
  unfold cb_X6_changed_48
  by_cases e : x = 0
  · rw [if_pos e, if_pos e]
    unfold cb_X6_changed_56 cb_X6_changed_57 cb_X6_changed_60
    refine PP.bind (cp_truth 0 F G) ?_
    rintro r _ _ ⟨rfl, rfl, rfl⟩
    exact PP.ret ⟨rfl, rfl, (show (0 : Int32) = if (0 : Int32) = 0 then (0 : Int32) else 1 by decide)⟩
  · rw [if_neg e, if_neg e]
    unfold cb_X6_changed_52 cb_X6_changed_57 cb_X6_changed_60
    refine PP.bind (cp_truth 1 F G) ?_
    rintro r _ _ ⟨rfl, rfl, rfl⟩
    exact PP.ret ⟨rfl, rfl, (show (1 : Int32) = if (1 : Int32) = 0 then (0 : Int32) else 1 by decide)⟩
theorem cp_jgo (t : Int32) (F : PF) (G : PG) : PP (cf_X6_jump fu 84 t F G) (fun _ F' G' => fup F 57 t = F' ∧ G = G') := by
  unfold cf_X6_jump cb_X6_jump_0
  rw [if_pos rfl]
  unfold cb_X6_jump_69
  rw [if_neg i10n]
  unfold cb_X6_jump_73 cb_X6_jump_78
  exact PP.ret ⟨rfl, rfl⟩
/-- a jump on a truth: 85, 87 where it is one, 86, 88 where it is none; 87, 88 give the truth back where they jump -/
theorem cp_jif (x t : Int32) {F : PF} {G : PG} (hx : x = 85 ∨ x = 86 ∨ x = 87 ∨ x = 88) (h : jXn F) (h0 : 0 < (F 56).toInt) (h5 : (F 56).toInt < 500000) : PP (cf_X6_jump fu x t F G) (fun _ F' G' => ((((x = 85 ∨ x = 87) ∧ G 55 ((F 56).toInt.toNat - 1) = 0) ∨ ((x = 86 ∨ x = 88) ∧ ¬ G 55 ((F 56).toInt.toNat - 1) = 0)) ∧ fup F 56 (F 56 - 1) = F' ∧ G = G') ∨ (((x = 85 ∧ ¬ G 55 ((F 56).toInt.toNat - 1) = 0) ∨ (x = 86 ∧ G 55 ((F 56).toInt.toNat - 1) = 0)) ∧ fup (fup F 56 (F 56 - 1)) 57 t = F' ∧ G = G') ∨ (∃ (b : Int32) (F1 : PF), ((x = 87 ∧ ¬ G 55 ((F 56).toInt.toNat - 1) = 0 ∧ b = 1) ∨ (x = 88 ∧ G 55 ((F 56).toInt.toNat - 1) = 0 ∧ b = 0)) ∧ jPu b (fup F 56 (F 56 - 1)) G F1 G' ∧ fup F1 57 t = F')) := by
  obtain ⟨q1, q2⟩ := h.pop h0
  have n4 : ¬ x = 84 := by
    rcases hx with z | z | z | z
    · rw [z]; decide
    · rw [z]; decide
    · rw [z]; decide
    · rw [z]; decide
  unfold cf_X6_jump cb_X6_jump_0
  rw [if_neg n4]
  unfold cb_X6_jump_8
  refine PP.bind (cp_pop h0) ?_
  rintro v _ _ ⟨rfl, rfl, rfl⟩
  dsimp only
  generalize hv : G 55 ((F 56).toInt.toNat - 1) = v
  -- no jump
  have no : ∀ z : Int32, PP (cb_X6_jump_48 fu x t z (fup F 56 (F 56 - 1)) G) (fun _ F' G' => fup F 56 (F 56 - 1) = F' ∧ G = G') := by
    intro z
    unfold cb_X6_jump_48 cb_X6_jump_49
    rw [if_pos rfl]
    unfold cb_X6_jump_69
    rw [if_pos rfl]
    unfold cb_X6_jump_78
    exact PP.ret ⟨rfl, rfl⟩
  have ju : ∀ z : Int32, x < 87 → PP (cb_X6_jump_44 fu x t z (fup F 56 (F 56 - 1)) G) (fun _ F' G' => fup (fup F 56 (F 56 - 1)) 57 t = F' ∧ G = G') := by
    intro z hz
    unfold cb_X6_jump_44 cb_X6_jump_49
    rw [if_neg i10n]
    unfold cb_X6_jump_54
    rw [if_pos hz]
    unfold cb_X6_jump_69
    rw [if_neg i10n]
    unfold cb_X6_jump_73 cb_X6_jump_78
    exact PP.ret ⟨rfl, rfl⟩
  have jt : ∀ z : Int32, ¬ x < 87 → PP (cb_X6_jump_44 fu x t z (fup F 56 (F 56 - 1)) G) (fun _ F' G' => ∃ F1 : PF, jPu (if z = 0 then 0 else 1) (fup F 56 (F 56 - 1)) G F1 G' ∧ fup F1 57 t = F') := by
    intro z hz
    unfold cb_X6_jump_44 cb_X6_jump_49
    rw [if_neg i10n]
    unfold cb_X6_jump_54
    rw [if_neg hz]
    unfold cb_X6_jump_60
    refine PP.bind (cp_truth z _ G) ?_
    rintro b _ _ ⟨rfl, rfl, rfl⟩
    dsimp only
    unfold cb_X6_jump_66
    refine PP.bind (cp_push _ q1 (by omega)) ?_
    intro r F1 G1 pu
    dsimp only
    unfold cb_X6_jump_69
    rw [if_neg i10n]
    unfold cb_X6_jump_73 cb_X6_jump_78
    exact PP.ret ⟨F1, pu, rfl⟩
  have i01 : ¬ (0 : Int32) = 1 := by decide
  unfold cb_X6_jump_12
  by_cases e : v = 0
  · rw [if_pos e]
    unfold cb_X6_jump_19 cb_X6_jump_20
    rcases hx with z | z | z | z
    · rw [if_pos z]
      unfold cb_X6_jump_36 cb_X6_jump_41
      rw [if_neg i01]
      exact PP.mono (no 0) (fun _ F' G' w => .inl ⟨.inl ⟨.inl z, e⟩, w⟩)
    · rw [if_neg (show ¬ x = 85 by rw [z]; decide)]
      unfold cb_X6_jump_30
      rw [if_neg (show ¬ x = 87 by rw [z]; decide)]
      unfold cb_X6_jump_40 cb_X6_jump_41
      rw [if_pos rfl]
      exact PP.mono (ju 0 (by rw [z]; decide)) (fun _ F' G' w => .inr (.inl ⟨.inr ⟨z, e⟩, w⟩))
    · rw [if_neg (show ¬ x = 85 by rw [z]; decide)]
      unfold cb_X6_jump_30
      rw [if_pos z]
      unfold cb_X6_jump_36 cb_X6_jump_41
      rw [if_neg i01]
      exact PP.mono (no 0) (fun _ F' G' w => .inl ⟨.inl ⟨.inr z, e⟩, w⟩)
    · rw [if_neg (show ¬ x = 85 by rw [z]; decide)]
      unfold cb_X6_jump_30
      rw [if_neg (show ¬ x = 87 by rw [z]; decide)]
      unfold cb_X6_jump_40 cb_X6_jump_41
      rw [if_pos rfl]
      refine PP.mono (jt 0 (by rw [z]; decide)) (fun _ F' G' w => ?_)
      obtain ⟨F1, w1, w2⟩ := w
      rw [if_pos rfl] at w1
      exact .inr (.inr ⟨0, F1, .inr ⟨z, e, rfl⟩, w1, w2⟩)
  · rw [if_neg e]
    unfold cb_X6_jump_15 cb_X6_jump_20
    rcases hx with z | z | z | z
    · rw [if_pos z]
      unfold cb_X6_jump_36 cb_X6_jump_41
      rw [if_pos rfl]
      exact PP.mono (ju 1 (by rw [z]; decide)) (fun _ F' G' w => .inr (.inl ⟨.inl ⟨z, e⟩, w⟩))
    · rw [if_neg (show ¬ x = 85 by rw [z]; decide)]
      unfold cb_X6_jump_30
      rw [if_neg (show ¬ x = 87 by rw [z]; decide)]
      unfold cb_X6_jump_40 cb_X6_jump_41
      rw [if_neg i10n]
      exact PP.mono (no 1) (fun _ F' G' w => .inl ⟨.inr ⟨.inl z, e⟩, w⟩)
    · rw [if_neg (show ¬ x = 85 by rw [z]; decide)]
      unfold cb_X6_jump_30
      rw [if_pos z]
      unfold cb_X6_jump_36 cb_X6_jump_41
      rw [if_pos rfl]
      refine PP.mono (jt 1 (by rw [z]; decide)) (fun _ F' G' w => ?_)
      obtain ⟨F1, w1, w2⟩ := w
      rw [if_neg i10n] at w1
      exact .inr (.inr ⟨1, F1, .inl ⟨z, e, rfl⟩, w1, w2⟩)
    · rw [if_neg (show ¬ x = 85 by rw [z]; decide)]
      unfold cb_X6_jump_30
      rw [if_neg (show ¬ x = 87 by rw [z]; decide)]
      unfold cb_X6_jump_40 cb_X6_jump_41
      rw [if_neg i10n]
      exact PP.mono (no 1) (fun _ F' G' w => .inl ⟨.inr ⟨.inr z, e⟩, w⟩)
end JK2
