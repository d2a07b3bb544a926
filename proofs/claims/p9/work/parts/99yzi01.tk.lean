/-- the bytes of both sides: b k is byte k of the text (0 behind its end), n its size -/
def BT (b : Nat → Int32) (n : Nat) (Fc : PF) (Gc : PG) (Fm : PF) (Gm : PG) : Prop := n ≤ 4000 ∧ (Fc 88).toInt = n ∧ (Fm 3).toInt = n ∧ (∀ i : Nat, i < n → Gc 87 i &&& (255 : Int32) = b i ∧ Gm 1 i = b i ∧ 0 ≤ (b i).toInt ∧ (b i).toInt ≤ 255) ∧ ∀ i : Nat, n ≤ i → b i = 0
/-- what the class's at answers, what the reference's does -/
def AC (b : Nat → Int32) (n : Nat) (x r : Int32) : Prop := (x.toInt < 0 ∧ r = -1) ∨ (0 ≤ x.toInt ∧ x.toInt < n ∧ r = b x.toInt.toNat ∧ 0 ≤ r.toInt ∧ r.toInt ≤ 255) ∨ ((n : Int) ≤ x.toInt ∧ r = -1)
theorem cp_at {fu : Nat} {b : Nat → Int32} {n : Nat} {Fc Fm : PF} {Gc Gm : PG} (h : BT b n Fc Gc Fm Gm) (x : Int32) : PP (cf_X9_at fu x Fc Gc) (fun r F' G' => Fc = F' ∧ Gc = G' ∧ AC b n x r) := by
  obtain ⟨h0, h1, h2, h3, h4⟩ := h
  unfold cf_X9_at cb_X9_at_0 cb_X9_at_4 cb_X9_at_12 cb_X9_at_16 cb_X9_at_26
  have e0 : (0 : Int32).toInt = 0 := rfl
  refine PP.ite (fun c => PP.ret ⟨rfl, rfl, .inl ⟨?_, rfl⟩⟩) (fun c => PP.ite (fun d => PP.ix (fun _ => PP.ret ⟨rfl, rfl, .inr (.inl ?_)⟩)) (fun d => PP.ret ⟨rfl, rfl, .inr (.inr ⟨?_, rfl⟩)⟩))
  · have := i_lt.mp c
    omega
  · have c1 := mt i_lt.mpr c
    have d1 := i_lt.mp d
    have q := h3 x.toInt.toNat (by omega)
    have e : x.toNatClampNeg = x.toInt.toNat := rfl
    rw [e, q.1]
    exact ⟨by omega, by omega, rfl, q.2.2.1, q.2.2.2⟩
  · have d1 := mt i_lt.mpr d
    omega
theorem mp_at {fu : Nat} {b : Nat → Int32} {n : Nat} {Fc Fm : PF} {Gc Gm : PG} (h : BT b n Fc Gc Fm Gm) (x : Int32) (hx : 0 ≤ x.toInt) : PP (mf_at fu x Fm Gm) (fun r F' G' => Fm = F' ∧ Gm = G' ∧ r = b x.toInt.toNat) := by
  obtain ⟨h0, h1, h2, h3, h4⟩ := h
  unfold mf_at mb_at_0 mb_at_8 mb_at_17 mb_at_18
  refine PP.ite (fun c => PP.ret ⟨rfl, rfl, ?_⟩) (fun c => PP.ix (fun _ => PP.ret ⟨rfl, rfl, ?_⟩))
  · have := i_le.mp c
    exact (h4 _ (by omega)).symm
  · have := mt i_le.mpr c
    have e : x.toNatClampNeg = x.toInt.toNat := rfl
    rw [e]
    exact (h3 _ (by omega)).2.1
/-- at a place, a byte that is neither 0 nor NONE is seen by both or by none -/
theorem AC.iff {b : Nat → Int32} {n : Nat} {x r m c : Int32} (h : AC b n x r) (hb : ∀ i : Nat, n ≤ i → b i = 0) (hx : 0 ≤ x.toInt) (hm : m = b x.toInt.toNat) (c0 : ¬ c = 0) (c1 : ¬ c = -1) : r = c ↔ m = c := by
  rcases h with ⟨q, -⟩ | ⟨-, -, q, -, -⟩ | ⟨q, e⟩
  · omega
  · rw [q, hm]
  · rw [e, hm, hb _ (by omega)]
    exact ⟨fun q => absurd q.symm c1, fun q => absurd q.symm c0⟩
theorem same_line {fu : Nat} {b : Nat → Int32} {n : Nat} {Fc Fm : PF} {Gc Gm : PG} (h : BT b n Fc Gc Fm Gm) (ag : Int32 → PF → PG → PR) : ∀ (k1 k2 : Nat) (x r1 : Int32) (F1 : PF) (G1 : PG) (res : Int32 × PF × PG), 0 ≤ x.toInt → x.toInt ≤ n → cl_X10_behindLine_2 fu k1 x Fc Gc = some (r1, F1, G1) → ml_skip_58 fu ag k2 x Fm Gm = some res → Fc = F1 ∧ Gc = G1 ∧ x.toInt ≤ r1.toInt ∧ r1.toInt ≤ n ∧ ag r1 Fm Gm = some res ∧ (x.toInt < n → ¬ b x.toInt.toNat = 10 → x.toInt + 1 ≤ r1.toInt) := by
  obtain ⟨h0, h1, h2, h3, h4⟩ := id h
  intro k1
  induction k1 with
  | zero => intro k2 x r1 F1 G1 res _ _ e1; cases e1
  | succ k1 ih =>
    intro k2 x r1 F1 G1 res hx0 hx1 e1 e2
    cases k2 with
    | zero => cases e2
    | succ k2 =>
      replace e1 : cb_X10_behindLine_2 fu (cl_X10_behindLine_2 fu k1) x Fc Gc = some (r1, F1, G1) := e1
      replace e2 : mb_skip_58 fu ag (ml_skip_58 fu ag k2) x Fm Gm = some res := e2
      unfold cb_X10_behindLine_2 cb_X10_behindLine_13 cb_X10_behindLine_21 cb_X10_behindLine_26 cb_X10_behindLine_32 at e1
      unfold mb_skip_58 mb_skip_66 mb_skip_71 mb_skip_76 at e2
      have cc : Fc 88 ≤ x ↔ Fm 3 ≤ x := by rw [i_le, i_le]; omega
      by_cases c : Fc 88 ≤ x
      · rw [if_pos c] at e1
        rw [if_pos (cc.mp c)] at e2
        cases e1
        have c1 := i_le.mp c
        exact ⟨rfl, rfl, Int.le_refl _, hx1, e2, fun q _ => by omega⟩
      · rw [if_neg c] at e1
        rw [if_neg (mt cc.mpr c)] at e2
        have c1 := mt i_le.mpr c
        obtain ⟨⟨a, Fa, Ga⟩, a1, e1⟩ := bind_elim e1
        obtain ⟨⟨m, Fb, Gb⟩, a2, e2⟩ := bind_elim e2
        obtain ⟨rfl, rfl, ha⟩ := cp_at h x a Fa Ga a1
        obtain ⟨rfl, rfl, hm⟩ := mp_at h x hx0 m Fb Gb a2
        dsimp only at e1 e2
        have cc := ha.iff h4 hx0 hm (c := 10) (by decide) (by decide)
        by_cases c10 : a = (10 : Int32)
        · rw [if_pos c10] at e1
          rw [if_pos (cc.mp c10)] at e2
          cases e1
          exact ⟨rfl, rfl, Int.le_refl _, hx1, e2, fun _ q => absurd (hm.symm.trans (cc.mp c10)) q⟩
        · rw [if_neg c10] at e1
          rw [if_neg (mt cc.mpr c10)] at e2
          have ex : (x + 1).toInt = x.toInt + 1 := i_addn x rfl (by omega) (by omega)
          obtain ⟨f1, f2, f3, f4, f5, -⟩ := ih k2 (x + 1) r1 F1 G1 res (by omega) (by omega) e1 e2
          exact ⟨f1, f2, by omega, f4, f5, fun _ _ => by omega⟩
theorem same_note {fu : Nat} {b : Nat → Int32} {n : Nat} {Fc Fm : PF} {Gc Gm : PG} (h : BT b n Fc Gc Fm Gm) (ag : Int32 → PF → PG → PR) : ∀ (k1 k2 : Nat) (x2 x r1 : Int32) (F1 : PF) (G1 : PG) (res : Int32 × PF × PG), 0 ≤ x.toInt → x.toInt ≤ 4002 → cl_X10_behindNote_4 fu k1 x Fc Gc = some (r1, F1, G1) → ml_skip_108 fu ag k2 x2 x Fm Gm = some res → Fc = F1 ∧ Gc = G1 ∧ ((r1 = -1 ∧ res = (-1, fup Fm 8 x2, Gm)) ∨ (x.toInt + 2 ≤ r1.toInt ∧ r1.toInt ≤ n ∧ ag r1 Fm Gm = some res)) := by
  obtain ⟨h0, h1, h2, h3, h4⟩ := id h
  intro k1
  induction k1 with
  | zero => intro k2 x2 x r1 F1 G1 res _ _ e1; cases e1
  | succ k1 ih =>
    intro k2 x2 x r1 F1 G1 res hx0 hx1 e1 e2
    cases k2 with
    | zero => cases e2
    | succ k2 =>
      replace e1 : cb_X10_behindNote_4 fu (cl_X10_behindNote_4 fu k1) x Fc Gc = some (r1, F1, G1) := e1
      replace e2 : mb_skip_108 fu ag (ml_skip_108 fu ag k2) x2 x Fm Gm = some res := e2
      unfold cb_X10_behindNote_4 cb_X10_behindNote_15 cb_X10_behindNote_23 cb_X10_behindNote_53 at e1
      unfold mb_skip_108 mb_skip_116 mb_skip_121 at e2
      have cc : Fc 88 ≤ x ↔ Fm 3 ≤ x := by rw [i_le, i_le]; omega
      by_cases c : Fc 88 ≤ x
      · rw [if_pos c] at e1
        rw [if_pos (cc.mp c)] at e2
        cases e1
        unfold mb_skip_144 mb_skip_152 mb_skip_157 at e2
        have c1 := i_le.mp c
        rw [if_neg (show ¬ x < Fm 3 from fun q => by have := i_lt.mp q; omega)] at e2
        cases e2
        exact ⟨rfl, rfl, .inl ⟨rfl, rfl⟩⟩
      · rw [if_neg c] at e1
        rw [if_neg (mt cc.mpr c)] at e2
        have c1 := mt i_le.mpr c
        have ex : (x + 1).toInt = x.toInt + 1 := i_addn x rfl (by omega) (by omega)
        obtain ⟨⟨a, Fa, Ga⟩, a1, e1⟩ := bind_elim e1
        obtain ⟨⟨m, Fb, Gb⟩, a2, e2⟩ := bind_elim e2
        obtain ⟨rfl, rfl, ha⟩ := cp_at h x a Fa Ga a1
        obtain ⟨rfl, rfl, hm⟩ := mp_at h x hx0 m Fb Gb a2
        dsimp only at e1 e2
        have on : ∀ (F1' : PF) (G1' : PG), cb_X10_behindNote_47 fu (cl_X10_behindNote_4 fu k1) x Fc Gc = some (r1, F1', G1') → mb_skip_138 fu ag (ml_skip_108 fu ag k2) x2 x Fm Gm = some res → Fc = F1' ∧ Gc = G1' ∧ ((r1 = -1 ∧ res = (-1, fup Fm 8 x2, Gm)) ∨ (x.toInt + 2 ≤ r1.toInt ∧ r1.toInt ≤ n ∧ ag r1 Fm Gm = some res)) := by
          intro F1' G1' e1 e2
          unfold cb_X10_behindNote_47 at e1
          unfold mb_skip_138 at e2
          obtain ⟨f1, f2, f3⟩ := ih k2 x2 (x + 1) r1 F1' G1' res (by omega) (by omega) e1 e2
          refine ⟨f1, f2, ?_⟩
          rcases f3 with f3 | ⟨f3, f4, f5⟩
          · exact .inl f3
          · exact .inr ⟨by omega, f4, f5⟩
        have cc := ha.iff h4 hx0 hm (c := 42) (by decide) (by decide)
        by_cases c42 : a = (42 : Int32)
        · rw [if_pos c42] at e1
          rw [if_pos (cc.mp c42)] at e2
          unfold cb_X10_behindNote_28 cb_X10_behindNote_38 cb_X10_behindNote_43 at e1
          unfold mb_skip_126 mb_skip_133 at e2
          obtain ⟨⟨a', Fa, Ga⟩, a1', e1⟩ := bind_elim e1
          obtain ⟨⟨m', Fb, Gb⟩, a2', e2⟩ := bind_elim e2
          obtain ⟨rfl, rfl, ha'⟩ := cp_at h (x + 1) a' Fa Ga a1'
          obtain ⟨rfl, rfl, hm'⟩ := mp_at h (x + 1) (by omega) m' Fb Gb a2'
          dsimp only at e1 e2
          have cc := ha'.iff h4 (by omega) hm' (c := 47) (by decide) (by decide)
          by_cases c47 : a' = (47 : Int32)
          · rw [if_pos c47] at e1
            rw [if_pos (cc.mp c47)] at e2
            cases e1
            have hlt : (x + 1).toInt < n := by
              rcases ha' with ⟨q, -⟩ | ⟨-, q, -⟩ | ⟨-, q⟩
              · omega
              · exact q
              · rw [q] at c47
                exact absurd c47 (by decide)
            unfold mb_skip_144 mb_skip_159 at e2
            rw [if_pos (show x < Fm 3 from i_lt.mpr (by omega))] at e2
            have e3 : (x + 2).toInt = x.toInt + 2 := i_addn x rfl (by omega) (by omega)
            exact ⟨rfl, rfl, .inr ⟨by omega, by omega, e2⟩⟩
          · rw [if_neg c47] at e1
            rw [if_neg (mt cc.mpr c47)] at e2
            exact on F1 G1 e1 e2
        · rw [if_neg c42] at e1
          rw [if_neg (mt cc.mpr c42)] at e2
          exact on F1 G1 e1 e2
