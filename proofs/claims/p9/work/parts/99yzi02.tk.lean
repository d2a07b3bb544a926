theorem same_gapL {fu : Nat} {b : Nat → Int32} {n : Nat} {Fc Fm : PF} {Gc Gm : PG} (h : BT b n Fc Gc Fm Gm) : ∀ (k1 k2 : Nat) (x c r1 : Int32) (F1 : PF) (G1 : PG) (res : Int32 × PF × PG), 0 ≤ x.toInt → x.toInt ≤ n → 0 ≤ c.toInt → c.toInt ≤ x.toInt → cl_X10_behindGap_4 fu k1 x c Fc Gc = some (r1, F1, G1) → ml_skip_2 fu k2 x Fm Gm = some res → Fc = F1 ∧ Gc = G1 ∧ x.toInt ≤ r1.toInt ∧ r1.toInt ≤ n ∧ ((res = (r1, Fm, Gm) ∧ ¬ (b r1.toInt.toNat = 47 ∧ b (r1.toInt.toNat + 1) = 42)) ∨ (res = (-1, fup Fm 8 r1, Gm) ∧ r1.toInt < n ∧ b r1.toInt.toNat = 47 ∧ b (r1.toInt.toNat + 1) = 42)) := by
  obtain ⟨h0, h1, h2, h3, h4⟩ := id h
  intro k1
  induction k1 with
  | zero => intro k2 x c r1 F1 G1 res _ _ _ _ e1; cases e1
  | succ k1 ih =>
    intro k2 x c r1 F1 G1 res hx0 hx1 hc0 hc1 e1 e2
    cases k2 with
    | zero => cases e2
    | succ k2 =>
      replace e1 : cb_X10_behindGap_4 fu (cl_X10_behindGap_4 fu k1) x c Fc Gc = some (r1, F1, G1) := e1
      replace e2 : mb_skip_2 fu (ml_skip_2 fu k2) x Fm Gm = some res := e2
      have stop : (n : Int) ≤ x.toInt → some (x, Fc, Gc) = some (r1, F1, G1) → mb_skip_2 fu (ml_skip_2 fu k2) x Fm Gm = some res → Fc = F1 ∧ Gc = G1 ∧ x.toInt ≤ r1.toInt ∧ r1.toInt ≤ n ∧ ((res = (r1, Fm, Gm) ∧ ¬ (b r1.toInt.toNat = 47 ∧ b (r1.toInt.toNat + 1) = 42)) ∨ (res = (-1, fup Fm 8 r1, Gm) ∧ r1.toInt < n ∧ b r1.toInt.toNat = 47 ∧ b (r1.toInt.toNat + 1) = 42)) := by
        intro q e1 e2
        unfold mb_skip_2 mb_skip_168 at e2
        rw [if_pos (show Fm 3 ≤ x from i_le.mpr (by omega))] at e2
        cases e1
        cases e2
        refine ⟨rfl, rfl, Int.le_refl _, hx1, .inl ⟨rfl, fun z => ?_⟩⟩
        rw [h4 x.toInt.toNat (by omega)] at z
        exact absurd z.1 (by decide)
      unfold cb_X10_behindGap_4 cb_X10_behindGap_130 at e1
      have l4 : (4000 : Int32).toInt = 4000 := rfl
      by_cases c4 : (4000 : Int32) ≤ c
      · rw [if_pos c4] at e1
        have := i_le.mp c4
        exact stop (by omega) e1 e2
      rw [if_neg c4] at e1
      have c4' := mt i_le.mpr c4
      unfold cb_X10_behindGap_11 cb_X10_behindGap_130 at e1
      by_cases ce : Fc 88 ≤ x
      · rw [if_pos ce] at e1
        have := i_le.mp ce
        exact stop (by omega) e1 e2
      rw [if_neg ce] at e1
      have ce' := mt i_le.mpr ce
      unfold mb_skip_2 at e2
      rw [if_neg (show ¬ Fm 3 ≤ x from fun q => by have := i_le.mp q; omega)] at e2
      have ex : (x + 1).toInt = x.toInt + 1 := i_addn x rfl (by omega) (by omega)
      have ec : (c + 1).toInt = c.toInt + 1 := i_addn c rfl (by omega) (by omega)
      have en : (x + 1).toInt.toNat = x.toInt.toNat + 1 := by omega
      unfold cb_X10_behindGap_22 cb_X10_behindGap_30 at e1
      obtain ⟨⟨a, Fa, Ga⟩, a1, e1⟩ := bind_elim e1
      obtain ⟨rfl, rfl, ha⟩ := cp_at h x a Fa Ga a1
      dsimp only at e1
      obtain ⟨⟨a', Fa, Ga⟩, a1', e1⟩ := bind_elim e1
      obtain ⟨rfl, rfl, ha'⟩ := cp_at h (x + 1) a' Fa Ga a1'
      dsimp only at e1
      have hm : b x.toInt.toNat = b x.toInt.toNat := rfl
      have hm' : b (x + 1).toInt.toNat = b (x + 1).toInt.toNat := rfl
      -- the reference's own looks
      have look : ∀ {f : Int32 × PF × PG → PR}, (mf_at fu x Fm Gm).bind f = some res → f (b x.toInt.toNat, Fm, Gm) = some res := by
        intro f e
        obtain ⟨⟨m, Fb, Gb⟩, a2, e⟩ := bind_elim e
        obtain ⟨rfl, rfl, q⟩ := mp_at h x hx0 m Fb Gb a2
        rw [q] at e
        exact e
      have look' : ∀ {f : Int32 × PF × PG → PR}, (mf_at fu (x + 1) Fm Gm).bind f = some res → f (b (x + 1).toInt.toNat, Fm, Gm) = some res := by
        intro f e
        obtain ⟨⟨m, Fb, Gb⟩, a2, e⟩ := bind_elim e
        obtain ⟨rfl, rfl, q⟩ := mp_at h (x + 1) (by omega) m Fb Gb a2
        rw [q] at e
        exact e
      have on : ∀ y : Int32, x.toInt + 1 ≤ y.toInt → y.toInt ≤ n → cb_X10_behindGap_124 fu (cl_X10_behindGap_4 fu k1) y c Fc Gc = some (r1, F1, G1) → ml_skip_2 fu k2 y Fm Gm = some res → Fc = F1 ∧ Gc = G1 ∧ x.toInt ≤ r1.toInt ∧ r1.toInt ≤ n ∧ ((res = (r1, Fm, Gm) ∧ ¬ (b r1.toInt.toNat = 47 ∧ b (r1.toInt.toNat + 1) = 42)) ∨ (res = (-1, fup Fm 8 r1, Gm) ∧ r1.toInt < n ∧ b r1.toInt.toNat = 47 ∧ b (r1.toInt.toNat + 1) = 42)) := by
        intro y y0 y1 e1 e2
        unfold cb_X10_behindGap_124 at e1
        obtain ⟨f1, f2, f3, f4, f5⟩ := ih k2 y (c + 1) r1 F1 G1 res (by omega) y1 (by omega) (by omega) e1 e2
        exact ⟨f1, f2, by omega, f4, f5⟩
      replace e2 := look e2
      unfold mb_skip_15 at e2
      unfold cb_X10_behindGap_42 at e1
      by_cases c10 : a = (10 : Int32)
      · rw [if_pos c10] at e1
        rw [if_pos ((ha.iff h4 hx0 hm (c := 10) (by decide) (by decide)).mp c10)] at e2
        unfold cb_X10_behindGap_58 at e1
        unfold mb_skip_30 at e2
        exact on (x + 1) (by omega) (by omega) e1 e2
      rw [if_neg c10] at e1
      rw [if_neg (mt (ha.iff h4 hx0 hm (c := 10) (by decide) (by decide)).mpr c10)] at e2
      unfold mb_skip_20 at e2
      replace e2 := look e2
      unfold mb_skip_25 at e2
      unfold cb_X10_behindGap_51 at e1
      by_cases c32 : a = (32 : Int32)
      · rw [if_pos c32] at e1
        rw [if_pos ((ha.iff h4 hx0 hm (c := 32) (by decide) (by decide)).mp c32)] at e2
        unfold cb_X10_behindGap_58 at e1
        unfold mb_skip_30 at e2
        exact on (x + 1) (by omega) (by omega) e1 e2
      rw [if_neg c32] at e1
      rw [if_neg (mt (ha.iff h4 hx0 hm (c := 32) (by decide) (by decide)).mpr c32)] at e2
      unfold mb_skip_36 at e2
      replace e2 := look e2
      unfold mb_skip_41 at e2
      unfold cb_X10_behindGap_64 at e1
      by_cases c47 : a = (47 : Int32)
      · have m47 := (ha.iff h4 hx0 hm (c := 47) (by decide) (by decide)).mp c47
        rw [if_pos c47] at e1
        rw [if_pos m47] at e2
        unfold mb_skip_46 at e2
        replace e2 := look' e2
        unfold mb_skip_53 at e2
        unfold cb_X10_behindGap_71 at e1
        by_cases d47 : a' = (47 : Int32)
        · rw [if_pos d47] at e1
          rw [if_pos ((ha'.iff h4 (by omega) hm' (c := 47) (by decide) (by decide)).mp d47)] at e2
          unfold cb_X10_behindGap_78 cb_X10_behindGap_83 at e1
          obtain ⟨⟨y, Fa, Ga⟩, a3, e1⟩ := bind_elim e1
          unfold cf_X10_behindLine cb_X10_behindLine_0 at a3
          obtain ⟨rfl, rfl, y0, y1, e2, y2⟩ := same_line h (ml_skip_2 fu k2) fu fu x y Fa Ga res hx0 hx1 a3 e2
          dsimp only at e1
          exact on y (y2 (by omega) (by rw [m47]; decide)) y1 e1 e2
        · rw [if_neg d47] at e1
          rw [if_neg (mt (ha'.iff h4 (by omega) hm' (c := 47) (by decide) (by decide)).mpr d47)] at e2
          unfold mb_skip_82 at e2
          replace e2 := look e2
          unfold mb_skip_87 at e2
          rw [if_pos m47] at e2
          unfold mb_skip_92 at e2
          replace e2 := look' e2
          unfold mb_skip_99 at e2
          unfold cb_X10_behindGap_87 at e1
          rw [if_pos c47] at e1
          unfold cb_X10_behindGap_94 at e1
          by_cases d42 : a' = (42 : Int32)
          · have m42 := (ha'.iff h4 (by omega) hm' (c := 42) (by decide) (by decide)).mp d42
            rw [if_pos d42] at e1
            rw [if_pos m42] at e2
            unfold cb_X10_behindGap_101 cb_X10_behindGap_106 at e1
            obtain ⟨⟨y, Fa, Ga⟩, a3, e1⟩ := bind_elim e1
            unfold cf_X10_behindNote cb_X10_behindNote_0 at a3
            unfold mb_skip_104 at e2
            have e2x : (x + 2).toInt = x.toInt + 2 := i_addn x rfl (by omega) (by omega)
            obtain ⟨rfl, rfl, q⟩ := same_note h (ml_skip_2 fu k2) fu fu x (x + 2) y Fa Ga res (by omega) (by omega) a3 e2
            dsimp only at e1
            rcases q with ⟨q1, q2⟩ | ⟨q1, q2, q3⟩
            · rw [if_pos q1] at e1
              unfold cb_X10_behindGap_114 at e1
              cases e1
              rw [en] at m42
              exact ⟨rfl, rfl, Int.le_refl _, hx1, .inr ⟨q2, by omega, m47, m42⟩⟩
            · have ny : ¬ y = -1 := fun z => by
                rw [z] at q1
                have : (-1 : Int32).toInt = -1 := rfl
                omega
              rw [if_neg ny] at e1
              unfold cb_X10_behindGap_116 at e1
              exact on y (by omega) q2 e1 q3
          · have m42 := mt (ha'.iff h4 (by omega) hm' (c := 42) (by decide) (by decide)).mpr d42
            rw [if_neg d42] at e1
            rw [if_neg m42] at e2
            unfold cb_X10_behindGap_122 at e1
            unfold mb_skip_166 at e2
            cases e1
            cases e2
            rw [en] at m42
            exact ⟨rfl, rfl, Int.le_refl _, hx1, .inl ⟨rfl, fun z => m42 z.2⟩⟩
      · have m47 := mt (ha.iff h4 hx0 hm (c := 47) (by decide) (by decide)).mpr c47
        rw [if_neg c47] at e1
        rw [if_neg m47] at e2
        unfold mb_skip_82 at e2
        replace e2 := look e2
        unfold mb_skip_87 mb_skip_166 at e2
        rw [if_neg m47] at e2
        unfold cb_X10_behindGap_87 cb_X10_behindGap_122 at e1
        rw [if_neg c47] at e1
        cases e1
        cases e2
        exact ⟨rfl, rfl, Int.le_refl _, hx1, .inl ⟨rfl, fun z => m47 z.1⟩⟩
