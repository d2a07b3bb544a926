theorem mz_skip {fu : Nat} (hfu : 8589934592 ≤ fu) (x : Int32) (F : PF) (G : PG) (h : TXT F G) (hx : 0 ≤ x.toInt ∧ x.toInt ≤ (F 3).toInt) : WP (mf_skip fu x F G) (fun r F1 G1 => KX [8] [] F G F1 G1 ∧ (r = -1 ∨ (F = F1 ∧ x.toInt ≤ r.toInt ∧ r.toInt ≤ (F 3).toInt))) := by
  have h3 := h.2.1
  have loop : ∀ (m : Nat) (k : Int32), x.toInt ≤ k.toInt → k.toInt ≤ (F 3).toInt → (F 3).toInt.toNat - k.toInt.toNat < m → WP (ml_skip_2 fu m k F G) (fun r F1 G1 => KX [8] [] F G F1 G1 ∧ (r = -1 ∨ (F = F1 ∧ x.toInt ≤ r.toInt ∧ r.toInt ≤ (F 3).toInt))) := by
    intro m
    induction m with
    | zero => intro k _ _ q; exact absurd q (Nat.not_lt_zero _)
    | succ m ih =>
      intro k k1 k2 km
      show WP (mb_skip_2 fu (ml_skip_2 fu m) k F G) _
      unfold mb_skip_2
      refine WP.ite (fun c => ?_) (fun c => ?_)
      · unfold mb_skip_168
        exact WP.ret ⟨KX.rf, Or.inr ⟨rfl, k1, k2⟩⟩
      · have c1 := mt i_le.mpr c
        have ek : (k + 1).toInt = k.toInt + 1 := i_addn k rfl (by omega) (by omega)
        have fwd : WP (mb_skip_30 fu (ml_skip_2 fu m) k F G) (fun r F1 G1 => KX [8] [] F G F1 G1 ∧ (r = -1 ∨ (F = F1 ∧ x.toInt ≤ r.toInt ∧ r.toInt ≤ (F 3).toInt))) := by
          unfold mb_skip_30
          exact ih (k + 1) (by omega) (by omega) (by omega)
        have stay : WP (mb_skip_166 fu k F G) (fun r F1 G1 => KX [8] [] F G F1 G1 ∧ (r = -1 ∨ (F = F1 ∧ x.toInt ≤ r.toInt ∧ r.toInt ≤ (F 3).toInt))) := by
          unfold mb_skip_166
          exact WP.ret ⟨KX.rf, Or.inr ⟨rfl, k1, k2⟩⟩
        have line : atv F G k = 47 → ∀ (m2 : Nat) (e : Int32), k.toInt ≤ e.toInt → (e.toInt = k.toInt ∨ k.toInt < e.toInt) → e.toInt ≤ (F 3).toInt → (F 3).toInt.toNat - e.toInt.toNat < m2 → WP (ml_skip_58 fu (ml_skip_2 fu m) m2 e F G) (fun r F1 G1 => KX [8] [] F G F1 G1 ∧ (r = -1 ∨ (F = F1 ∧ x.toInt ≤ r.toInt ∧ r.toInt ≤ (F 3).toInt))) := by
          intro h47 m2
          induction m2 with
          | zero => intro e _ _ _ q; exact absurd q (Nat.not_lt_zero _)
          | succ m2 ih2 =>
            intro e e1 e2 e3 em
            show WP (mb_skip_58 fu (ml_skip_2 fu m) (ml_skip_58 fu (ml_skip_2 fu m) m2) e F G) _
            unfold mb_skip_58
            refine WP.ite (fun c => ?_) (fun c => ?_)
            · have := i_le.mp c
              exact ih e (by omega) (by omega) (by omega)
            · have c2 := mt i_le.mpr c
              unfold mb_skip_66
              refine WP.bind (mz_at e F G h (by omega)) ?_
              rintro _ _ _ ⟨rfl, rfl, rfl⟩
              dsimp only
              unfold mb_skip_71
              have ee : (e + 1).toInt = e.toInt + 1 := i_addn e rfl (by omega) (by omega)
              refine WP.ite (fun c10 => ?_) (fun _ => ?_)
              · rcases e2 with q | q
                · have : e = k := i_eq.mpr q
                  rw [this, h47] at c10
                  exact absurd c10 (by decide)
                · exact ih e (by omega) (by omega) (by omega)
              · unfold mb_skip_76
                exact ih2 (e + 1) (by omega) (Or.inr (by omega)) (by omega) (by omega)
        have rest : ∀ (m2 : Nat) (e : Int32), k.toInt + 2 ≤ e.toInt → e.toInt ≤ (F 3).toInt + 2 → (F 3).toInt.toNat + 2 - e.toInt.toNat < m2 → WP (ml_skip_108 fu (ml_skip_2 fu m) m2 k e F G) (fun r F1 G1 => KX [8] [] F G F1 G1 ∧ (r = -1 ∨ (F = F1 ∧ x.toInt ≤ r.toInt ∧ r.toInt ≤ (F 3).toInt))) := by
          intro m2
          induction m2 with
          | zero => intro e _ _ q; exact absurd q (Nat.not_lt_zero _)
          | succ m2 ih2 =>
            intro e e1 e3 em
            show WP (mb_skip_108 fu (ml_skip_2 fu m) (ml_skip_108 fu (ml_skip_2 fu m) m2) k e F G) _
            have ee : (e + 1).toInt = e.toInt + 1 := i_addn e rfl (by omega) (by omega)
            have bad : ¬ e < F 3 → WP (mb_skip_144 fu (ml_skip_2 fu m) k e F G) (fun r F1 G1 => KX [8] [] F G F1 G1 ∧ (r = -1 ∨ (F = F1 ∧ x.toInt ≤ r.toInt ∧ r.toInt ≤ (F 3).toInt))) := fun q => by
              unfold mb_skip_144
              refine WP.ite (fun c => absurd c q) (fun _ => ?_)
              unfold mb_skip_152 mb_skip_157
              exact WP.ret ⟨KX.f rfl KX.rf, Or.inl rfl⟩
            unfold mb_skip_108
            refine WP.ite (fun c => bad (fun q => ?_)) (fun c => ?_)
            · have := i_le.mp c
              have := i_lt.mp q
              omega
            · have c2 := mt i_le.mpr c
              have go : WP (mb_skip_138 fu (ml_skip_2 fu m) (ml_skip_108 fu (ml_skip_2 fu m) m2) k e F G) (fun r F1 G1 => KX [8] [] F G F1 G1 ∧ (r = -1 ∨ (F = F1 ∧ x.toInt ≤ r.toInt ∧ r.toInt ≤ (F 3).toInt))) := by
                unfold mb_skip_138
                exact ih2 (e + 1) (by omega) (by omega) (by omega)
              unfold mb_skip_116
              refine WP.bind (mz_at e F G h (by omega)) ?_
              rintro _ _ _ ⟨rfl, rfl, rfl⟩
              dsimp only
              unfold mb_skip_121
              refine WP.ite (fun _ => ?_) (fun _ => go)
              unfold mb_skip_126
              refine WP.bind (mz_at (e + 1) F G h (by omega)) ?_
              rintro _ _ _ ⟨rfl, rfl, rfl⟩
              dsimp only
              unfold mb_skip_133
              refine WP.ite (fun c47 => ?_) (fun _ => go)
              have i1 : (e + 1).toInt < (F 3).toInt := atv.in (by rw [c47]; decide)
              unfold mb_skip_144
              rw [if_pos (i_lt.mpr (by omega))]
              unfold mb_skip_159
              have e2 : (e + 2).toInt = e.toInt + 2 := i_addn e rfl (by omega) (by omega)
              exact ih (e + 2) (by omega) (by omega) (by omega)
        unfold mb_skip_10
        refine WP.bind (mz_at k F G h (by have := hx.1; omega)) ?_
        rintro _ _ _ ⟨rfl, rfl, rfl⟩
        dsimp only
        unfold mb_skip_15
        refine WP.ite (fun _ => fwd) (fun _ => ?_)
        unfold mb_skip_20
        refine WP.bind (mz_at k F G h (by have := hx.1; omega)) ?_
        rintro _ _ _ ⟨rfl, rfl, rfl⟩
        dsimp only
        unfold mb_skip_25
        refine WP.ite (fun _ => fwd) (fun _ => ?_)
        have other : WP (mb_skip_82 fu (ml_skip_2 fu m) k F G) (fun r F1 G1 => KX [8] [] F G F1 G1 ∧ (r = -1 ∨ (F = F1 ∧ x.toInt ≤ r.toInt ∧ r.toInt ≤ (F 3).toInt))) := by
          unfold mb_skip_82
          refine WP.bind (mz_at k F G h (by have := hx.1; omega)) ?_
          rintro _ _ _ ⟨rfl, rfl, rfl⟩
          dsimp only
          unfold mb_skip_87
          refine WP.ite (fun _ => ?_) (fun _ => stay)
          unfold mb_skip_92
          refine WP.bind (mz_at (k + 1) F G h (by have := hx.1; omega)) ?_
          rintro _ _ _ ⟨rfl, rfl, rfl⟩
          dsimp only
          unfold mb_skip_99
          refine WP.ite (fun _ => ?_) (fun _ => stay)
          unfold mb_skip_104
          have e2 : (k + 2).toInt = k.toInt + 2 := i_addn k rfl (by omega) (by omega)
          exact rest fu (k + 2) (by omega) (by omega) (by omega)
        unfold mb_skip_36
        refine WP.bind (mz_at k F G h (by have := hx.1; omega)) ?_
        rintro _ _ _ ⟨rfl, rfl, rfl⟩
        dsimp only
        unfold mb_skip_41
        refine WP.ite (fun c47 => ?_) (fun _ => other)
        unfold mb_skip_46
        refine WP.bind (mz_at (k + 1) F G h (by have := hx.1; omega)) ?_
        rintro _ _ _ ⟨rfl, rfl, rfl⟩
        dsimp only
        unfold mb_skip_53
        refine WP.ite (fun _ => ?_) (fun _ => other)
        exact line c47 fu k (Int.le_refl _) (Or.inl rfl) k2 (by omega)
  unfold mf_skip mb_skip_0
  exact loop fu x (Int.le_refl _) hx.2 (by omega)
/-- the lists of names -/
def NLs (F : PF) (G : PG) : Prop := 0 ≤ (F 13).toInt ∧ (F 13).toInt ≤ 2050 ∧ (∀ h : Nat, h < 64 → G 12 h = -1 ∨ (0 ≤ (G 12 h).toInt ∧ (G 12 h).toInt < (F 13).toInt)) ∧ ∀ j : Nat, (j : Int) < (F 13).toInt → (G 11 j = -1 ∨ (0 ≤ (G 11 j).toInt ∧ (G 11 j).toInt < j)) ∧ 0 ≤ (G 9 j).toInt ∧ (G 9 j).toInt ≤ 4000
theorem mz_nameOf {fu : Nat} (hfu : 8589934592 ≤ fu) (x n : Int32) (F : PF) (G : PG) (h : TXT F G) (hl : NLs F G) (hx : 0 ≤ x.toInt ∧ x.toInt ≤ 4000) (hn : 1 ≤ n.toInt ∧ n.toInt ≤ 16) : WP (mf_nameOf fu x n F G) (fun r F1 G1 => KX [13] [9, 10, 11, 12] F G F1 G1 ∧ 0 ≤ r.toInt ∧ r.toInt < (F1 13).toInt ∧ (F1 13).toInt ≤ (F 13).toInt + 1 ∧ (F 13).toInt ≤ (F1 13).toInt ∧ ((F1 13).toInt ≤ 2050 → NLs F1 G1)) := by
  obtain ⟨l1, l2, l3, l4⟩ := id hl
  have m3 : (3 : Int32).toInt = 3 := rfl
  have m7 : (7 : Int32).toInt = 7 := rfl
  have m1 : (1 : Int32).toInt = 1 := rfl
  -- a new name
  have new : ∀ (hh : Int32), 0 ≤ hh.toInt → hh.toInt < 64 → WP (mb_nameOf_130 fu x n hh F G) (fun r F1 G1 => KX [13] [9, 10, 11, 12] F G F1 G1 ∧ 0 ≤ r.toInt ∧ r.toInt < (F1 13).toInt ∧ (F1 13).toInt ≤ (F 13).toInt + 1 ∧ (F 13).toInt ≤ (F1 13).toInt ∧ ((F1 13).toInt ≤ 2050 → NLs F1 G1)) := by
    intro hh h0 h1
    have vi : vp_in (F 13) 2100 := vp_in_iff.mpr ⟨l1, by omega⟩
    have vh : vp_in hh 64 := vp_in_iff.mpr ⟨h0, by omega⟩
    have e1 : (F 13 + 1).toInt = (F 13).toInt + 1 := i_addn _ rfl (by omega) (by omega)
    unfold mb_nameOf_130
    refine WP.ix vi ?_
    unfold mb_nameOf_140
    refine WP.ix vi ?_
    unfold mb_nameOf_150
    refine WP.ix vh (WP.ix vi ?_)
    unfold mb_nameOf_165
    refine WP.ix vh ?_
    unfold mb_nameOf_175 mb_nameOf_185
    have e2 : (F 13 + 1 - 1 : Int32) = F 13 := i_as _
    refine WP.ret ⟨KX.f rfl (KX.g rfl (KX.g rfl (KX.g rfl (KX.g rfl KX.rf)))), ?_, ?_, ?_, ?_, fun hq => ⟨?_, hq, fun k hk => ?_, fun j hj => ?_⟩⟩
    · show 0 ≤ (F 13 + 1 - 1).toInt
      rw [e2]; exact l1
    · show (F 13 + 1 - 1).toInt < (F 13 + 1).toInt
      rw [e2]; omega
    · show (F 13 + 1).toInt ≤ _
      omega
    · show (F 13).toInt ≤ (F 13 + 1).toInt
      omega
    · show 0 ≤ (F 13 + 1).toInt
      omega
    · show gup (gup (gup (gup G 9 _ x) 10 _ n) 11 _ (G 12 hh.toNatClampNeg)) 12 hh.toNatClampNeg (F 13) 12 k = -1 ∨ (0 ≤ (gup (gup (gup (gup G 9 _ x) 10 _ n) 11 _ (G 12 hh.toNatClampNeg)) 12 hh.toNatClampNeg (F 13) 12 k).toInt ∧ (gup (gup (gup (gup G 9 _ x) 10 _ n) 11 _ (G 12 hh.toNatClampNeg)) 12 hh.toNatClampNeg (F 13) 12 k).toInt < (F 13 + 1).toInt)
      by_cases c : k = hh.toNatClampNeg
      · rw [c, gup_i]
        exact Or.inr ⟨l1, by omega⟩
      · rw [gup_x c]
        show G 12 k = -1 ∨ (0 ≤ (G 12 k).toInt ∧ (G 12 k).toInt < (F 13 + 1).toInt)
        rcases l3 k hk with q | q
        · exact Or.inl q
        · exact Or.inr ⟨q.1, by omega⟩
    · have hj : (j : Int) < (F 13 + 1).toInt := hj
      by_cases c : j = (F 13).toNatClampNeg
      · have cj : (j : Int) = (F 13).toInt := by
          have : j = (F 13).toInt.toNat := c
          omega
        refine ⟨?_, ?_⟩
        · show gup (gup (gup G 9 _ x) 10 _ n) 11 (F 13).toNatClampNeg (G 12 hh.toNatClampNeg) 11 j = -1 ∨ (0 ≤ (gup (gup (gup G 9 _ x) 10 _ n) 11 (F 13).toNatClampNeg (G 12 hh.toNatClampNeg) 11 j).toInt ∧ (gup (gup (gup G 9 _ x) 10 _ n) 11 (F 13).toNatClampNeg (G 12 hh.toNatClampNeg) 11 j).toInt < j)
          rw [c, gup_i, ← c]
          rcases l3 hh.toNatClampNeg (by show hh.toInt.toNat < 64; omega) with q | q
          · exact Or.inl q
          · exact Or.inr ⟨q.1, by omega⟩
        · show 0 ≤ (gup G 9 (F 13).toNatClampNeg x 9 j).toInt ∧ (gup G 9 (F 13).toNatClampNeg x 9 j).toInt ≤ 4000
          rw [c, gup_i]
          exact hx
      · have q := l4 j (by have : j ≠ (F 13).toInt.toNat := c; omega)
        refine ⟨?_, ?_⟩
        · show gup (gup (gup G 9 _ x) 10 _ n) 11 (F 13).toNatClampNeg (G 12 hh.toNatClampNeg) 11 j = -1 ∨ (0 ≤ (gup (gup (gup G 9 _ x) 10 _ n) 11 (F 13).toNatClampNeg (G 12 hh.toNatClampNeg) 11 j).toInt ∧ (gup (gup (gup G 9 _ x) 10 _ n) 11 (F 13).toNatClampNeg (G 12 hh.toNatClampNeg) 11 j).toInt < j)
          rw [gup_x c]
          exact q.1
        · show 0 ≤ (gup G 9 (F 13).toNatClampNeg x 9 j).toInt ∧ (gup G 9 (F 13).toNatClampNeg x 9 j).toInt ≤ 4000
          rw [gup_x c]
          exact q.2
  -- along a list
  have along : ∀ (m : Nat) (hh k : Int32), 0 ≤ hh.toInt → hh.toInt < 64 → (k = -1 ∨ (0 ≤ k.toInt ∧ k.toInt < (F 13).toInt ∧ k.toInt.toNat + 1 < m)) → 0 < m → WP (ml_nameOf_34 fu m x n hh k F G) (fun r F1 G1 => KX [13] [9, 10, 11, 12] F G F1 G1 ∧ 0 ≤ r.toInt ∧ r.toInt < (F1 13).toInt ∧ (F1 13).toInt ≤ (F 13).toInt + 1 ∧ (F 13).toInt ≤ (F1 13).toInt ∧ ((F1 13).toInt ≤ 2050 → NLs F1 G1)) := by
    intro m
    induction m with
    | zero => intro hh k _ _ _ q; exact absurd q (Nat.lt_irrefl _)
    | succ m ih =>
      intro hh k h0 h1 hk _
      show WP (mb_nameOf_34 fu (ml_nameOf_34 fu m) x n hh k F G) _
      unfold mb_nameOf_34
      refine WP.ite (fun _ => new hh h0 h1) (fun c => ?_)
      rcases hk with q | ⟨k0, k1, k2⟩
      · exact absurd q c
      · have vk : vp_in k 2100 := vp_in_iff.mpr ⟨k0, by omega⟩
        obtain ⟨q1, q2, q3⟩ := l4 k.toNatClampNeg (by show ((k.toInt.toNat : Nat) : Int) < _; omega)
        have done : ∀ y : Int32, WP (mb_nameOf_110 fu (ml_nameOf_34 fu m) x n hh k y F G) (fun r F1 G1 => KX [13] [9, 10, 11, 12] F G F1 G1 ∧ 0 ≤ r.toInt ∧ r.toInt < (F1 13).toInt ∧ (F1 13).toInt ≤ (F 13).toInt + 1 ∧ (F 13).toInt ≤ (F1 13).toInt ∧ ((F1 13).toInt ≤ 2050 → NLs F1 G1)) := by
          intro y
          unfold mb_nameOf_110
          refine WP.ite (fun _ => ?_) (fun _ => ?_)
          · unfold mb_nameOf_118
            refine WP.ix vk ?_
            refine ih hh _ h0 h1 ?_ (by omega)
            rcases q1 with z | ⟨z, z1⟩
            · exact Or.inl z
            · have z1 : (G 11 k.toNatClampNeg).toInt < ((k.toInt.toNat : Nat) : Int) := z1
              exact Or.inr ⟨z, by omega, by omega⟩
          · unfold mb_nameOf_115
            exact WP.ret ⟨KX.rf, k0, k1, by omega, Int.le_refl _, fun _ => hl⟩
        have cmp : ∀ (m2 : Nat) (y a : Int32), 0 ≤ a.toInt → a.toInt ≤ 16 → 16 - a.toInt.toNat < m2 → WP (ml_nameOf_61 fu (ml_nameOf_34 fu m) m2 x n hh k y a F G) (fun r F1 G1 => KX [13] [9, 10, 11, 12] F G F1 G1 ∧ 0 ≤ r.toInt ∧ r.toInt < (F1 13).toInt ∧ (F1 13).toInt ≤ (F 13).toInt + 1 ∧ (F 13).toInt ≤ (F1 13).toInt ∧ ((F1 13).toInt ≤ 2050 → NLs F1 G1)) := by
          intro m2
          induction m2 with
          | zero => intro y a _ _ q; exact absurd q (Nat.not_lt_zero _)
          | succ m2 ih2 =>
            intro y a a0 a1 am
            show WP (mb_nameOf_61 fu (ml_nameOf_34 fu m) (ml_nameOf_61 fu (ml_nameOf_34 fu m) m2) x n hh k y a F G) _
            unfold mb_nameOf_61
            refine WP.ite (fun _ => done y) (fun ca => ?_)
            have ca := mt i_le.mpr ca
            have ea : (a + 1).toInt = a.toInt + 1 := i_addn a rfl (by omega) (by omega)
            unfold mb_nameOf_67
            refine WP.ite (fun _ => done y) (fun _ => ?_)
            unfold mb_nameOf_72
            refine WP.ix vk ?_
            have eg : (G 9 k.toNatClampNeg + a).toInt = (G 9 k.toNatClampNeg).toInt + a.toInt := i_addn _ rfl (by omega) (by omega)
            refine WP.bind (mz_at _ F G h (by omega)) ?_
            rintro _ _ _ ⟨rfl, rfl, rfl⟩
            dsimp only
            unfold mb_nameOf_86
            have ex : (x + a).toInt = x.toInt + a.toInt := i_addn _ rfl (by omega) (by omega)
            refine WP.bind (mz_at _ F G h (by omega)) ?_
            rintro _ _ _ ⟨rfl, rfl, rfl⟩
            dsimp only
            unfold mb_nameOf_94 mb_nameOf_97 mb_nameOf_101 mb_nameOf_102
            exact WP.ite (fun _ => ih2 1 (a + 1) (by omega) (by omega) (by omega)) (fun _ => ih2 0 (a + 1) (by omega) (by omega) (by omega))
        unfold mb_nameOf_40
        refine WP.ix vk ?_
        unfold mb_nameOf_51 mb_nameOf_55 mb_nameOf_56
        have m0 : (0 : Int32).toInt = 0 := rfl
        exact WP.ite (fun _ => cmp fu 1 0 (by omega) (by omega) (by omega)) (fun _ => cmp fu 0 0 (by omega) (by omega) (by omega))
  unfold mf_nameOf mb_nameOf_0
  refine WP.bind (mz_at x F G h hx.1) ?_
  rintro _ _ _ ⟨rfl, rfl, rfl⟩
  dsimp only
  unfold mb_nameOf_5
  have ex : (x + n).toInt = x.toInt + n.toInt := i_addn _ rfl (by omega) (by omega)
  have ex1 : (x + n - 1).toInt = x.toInt + n.toInt - 1 := by
    have := i_subn (x + n) (n := 1) (m := 1) rfl (by omega) (by omega)
    omega
  refine WP.bind (mz_at (x + n - 1) F G h (by omega)) ?_
  rintro _ _ _ ⟨rfl, rfl, rfl⟩
  dsimp only
  unfold mb_nameOf_17
  have a1 := atv.rng h x
  have a2 := atv.rng h (x + n - 1)
  have p1 : (atv F G x * 7).toInt = (atv F G x).toInt * 7 := i_muln _ rfl (by omega) (by omega)
  have p2 : (atv F G (x + n - 1) * 3).toInt = (atv F G (x + n - 1)).toInt * 3 := i_muln _ rfl (by omega) (by omega)
  have p3 : (atv F G x * 7 + atv F G (x + n - 1) * 3).toInt = (atv F G x).toInt * 7 + (atv F G (x + n - 1)).toInt * 3 := by
    have := i_addn (atv F G x * 7) (n := atv F G (x + n - 1) * 3) rfl (by omega) (by omega)
    omega
  have p4 : (atv F G x * 7 + atv F G (x + n - 1) * 3 + n).toInt = (atv F G x).toInt * 7 + (atv F G (x + n - 1)).toInt * 3 + n.toInt := by
    have := i_addn (atv F G x * 7 + atv F G (x + n - 1) * 3) (n := n) rfl (by omega) (by omega)
    omega
  generalize atv F G x * 7 + atv F G (x + n - 1) * 3 + n = y at p4
  have r := i_rem (x := y) 64 (by decide) (by decide) (by omega)
  rw [show nI 64 = (64 : Int32) from rfl] at r
  have r2 : (y - y / 64 * 64).toInt < 64 := by have := r.2; omega
  refine WP.ix (vp_in_iff.mpr ⟨r.1, by omega⟩) ?_
  generalize y - y / 64 * 64 = hh at r r2
  refine along fu hh _ r.1 r2 ?_ (by omega)
  rcases l3 hh.toNatClampNeg (by show hh.toInt.toNat < 64; have := r.1; omega) with q | q
  · exact Or.inl q
  · exact Or.inr ⟨q.1, q.2, by omega⟩
