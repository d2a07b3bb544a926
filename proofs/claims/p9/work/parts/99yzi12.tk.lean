theorem nv_min {b : Nat → Int32} {f : Nat} {base : Int64} {a : Nat} (h : a ≤ 10) : nvA b f base (min a 10) = nvA b f base a := by rw [Nat.min_eq_left h]
theorem mp_number {fu : Nat} {b : Nat → Int32} {n : Nat} {Fc Fm : PF} {Gc Gm : PG} (h : BT b n Fc Gc Fm Gm) {x1 : Int32} {x e : Nat} (e1 : x1.toInt = x) (hx : x < n) (hd : DIG (b x)) (hp : PEND b x e) (he : e ≤ n) : PP (mf_numberToken fu x1 Fm Gm) (fun r F' G' => (∃ v : Int64, NUMX b x e v ∧ r = nI e ∧ addM Fm Gm 3 v.toInt32 x1 F' G') ∨ ((∀ v : Int64, ¬ NUMX b x e v) ∧ r = -1 ∧ Fm = F' ∧ Gm = G')) := by
  obtain ⟨h0, h1, h2, h3, h4⟩ := id h
  have l1 : (1 : Int32).toInt = 1 := rfl
  have l10 : (10 : Int32).toInt = 10 := rfl
  have l8 : (8 : Int32).toInt = 8 := rfl
  have l16 : (16 : Int32).toInt = 16 := rfl
  have ex1 : (x1 + (1 : Int32)).toInt = x1.toInt + 1 := i_addn x1 rfl (by omega) (by omega)
  have xe : x + 1 ≤ e := by
    rcases Nat.lt_or_ge x e with q | q
    · exact q
    · have q1 := hp.1
      have : e = x := by omega
      rw [this] at hp
      exact absurd (.inl hd) hp.2.2
  -- the digits
  have go : ∀ (x2 : Int32) (f lim : Nat) (base : Int64) (ok : Int32 → Prop), x ≤ f → f ≤ e → (∀ c : Int32, ok c → DIG c ∨ LET c) → ((x2 = 0 ∧ lim = 10 ∧ base = 10 ∧ ∀ c : Int32, ok c ↔ DIG c) ∨ (x2 = 1 ∧ lim = 8 ∧ base = 16 ∧ ∀ c : Int32, ok c ↔ HX c)) → (∀ v : Int64, NUMX b x e v ↔ NUM b f e lim base ok v) → ∀ x4 : Int32, x4.toInt = f → ∀ (k : Nat) (x3 : Int32) (x5 : Int64) (a : Nat), x3.toInt = ((f + a : Nat) : Int) → f + a ≤ e → (∀ i : Nat, f ≤ i → i < f + a → ok (b i)) → x5 = nvA b f base (min a 10) → PP (ml_numberToken_46 fu k x1 x2 x3 x4 x5 Fm Gm) (fun r F' G' => (∃ v : Int64, NUMX b x e v ∧ r = nI e ∧ addM Fm Gm 3 v.toInt32 x1 F' G') ∨ ((∀ v : Int64, ¬ NUMX b x e v) ∧ r = -1 ∧ Fm = F' ∧ Gm = G')) := by
    intro x2 f lim base ok hf0 hf1 hpart hcase hnum x4 e4 k
    induction k with
    | zero => intro x3 x5 a _ _ _ _; exact PP.no
    | succ k ih =>
      intro x3 x5 a e3 a0 ha e5
      have e34 : (x3 - x4).toInt = x3.toInt - x4.toInt := i_subn x3 rfl (by omega) (by omega)
      have e31 : (x3 + 1).toInt = x3.toInt + 1 := i_addn x3 rfl (by omega) (by omega)
      have xn3 : x3.toInt.toNat = f + a := by omega
      -- over: the digit at f + a is none
      have over : ¬ ok (b (f + a)) → PP (mb_numberToken_125 fu x1 x2 x3 x4 x5 Fm Gm) (fun r F' G' => (∃ v : Int64, NUMX b x e v ∧ r = nI e ∧ addM Fm Gm 3 v.toInt32 x1 F' G') ∨ ((∀ v : Int64, ¬ NUMX b x e v) ∧ r = -1 ∧ Fm = F' ∧ Gm = G')) := by
        intro no
        have short : f + a < e → ∀ v : Int64, ¬ NUMX b x e v := fun q v t => no (((hnum v).mp t).2.2.1 (f + a) (by omega) q)
        have fail : (∀ v : Int64, ¬ NUMX b x e v) → PP (mb_numberToken_173 fu Fm Gm) (fun r F' G' => (∃ v : Int64, NUMX b x e v ∧ r = nI e ∧ addM Fm Gm 3 v.toInt32 x1 F' G') ∨ ((∀ v : Int64, ¬ NUMX b x e v) ∧ r = -1 ∧ Fm = F' ∧ Gm = G')) := by
          intro q
          unfold mb_numberToken_173
          exact PP.ret (.inr ⟨q, rfl, rfl, rfl⟩)
        have all : ∀ v : Int64, NUMX b x e v → f + a = e ∧ f + 1 ≤ e ∧ e ≤ f + lim ∧ v = nvA b f base (e - f) ∧ v ≤ 4294967295 := by
          intro v t
          have q := (hnum v).mp t
          refine ⟨?_, q.1, q.2.1, q.2.2.2.1, q.2.2.2.2⟩
          rcases Nat.lt_or_ge (f + a) e with u | u
          · exact absurd t (short u v)
          · omega
        unfold mb_numberToken_125
        refine PP.ite (fun z => fail (fun v t => ?_)) (fun z => ?_)
        · have z1 := i_lt.mp z
          have := all v t
          omega
        have z1 := mt i_lt.mpr z
        have l150 : ∀ y : Int32, y.toInt = lim → PP (mb_numberToken_150 fu x1 x3 x5 y (x3 - x4) Fm Gm) (fun r F' G' => (∃ v : Int64, NUMX b x e v ∧ r = nI e ∧ addM Fm Gm 3 v.toInt32 x1 F' G') ∨ ((∀ v : Int64, ¬ NUMX b x e v) ∧ r = -1 ∧ Fm = F' ∧ Gm = G')) := by
          intro y ey
          have lim10 : lim ≤ 10 := by
            rcases hcase with ⟨-, q, -⟩ | ⟨-, q, -⟩ <;> omega
          unfold mb_numberToken_150
          refine PP.ite (fun w => fail (fun v t => ?_)) (fun w => ?_)
          · have w1 := i_lt.mp w
            have := all v t
            omega
          have w1 := mt i_lt.mpr w
          have e5' : x5 = nvA b f base a := by rw [e5, nv_min (by omega)]
          unfold mb_numberToken_153
          refine PP.ite (fun u => fail (fun v t => ?_)) (fun u => ?_)
          · have q := all v t
            have q5 := q.2.2.2.2
            rw [q.2.2.2.1, show e - f = a by omega, ← e5'] at q5
            exact (lg_gt0 _ _).mp u q5
          have u1 : x5 ≤ 4294967295 := Classical.byContradiction (fun q => u ((lg_gt0 _ _).mpr q))
          unfold mb_numberToken_162
          refine PP.bind (mp_at h x3 (by omega)) ?_
          rintro m _ _ ⟨rfl, rfl, hm⟩
          dsimp only
          rw [xn3] at hm
          unfold mb_numberToken_167
          refine PP.bind (mp_isInner m Fm Gm) ?_
          rintro r _ _ ⟨rfl, rfl, hr⟩
          dsimp only
          rw [hm] at hr
          unfold mb_numberToken_170
          refine PP.ite (fun s => ?_) (fun s => fail (fun v t => ?_))
          · have np := hr.z.mp s
            have fe : f + a = e := by
              rcases Nat.lt_or_ge (f + a) e with q | q
              · exact absurd (hp.2.1 (f + a) (by omega) q) np
              · omega
            unfold mb_numberToken_175 mb_numberToken_184
            refine PP.bind (mp_token 3 x5.toInt32 x1 Fm Gm) (fun r F' G' q => PP.ret (.inl ⟨x5, (hnum x5).mpr ⟨by omega, by omega, fun i i0 i1 => ha i i0 (by omega), by rw [e5', show e - f = a by omega], u1⟩, ?_, q⟩))
            exact i_eq.mpr (by rw [nI_toInt (by omega)]; omega)
          · have q := (all v t).1
            rw [q] at hr
            exact s (hr.z.mpr hp.2.2)
        unfold mb_numberToken_137 mb_numberToken_143 mb_numberToken_148
        rcases hcase with ⟨q, q2, -⟩ | ⟨q, q2, -⟩
        · rw [if_pos q]
          exact l150 10 (by rw [q2]; rfl)
        · rw [if_neg (show ¬ x2 = 0 by rw [q]; decide)]
          exact l150 8 (by rw [q2]; rfl)
      -- one more digit
      have more : ok (b (f + a)) → PP (mb_numberToken_77 fu (ml_numberToken_46 fu k) x1 x2 x3 x4 x5 Fm Gm) (fun r F' G' => (∃ v : Int64, NUMX b x e v ∧ r = nI e ∧ addM Fm Gm 3 v.toInt32 x1 F' G') ∨ ((∀ v : Int64, ¬ NUMX b x e v) ∧ r = -1 ∧ Fm = F' ∧ Gm = G')) := by
        intro okc
        have fe : f + (a + 1) ≤ e := by
          rcases Nat.lt_or_ge (f + a) e with q | q
          · omega
          · have : f + a = e := by omega
            rw [this] at okc
            exact absurd (hpart _ okc) hp.2.2
        have ha' : ∀ i : Nat, f ≤ i → i < f + (a + 1) → ok (b i) := by
          intro i i0 i1
          rcases Nat.lt_or_ge i (f + a) with q | q
          · exact ha i i0 q
          · rw [show i = f + a by omega]
            exact okc
        have hxc : HX (b (f + a)) := by
          rcases hcase with ⟨-, -, -, q⟩ | ⟨-, -, -, q⟩
          · exact .inl ((q _).mp okc)
          · exact (q _).mp okc
        unfold mb_numberToken_77 mb_numberToken_115 mb_numberToken_117
        refine PP.ite (fun z => ?_) (fun z => ?_)
        · have z1 := i_le.mp z
          refine ih (x3 + 1) x5 (a + 1) (by omega) fe ha' ?_
          rw [e5, Nat.min_eq_right (show 10 ≤ a by omega), Nat.min_eq_right (show 10 ≤ a + 1 by omega)]
        · have z1 := mt i_le.mpr z
          have l101 : ∀ y : Int64, y = base → PP (mb_numberToken_101 fu (ml_numberToken_46 fu k) x1 x2 x3 x4 y x5 Fm Gm) (fun r F' G' => (∃ v : Int64, NUMX b x e v ∧ r = nI e ∧ addM Fm Gm 3 v.toInt32 x1 F' G') ∨ ((∀ v : Int64, ¬ NUMX b x e v) ∧ r = -1 ∧ Fm = F' ∧ Gm = G')) := by
            intro y ey
            unfold mb_numberToken_101
            refine PP.bind (mp_at h x3 (by omega)) ?_
            rintro m _ _ ⟨rfl, rfl, hm⟩
            dsimp only
            rw [xn3] at hm
            unfold mb_numberToken_107
            refine PP.bind (mp_hex m Fm Gm) ?_
            rintro d _ _ ⟨rfl, rfl, hdv⟩
            dsimp only
            rw [hm] at hdv
            have ed : d = dv (b (f + a)) := by
              rcases hdv with ⟨-, q⟩ | ⟨q, -⟩
              · exact q
              · exact absurd hxc q
            unfold mb_numberToken_110 mb_numberToken_117
            refine ih (x3 + 1) _ (a + 1) (by omega) fe ha' ?_
            rw [nv_min (show a + 1 ≤ 10 by omega), e5, nv_min (show a ≤ 10 by omega), ed, ey]
            rfl
          unfold mb_numberToken_86 mb_numberToken_92 mb_numberToken_98
          rcases hcase with ⟨q, -, q2, -⟩ | ⟨q, -, q2, -⟩
          · rw [if_pos q]
            exact l101 10 q2.symm
          · rw [if_neg (show ¬ x2 = 0 by rw [q]; decide)]
            exact l101 16 q2.symm
      show PP (mb_numberToken_46 fu (ml_numberToken_46 fu k) x1 x2 x3 x4 x5 Fm Gm) _
      unfold mb_numberToken_46
      rcases hcase with ⟨q, -, -, q2⟩ | ⟨q, -, -, q2⟩
      · rw [if_pos q]
        unfold mb_numberToken_66
        refine PP.bind (mp_at h x3 (by omega)) ?_
        rintro m _ _ ⟨rfl, rfl, hm⟩
        dsimp only
        rw [xn3] at hm
        unfold mb_numberToken_71
        refine PP.bind (mp_isDigit m Fm Gm) ?_
        rintro r _ _ ⟨rfl, rfl, hr⟩
        dsimp only
        rw [hm] at hr
        unfold mb_numberToken_74
        exact PP.ite (fun s => over (fun t => hr.z.mp s ((q2 _).mp t))) (fun s => more ((q2 _).mpr (Classical.byContradiction (fun t => s (hr.z.mpr t)))))
      · rw [if_neg (show ¬ x2 = 0 by rw [q]; decide)]
        unfold mb_numberToken_50
        refine PP.bind (mp_at h x3 (by omega)) ?_
        rintro m _ _ ⟨rfl, rfl, hm⟩
        dsimp only
        rw [xn3] at hm
        unfold mb_numberToken_55
        refine PP.bind (mp_hex m Fm Gm) ?_
        rintro r _ _ ⟨rfl, rfl, hr⟩
        dsimp only
        rw [hm] at hr
        unfold mb_numberToken_58 mb_numberToken_63
        refine PP.ite (fun s => over (fun t => ?_)) (fun s => more ((q2 _).mpr ?_))
        · have s1 := i_le.mp s
          have t1 := (q2 _).mp t
          rcases hr with ⟨-, w⟩ | ⟨w, -⟩
          · have := (dv_16 t1).2.1
            rw [w] at s1
            omega
          · exact w t1
        · have s1 := mt i_le.mpr s
          rcases hr with ⟨w, -⟩ | ⟨-, w⟩
          · exact w
          · rw [w] at s1
            have : (99 : Int32).toInt = 99 := rfl
            omega
  have dec : ¬ HEXA b x → PP (mb_numberToken_26 fu x1 Fm Gm) (fun r F' G' => (∃ v : Int64, NUMX b x e v ∧ r = nI e ∧ addM Fm Gm 3 v.toInt32 x1 F' G') ∨ ((∀ v : Int64, ¬ NUMX b x e v) ∧ r = -1 ∧ Fm = F' ∧ Gm = G')) := by
    intro nh
    unfold mb_numberToken_26 mb_numberToken_27
    rw [if_pos (show (0 : Int32) = 0 from rfl)]
    unfold mb_numberToken_38 mb_numberToken_39
    exact go 0 x 10 10 DIG (Nat.le_refl _) (by omega) (fun c q => .inl q) (.inl ⟨rfl, rfl, rfl, fun c => Iff.rfl⟩) (fun v => ⟨fun q => q.elim (fun t => absurd t.1 nh) (fun t => t.2), fun q => .inr ⟨nh, q⟩⟩) x1 e1 fu x1 0 0 (by omega) (by omega) (fun i i0 i1 => absurd i1 (by omega)) rfl
  unfold mf_numberToken mb_numberToken_0
  refine PP.bind (mp_at h x1 (by omega)) ?_
  rintro m _ _ ⟨rfl, rfl, hm⟩
  dsimp only
  rw [show x1.toInt.toNat = x by omega] at hm
  unfold mb_numberToken_5
  refine PP.ite (fun z => ?_) (fun z => dec (fun q => z (by rw [hm]; exact q.1)))
  unfold mb_numberToken_10
  refine PP.bind (mp_at h (x1 + 1) (by omega)) ?_
  rintro m2 _ _ ⟨rfl, rfl, hm2⟩
  dsimp only
  rw [show (x1 + 1).toInt.toNat = x + 1 by omega] at hm2
  unfold mb_numberToken_17
  refine PP.ite (fun w => ?_) (fun w => dec (fun q => w (by rw [hm2]; exact q.2)))
  have hh : HEXA b x := ⟨by rw [← hm]; exact z, by rw [← hm2]; exact w⟩
  have e2 : x + 2 ≤ e := by
    rcases Nat.lt_or_ge (x + 1) e with q | q
    · exact q
    · have : e = x + 1 := by omega
      rw [this] at hp
      refine absurd (.inr ?_) hp.2.2
      rw [hh.2]
      exact .inl (by decide)
  have ex2 : (x1 + (2 : Int32)).toInt = x1.toInt + 2 := i_addn x1 rfl (by omega) (by omega)
  unfold mb_numberToken_22 mb_numberToken_27
  rw [if_neg (show ¬ (1 : Int32) = 0 by decide)]
  unfold mb_numberToken_32 mb_numberToken_39
  refine go 1 (x + 2) 8 16 HX (by omega) e2 (fun c q => ?_) (.inr ⟨rfl, rfl, rfl, fun c => Iff.rfl⟩) (fun v => ⟨fun q => q.elim (fun t => t.2) (fun t => absurd hh t.1), fun q => .inl ⟨hh, q⟩⟩) (x1 + 2) (by omega) fu (x1 + 2) 0 0 (by omega) (by omega) (fun i i0 i1 => absurd i1 (by omega)) rfl
  rcases q with q | q | q
  · exact .inl q
  · exact .inr (.inl ⟨by omega, by omega⟩)
  · exact .inr (.inr (.inl ⟨by omega, by omega⟩))
