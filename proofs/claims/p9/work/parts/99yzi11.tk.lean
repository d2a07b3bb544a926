/-- the number at x on both sides: hx, it has 0x ahead -/
def NUMX (b : Nat → Int32) (x e : Nat) (v : Int64) : Prop := (HEXA b x ∧ NUM b (x + 2) e 8 16 HX v) ∨ (¬ HEXA b x ∧ NUM b x e 10 10 DIG v)
theorem hok10 (c : Int32) : (HX c ∧ (dv c).toInt < (10 : Int32).toInt) ↔ DIG c := by
  have e : (10 : Int32).toInt = 10 := rfl
  rw [e]
  constructor
  · rintro ⟨a, d⟩
    exact (dv_16 a).2.2.mp d
  · intro d
    have a : HX c := .inl d
    exact ⟨a, (dv_16 a).2.2.mpr d⟩
theorem hok16 (c : Int32) : (HX c ∧ (dv c).toInt < (16 : Int32).toInt) ↔ HX c := by
  have e : (16 : Int32).toInt = 16 := rfl
  rw [e]
  exact ⟨fun q => q.1, fun q => ⟨q, (dv_16 q).2.1⟩⟩
theorem cp_number {fu : Nat} {b : Nat → Int32} {n : Nat} {Fc Fm : PF} {Gc Gm : PG} (h : BT b n Fc Gc Fm Gm) (h93 : (Fc 93).toInt < 4001) {x1 : Int32} {x : Nat} (e1 : x1.toInt = x) (hx : x < n) (hd : DIG (b x)) : PP (cf_X10_behindNumber fu x1 Fc Gc) (fun r F' G' => ∃ e : Nat, PEND b x e ∧ e ≤ n ∧ ((∃ v : Int64, NUMX b x e v ∧ r = nI e ∧ addC Fc Gc 3 v.toInt32 x1 F' G') ∨ ((∀ v : Int64, ¬ NUMX b x e v) ∧ r = -1 ∧ Fc = F' ∧ Gc = G'))) := by
  obtain ⟨h0, h1, h2, h3, h4⟩ := id h
  unfold cf_X10_behindNumber cb_X10_behindNumber_0
  have l1 : (1 : Int32).toInt = 1 := rfl
  refine PP.bind (Q1 := fun r F' G' => Fc = F' ∧ Gc = G' ∧ 0 ≤ r.toInt ∧ r.toInt ≤ n ∧ PEND b x r.toInt.toNat) ?_ ?_
  · unfold cf_X10_behindParts cb_X10_behindParts_0
    refine PP.mono (cp_parts h fu x1 (by omega) (by omega)) ?_
    rintro r F' G' ⟨a1, a2, a3, a4, a5⟩
    rw [show x1.toInt.toNat = x by omega] at a5
    exact ⟨a1, a2, a3, a4, a5⟩
  rintro x2 _ _ ⟨rfl, rfl, r0, r1, hp⟩
  dsimp only
  obtain ⟨e, e2⟩ : ∃ e : Nat, x2.toInt = e := ⟨x2.toInt.toNat, by omega⟩
  rw [show x2.toInt.toNat = e by omega] at hp
  have x2e : x2 = nI e := i_eq.mpr (by rw [nI_toInt (by omega)]; exact e2)
  have xe : x + 1 ≤ e := by
    rcases Nat.lt_or_ge x e with q | q
    · exact q
    · have q1 := hp.1
      have : e = x := by omega
      rw [this] at hp
      exact absurd (.inl hd) hp.2.2
  have ex1 : (x1 + (1 : Int32)).toInt = x1.toInt + 1 := i_addn x1 rfl (by omega) (by omega)
  -- behind the choice of a base
  have go : ∀ (x3 x4 x5 : Int32) (f lim : Nat) (base : Int64) (ok : Int32 → Prop), x4.toInt = f → f ≤ x + 2 → x5.toInt64 = base → (∀ c : Int32, (HX c ∧ (dv c).toInt < x5.toInt) ↔ ok c) → x5.toInt ≤ 16 → ((x3 = 0 ∧ lim = 10) ∨ (¬ x3 = 0 ∧ lim = 8)) → (∀ v : Int64, NUMX b x e v ↔ NUM b f e lim base ok v) → PP (cb_X10_behindNumber_64 fu x1 x2 x3 x4 x5 Fc Gc) (fun r F' G' => ∃ e : Nat, PEND b x e ∧ e ≤ n ∧ ((∃ v : Int64, NUMX b x e v ∧ r = nI e ∧ addC Fc Gc 3 v.toInt32 x1 F' G') ∨ ((∀ v : Int64, ¬ NUMX b x e v) ∧ r = -1 ∧ Fc = F' ∧ Gc = G'))) := by
    intro x3 x4 x5 f lim base ok e4 hf eb hok h16 hlim hnum
    have e24 : (x2 - x4).toInt = x2.toInt - x4.toInt := i_subn x2 rfl (by omega) (by omega)
    unfold cb_X10_behindNumber_64 cb_X10_behindNumber_94
    refine PP.ite (fun z => PP.ret ⟨e, hp, by omega, .inr ⟨fun v q => ?_, rfl, rfl, rfl⟩⟩) (fun z => ?_)
    · have z1 := i_lt.mp z
      have q1 := ((hnum v).mp q).1
      omega
    have z1 := mt i_lt.mpr z
    have l91 : ∀ y : Int32, y.toInt = lim → PP (cb_X10_behindNumber_91 fu x1 x2 x4 x5 y (x2 - x4) Fc Gc) (fun r F' G' => ∃ e : Nat, PEND b x e ∧ e ≤ n ∧ ((∃ v : Int64, NUMX b x e v ∧ r = nI e ∧ addC Fc Gc 3 v.toInt32 x1 F' G') ∨ ((∀ v : Int64, ¬ NUMX b x e v) ∧ r = -1 ∧ Fc = F' ∧ Gc = G'))) := by
      intro y ey
      unfold cb_X10_behindNumber_91 cb_X10_behindNumber_94
      refine PP.ite (fun w => ?_) (fun w => PP.ret ⟨e, hp, by omega, .inr ⟨fun v q => ?_, rfl, rfl, rfl⟩⟩)
      · have w1 := i_le.mp w
        unfold cb_X10_behindNumber_96
        refine PP.mono (cp_digits h h93 (f := f) (lim := lim) (base := base) (ok := ok) e2 (by omega) (by omega) (by omega) eb hok h16 fu 0 x4 0 (by omega) (by omega) (fun i i0 i1 => absurd i1 (by omega)) rfl) ?_
        rintro r F' G' (⟨v, q, r1, r2⟩ | ⟨q, r1, r2, r3⟩)
        · exact ⟨e, hp, by omega, .inl ⟨v, (hnum v).mpr q, by rw [r1, x2e], r2⟩⟩
        · exact ⟨e, hp, by omega, .inr ⟨fun v t => q v ((hnum v).mp t), r1, r2, r3⟩⟩
      · have w1 := mt i_le.mpr w
        have q1 := ((hnum v).mp q).2.1
        omega
    unfold cb_X10_behindNumber_78 cb_X10_behindNumber_84 cb_X10_behindNumber_89
    rcases hlim with ⟨a, d⟩ | ⟨a, d⟩
    · rw [if_pos a]
      exact l91 10 (by rw [d]; rfl)
    · rw [if_neg a]
      exact l91 8 (by rw [d]; rfl)
  have dec : ¬ HEXA b x → PP (cb_X10_behindNumber_38 fu x1 x2 Fc Gc) (fun r F' G' => ∃ e : Nat, PEND b x e ∧ e ≤ n ∧ ((∃ v : Int64, NUMX b x e v ∧ r = nI e ∧ addC Fc Gc 3 v.toInt32 x1 F' G') ∨ ((∀ v : Int64, ¬ NUMX b x e v) ∧ r = -1 ∧ Fc = F' ∧ Gc = G'))) := by
    intro nh
    unfold cb_X10_behindNumber_38 cb_X10_behindNumber_39
    rw [if_pos (show (0 : Int32) = 0 from rfl)]
    unfold cb_X10_behindNumber_50 cb_X10_behindNumber_51
    rw [if_pos (show (0 : Int32) = 0 from rfl)]
    unfold cb_X10_behindNumber_62
    exact go 0 x1 10 x 10 10 DIG e1 (by omega) (by decide) hok10 (by decide) (.inl ⟨rfl, rfl⟩) (fun v => ⟨fun q => q.elim (fun t => absurd t.1 nh) (fun t => t.2), fun q => .inr ⟨nh, q⟩⟩)
  unfold cb_X10_behindNumber_5
  refine PP.bind (cp_at h x1) ?_
  rintro ra _ _ ⟨rfl, rfl, hra⟩
  dsimp only
  have ca := hra.iff h4 (by omega) (show b x = b x1.toInt.toNat by rw [show x1.toInt.toNat = x by omega]) (c := 48) (by decide) (by decide)
  unfold cb_X10_behindNumber_14
  refine PP.ite (fun z => ?_) (fun z => dec (fun q => z (ca.mpr q.1)))
  unfold cb_X10_behindNumber_19
  refine PP.bind (cp_at h (x1 + 1)) ?_
  rintro rb _ _ ⟨rfl, rfl, hrb⟩
  dsimp only
  have cb := hrb.iff h4 (by omega) (show b (x + 1) = b (x1 + 1).toInt.toNat by rw [show (x1 + 1).toInt.toNat = x + 1 by omega]) (c := 120) (by decide) (by decide)
  unfold cb_X10_behindNumber_29
  refine PP.ite (fun w => ?_) (fun w => dec (fun q => w (cb.mpr q.2)))
  have hh : HEXA b x := ⟨ca.mp z, cb.mp w⟩
  have ex2 : (x1 + (2 : Int32)).toInt = x1.toInt + 2 := i_addn x1 rfl (by omega) (by omega)
  unfold cb_X10_behindNumber_34 cb_X10_behindNumber_39
  rw [if_neg (show ¬ (1 : Int32) = 0 by decide)]
  unfold cb_X10_behindNumber_44 cb_X10_behindNumber_51
  rw [if_neg (show ¬ (1 : Int32) = 0 by decide)]
  unfold cb_X10_behindNumber_57
  exact go 1 (x1 + 2) 16 (x + 2) 8 16 HX (by omega) (by omega) (by decide) hok16 (by decide) (.inr ⟨by decide, rfl⟩) (fun v => ⟨fun q => q.elim (fun t => t.2) (fun t => absurd hh t.1), fun q => .inl ⟨hh, q⟩⟩)
