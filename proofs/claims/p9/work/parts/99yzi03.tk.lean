def DIG (c : Int32) : Prop := 48 ≤ c.toInt ∧ c.toInt ≤ 57
def LET (c : Int32) : Prop := (97 ≤ c.toInt ∧ c.toInt ≤ 122) ∨ (65 ≤ c.toInt ∧ c.toInt ≤ 90) ∨ c.toInt = 95
def YN (r : Int32) (P : Prop) : Prop := (r = 1 ∧ P) ∨ (r = 0 ∧ ¬ P)
theorem YN.mp {r : Int32} {P Q : Prop} (h : YN r P) (e : P ↔ Q) : YN r Q := by
  rcases h with ⟨a, q⟩ | ⟨a, q⟩
  · exact .inl ⟨a, e.mp q⟩
  · exact .inr ⟨a, fun z => q (e.mpr z)⟩
theorem YN.z {r : Int32} {P : Prop} (h : YN r P) : r = 0 ↔ ¬ P := by
  rcases h with ⟨a, q⟩ | ⟨a, q⟩
  · rw [a]
    exact ⟨fun z => absurd z (by decide), fun z => absurd q z⟩
  · exact ⟨fun _ => q, fun _ => a⟩
theorem cp_isDigit {fu : Nat} (c : Int32) (F : PF) (G : PG) : PP (cf_X10_isDigit fu c F G) (fun r F' G' => F = F' ∧ G = G' ∧ YN r (DIG c)) := by
  unfold cf_X10_isDigit cb_X10_isDigit_0 cb_X10_isDigit_6 cb_X10_isDigit_12 cb_X10_isDigit_16 cb_X10_isDigit_17
  have e0 : (48 : Int32).toInt = 48 := rfl
  have e1 : (57 : Int32).toInt = 57 := rfl
  refine PP.ite (fun q => PP.bz (fun _ => PP.ret ⟨rfl, rfl, .inr ⟨rfl, fun z => ?_⟩⟩)) (fun q => PP.ite (fun q2 => PP.bz (fun _ => PP.ret ⟨rfl, rfl, .inr ⟨rfl, fun z => ?_⟩⟩)) (fun q2 => PP.bz (fun _ => PP.ret ⟨rfl, rfl, .inl ⟨rfl, ?_, ?_⟩⟩)))
  · have := i_lt.mp q
    have := z.1
    omega
  · have := i_lt.mp q2
    have := z.2
    omega
  · have := mt i_lt.mpr q
    omega
  · have := mt i_lt.mpr q2
    omega
theorem mp_isDigit {fu : Nat} (c : Int32) (F : PF) (G : PG) : PP (mf_isDigit fu c F G) (fun r F' G' => F = F' ∧ G = G' ∧ YN r (DIG c)) := by
  unfold mf_isDigit mb_isDigit_0 mb_isDigit_6 mb_isDigit_12 mb_isDigit_16 mb_isDigit_17
  have e0 : (48 : Int32).toInt = 48 := rfl
  have e1 : (57 : Int32).toInt = 57 := rfl
  refine PP.ite (fun q => PP.bz (fun _ => PP.ret ⟨rfl, rfl, .inr ⟨rfl, fun z => ?_⟩⟩)) (fun q => PP.ite (fun q2 => PP.bz (fun _ => PP.ret ⟨rfl, rfl, .inr ⟨rfl, fun z => ?_⟩⟩)) (fun q2 => PP.bz (fun _ => PP.ret ⟨rfl, rfl, .inl ⟨rfl, ?_, ?_⟩⟩)))
  · have := i_lt.mp q
    have := z.1
    omega
  · have := i_lt.mp q2
    have := z.2
    omega
  · have := mt i_lt.mpr q
    omega
  · have := mt i_lt.mpr q2
    omega
theorem mp_isLetter {fu : Nat} (c : Int32) (F : PF) (G : PG) : PP (mf_isLetter fu c F G) (fun r F' G' => F = F' ∧ G = G' ∧ YN r (LET c)) := by
  unfold mf_isLetter mb_isLetter_0 mb_isLetter_6 mb_isLetter_12 mb_isLetter_18 mb_isLetter_24 mb_isLetter_30 mb_isLetter_34 mb_isLetter_35
  have e0 : (97 : Int32).toInt = 97 := rfl
  have e1 : (122 : Int32).toInt = 122 := rfl
  have e2 : (65 : Int32).toInt = 65 := rfl
  have e3 : (90 : Int32).toInt = 90 := rfl
  have e4 : (95 : Int32).toInt = 95 := rfl
  have yes : LET c → PP (if b01 1 = true then some (1, F, G) else none) (fun r F' G' => F = F' ∧ G = G' ∧ YN r (LET c)) := fun q => PP.bz (fun _ => PP.ret ⟨rfl, rfl, .inl ⟨rfl, q⟩⟩)
  have no : ¬ LET c → PP (if b01 0 = true then some (0, F, G) else none) (fun r F' G' => F = F' ∧ G = G' ∧ YN r (LET c)) := fun q => PP.bz (fun _ => PP.ret ⟨rfl, rfl, .inr ⟨rfl, q⟩⟩)
  have r := i_rng c
  refine PP.ite (fun q => ?_) (fun q => PP.ite (fun q2 => yes ?_) (fun q2 => ?_))
  · have a := i_lt.mp q
    refine PP.ite (fun q3 => PP.ite (fun q4 => yes ?_) (fun q4 => no ?_)) (fun q3 => PP.ite (fun q4 => yes ?_) (fun q4 => PP.ite (fun q5 => yes ?_) (fun q5 => no ?_)))
    · exact .inr (.inr (by rw [q4]; rfl))
    · have b := i_lt.mp q3
      have d : ¬ c.toInt = 95 := fun z => q4 (i_eq.mpr (z.trans e4.symm))
      unfold LET
      omega
    · have b := mt i_lt.mpr q3
      have d := i_le.mp q4
      exact .inr (.inl ⟨by omega, by omega⟩)
    · exact .inr (.inr (by rw [q5]; rfl))
    · have b := mt i_le.mpr q4
      have d : ¬ c.toInt = 95 := fun z => q5 (i_eq.mpr (z.trans e4.symm))
      unfold LET
      omega
  · have a := mt i_lt.mpr q
    have b := i_le.mp q2
    exact .inl ⟨by omega, by omega⟩
  · have a := mt i_lt.mpr q
    have b := mt i_le.mpr q2
    refine PP.ite (fun q3 => PP.ite (fun q4 => yes ?_) (fun q4 => no ?_)) (fun q3 => PP.ite (fun q4 => yes ?_) (fun q4 => PP.ite (fun q5 => yes ?_) (fun q5 => no ?_)))
    · exact .inr (.inr (by rw [q4]; rfl))
    · have b := i_lt.mp q3
      omega
    · have d := i_le.mp q4
      omega
    · exact .inr (.inr (by rw [q5]; rfl))
    · have d : ¬ c.toInt = 95 := fun z => q5 (i_eq.mpr (z.trans e4.symm))
      unfold LET
      omega
theorem mp_isInner {fu : Nat} (c : Int32) (F : PF) (G : PG) : PP (mf_isInner fu c F G) (fun r F' G' => F = F' ∧ G = G' ∧ YN r (DIG c ∨ LET c)) := by
  unfold mf_isInner mb_isInner_0
  refine PP.bind (mp_isLetter c F G) ?_
  rintro r _ _ ⟨rfl, rfl, q⟩
  dsimp only
  unfold mb_isInner_4 mb_isInner_14 mb_isInner_19
  refine PP.ite (fun z => ?_) (fun z => PP.bz (fun _ => PP.ret ⟨rfl, rfl, .inl ⟨rfl, .inr ?_⟩⟩))
  · unfold mb_isInner_7
    refine PP.bind (mp_isDigit c F G) ?_
    rintro r2 _ _ ⟨rfl, rfl, q2⟩
    dsimp only
    unfold mb_isInner_11 mb_isInner_14 mb_isInner_18 mb_isInner_19
    refine PP.ite (fun z2 => PP.bz (fun _ => PP.ret ⟨rfl, rfl, .inr ⟨rfl, ?_⟩⟩)) (fun z2 => PP.bz (fun _ => PP.ret ⟨rfl, rfl, .inl ⟨rfl, .inl ?_⟩⟩))
    · rintro (w | w)
      · exact q2.z.mp z2 w
      · exact q.z.mp z w
    · exact Classical.byContradiction (fun w => z2 (q2.z.mpr w))
  · exact Classical.byContradiction (fun w => z (q.z.mpr w))
theorem cp_isPart {fu : Nat} (c : Int32) (F : PF) (G : PG) : PP (cf_X10_isPart fu c F G) (fun r F' G' => F = F' ∧ G = G' ∧ YN r (DIG c ∨ LET c)) := by
  unfold cf_X10_isPart cb_X10_isPart_0
  refine PP.bind (cp_isDigit c F G) ?_
  rintro r _ _ ⟨rfl, rfl, q⟩
  dsimp only
  unfold cb_X10_isPart_4 cb_X10_isPart_7 cb_X10_isPart_13 cb_X10_isPart_19 cb_X10_isPart_25 cb_X10_isPart_31 cb_X10_isPart_37 cb_X10_isPart_41 cb_X10_isPart_42
  have e0 : (97 : Int32).toInt = 97 := rfl
  have e1 : (122 : Int32).toInt = 122 := rfl
  have e2 : (65 : Int32).toInt = 65 := rfl
  have e3 : (90 : Int32).toInt = 90 := rfl
  have e4 : (95 : Int32).toInt = 95 := rfl
  have yes : (DIG c ∨ LET c) → PP (if b01 1 = true then some (1, F, G) else none) (fun r F' G' => F = F' ∧ G = G' ∧ YN r (DIG c ∨ LET c)) := fun q => PP.bz (fun _ => PP.ret ⟨rfl, rfl, .inl ⟨rfl, q⟩⟩)
  have no : ¬ (DIG c ∨ LET c) → PP (if b01 0 = true then some (0, F, G) else none) (fun r F' G' => F = F' ∧ G = G' ∧ YN r (DIG c ∨ LET c)) := fun q => PP.bz (fun _ => PP.ret ⟨rfl, rfl, .inr ⟨rfl, q⟩⟩)
  refine PP.ite (fun z => ?_) (fun z => yes (.inl (Classical.byContradiction (fun w => z (q.z.mpr w)))))
  have nd := q.z.mp z
  refine PP.ite (fun q => ?_) (fun q => PP.ite (fun q2 => yes (.inr ?_)) (fun q2 => ?_))
  · have a := i_lt.mp q
    refine PP.ite (fun q3 => PP.ite (fun q4 => yes (.inr ?_)) (fun q4 => no (fun w => w.elim nd ?_))) (fun q3 => PP.ite (fun q4 => yes (.inr ?_)) (fun q4 => PP.ite (fun q5 => yes (.inr ?_)) (fun q5 => no (fun w => w.elim nd ?_))))
    · exact .inr (.inr (by rw [q4]; rfl))
    · have b := i_lt.mp q3
      have d : ¬ c.toInt = 95 := fun z => q4 (i_eq.mpr (z.trans e4.symm))
      unfold LET
      omega
    · have b := mt i_lt.mpr q3
      have d := i_le.mp q4
      exact .inr (.inl ⟨by omega, by omega⟩)
    · exact .inr (.inr (by rw [q5]; rfl))
    · have b := mt i_le.mpr q4
      have d : ¬ c.toInt = 95 := fun z => q5 (i_eq.mpr (z.trans e4.symm))
      unfold LET
      omega
  · have a := mt i_lt.mpr q
    have b := i_le.mp q2
    exact .inl ⟨by omega, by omega⟩
  · have a := mt i_lt.mpr q
    have b := mt i_le.mpr q2
    refine PP.ite (fun q3 => PP.ite (fun q4 => yes (.inr ?_)) (fun q4 => no (fun w => w.elim nd ?_))) (fun q3 => PP.ite (fun q4 => yes (.inr ?_)) (fun q4 => PP.ite (fun q5 => yes (.inr ?_)) (fun q5 => no (fun w => w.elim nd ?_))))
    · exact .inr (.inr (by rw [q4]; rfl))
    · have b := i_lt.mp q3
      omega
    · have d := i_le.mp q4
      omega
    · exact .inr (.inr (by rw [q5]; rfl))
    · have d : ¬ c.toInt = 95 := fun z => q5 (i_eq.mpr (z.trans e4.symm))
      unfold LET
      omega
theorem AC.chr {b : Nat → Int32} {n : Nat} {x r : Int32} (h : AC b n x r) (hb : ∀ i : Nat, n ≤ i → b i = 0) (hx : 0 ≤ x.toInt) : (DIG r ↔ DIG (b x.toInt.toNat)) ∧ (LET r ↔ LET (b x.toInt.toNat)) := by
  rcases h with ⟨q, -⟩ | ⟨-, -, q, -, -⟩ | ⟨q, e⟩
  · omega
  · rw [q]
    exact ⟨Iff.rfl, Iff.rfl⟩
  · rw [e, hb _ (by omega)]
    exact ⟨⟨fun z => absurd z (by unfold DIG; decide), fun z => absurd z (by unfold DIG; decide)⟩, ⟨fun z => absurd z (by unfold LET; decide), fun z => absurd z (by unfold LET; decide)⟩⟩
/-- behind the letters and digits from x on -/
def PEND (b : Nat → Int32) (x e : Nat) : Prop := x ≤ e ∧ (∀ i : Nat, x ≤ i → i < e → DIG (b i) ∨ LET (b i)) ∧ ¬ (DIG (b e) ∨ LET (b e))
theorem PEND.one {b : Nat → Int32} {x e f : Nat} (h : PEND b x e) (g : PEND b x f) : e = f := by
  rcases Nat.lt_trichotomy e f with q | q | q
  · exact absurd (g.2.1 e h.1 q) h.2.2
  · exact q
  · exact absurd (h.2.1 f g.1 q) g.2.2
theorem nzb {b : Nat → Int32} {n : Nat} (hb : ∀ i : Nat, n ≤ i → b i = 0) {i : Nat} (h : DIG (b i) ∨ LET (b i)) : i < n := by
  rcases Nat.lt_or_ge i n with q | q
  · exact q
  · rw [hb i q] at h
    rcases h with h | h
    · exact absurd h (by unfold DIG; decide)
    · exact absurd h (by unfold LET; decide)
theorem cp_parts {fu : Nat} {b : Nat → Int32} {n : Nat} {Fc Fm : PF} {Gc Gm : PG} (h : BT b n Fc Gc Fm Gm) : ∀ (k : Nat) (x : Int32), 0 ≤ x.toInt → x.toInt ≤ n → PP (cl_X10_behindParts_2 fu k x Fc Gc) (fun r F' G' => Fc = F' ∧ Gc = G' ∧ 0 ≤ r.toInt ∧ r.toInt ≤ n ∧ PEND b x.toInt.toNat r.toInt.toNat) := by
  obtain ⟨h0, h1, h2, h3, h4⟩ := id h
  intro k
  induction k with
  | zero => intro x _ _; exact PP.no
  | succ k ih =>
    intro x hx0 hx1
    show PP (cb_X10_behindParts_2 fu (cl_X10_behindParts_2 fu k) x Fc Gc) _
    unfold cb_X10_behindParts_2 cb_X10_behindParts_13 cb_X10_behindParts_33
    refine PP.ite (fun c => PP.ret ⟨rfl, rfl, hx0, hx1, Nat.le_refl _, fun i a d => absurd d (by omega), fun z => ?_⟩) (fun c => ?_)
    · have := i_le.mp c
      have := nzb h4 z
      omega
    · have c1 := mt i_le.mpr c
      refine PP.bind (cp_at h x) ?_
      rintro a _ _ ⟨rfl, rfl, ha⟩
      dsimp only
      unfold cb_X10_behindParts_21
      refine PP.bind (cp_isPart a Fc Gc) ?_
      rintro r _ _ ⟨rfl, rfl, hr⟩
      dsimp only
      have al := ha.chr h4 hx0
      have hr := hr.mp (show (DIG a ∨ LET a) ↔ (DIG (b x.toInt.toNat) ∨ LET (b x.toInt.toNat)) from or_congr al.1 al.2)
      unfold cb_X10_behindParts_24 cb_X10_behindParts_27 cb_X10_behindParts_33
      refine PP.ite (fun z => PP.ret ⟨rfl, rfl, hx0, hx1, Nat.le_refl _, fun i a d => absurd d (by omega), hr.z.mp z⟩) (fun z => ?_)
      have ex : (x + 1).toInt = x.toInt + 1 := i_addn x rfl (by omega) (by omega)
      refine PP.mono (ih (x + 1) (by omega) (by omega)) ?_
      rintro r F' G' ⟨f1, f2, f3, f4, f5, f6, f7⟩
      refine ⟨f1, f2, f3, f4, by omega, fun i i0 i1 => ?_, f7⟩
      rcases Nat.lt_or_ge x.toInt.toNat i with q | q
      · exact f6 i (by omega) i1
      · have : i = x.toInt.toNat := by omega
        rw [this]
        exact Classical.byContradiction (fun w => z (hr.z.mpr w))
theorem mp_parts {fu : Nat} {b : Nat → Int32} {n : Nat} {Fc Fm : PF} {Gc Gm : PG} (h : BT b n Fc Gc Fm Gm) (x1 : Int32) (Q : Int32 → PF → PG → Prop) : ∀ (k : Nat) (x : Int32), 0 ≤ x.toInt → x.toInt ≤ n → (∀ r : Int32, 0 ≤ r.toInt → r.toInt ≤ n → PEND b x.toInt.toNat r.toInt.toNat → PP (mb_wordToken_19 fu x1 r Fm Gm) Q) → PP (ml_wordToken_2 fu k x1 x Fm Gm) Q := by
  obtain ⟨h0, h1, h2, h3, h4⟩ := id h
  intro k
  induction k with
  | zero => intro x _ _ _; exact PP.no
  | succ k ih =>
    intro x hx0 hx1 hQ
    show PP (mb_wordToken_2 fu (ml_wordToken_2 fu k) x1 x Fm Gm) _
    unfold mb_wordToken_2
    refine PP.bind (mp_at h x hx0) ?_
    rintro m _ _ ⟨rfl, rfl, hm⟩
    dsimp only
    unfold mb_wordToken_7
    refine PP.bind (mp_isInner m Fm Gm) ?_
    rintro r _ _ ⟨rfl, rfl, hr⟩
    dsimp only
    rw [hm] at hr
    unfold mb_wordToken_10 mb_wordToken_13
    refine PP.ite (fun z => hQ x hx0 hx1 ⟨Nat.le_refl _, fun i a d => absurd d (by omega), hr.z.mp z⟩) (fun z => ?_)
    have hi : DIG (b x.toInt.toNat) ∨ LET (b x.toInt.toNat) := Classical.byContradiction (fun w => z (hr.z.mpr w))
    have hn := nzb h4 hi
    have ex : (x + 1).toInt = x.toInt + 1 := i_addn x rfl (by omega) (by omega)
    refine ih (x + 1) (by omega) (by omega) (fun r r0 r1 p => hQ r r0 r1 ⟨?_, fun i i0 i1 => ?_, p.2.2⟩)
    · have := p.1
      omega
    · rcases Nat.lt_or_ge x.toInt.toNat i with q | q
      · exact p.2.1 i (by omega) i1
      · have : i = x.toInt.toNat := by omega
        rw [this]
        exact hi
