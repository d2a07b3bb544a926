/-- a token comes to the list of each side -/
def addC (F : PF) (G : PG) (k v p : Int32) (F' : PF) (G' : PG) : Prop := F' = fup F 93 (F 93 + 1) ∧ G' = gup (gup (gup G 90 (F 93).toNatClampNeg k) 91 (F 93).toNatClampNeg v) 92 (F 93).toNatClampNeg p
def addM (F : PF) (G : PG) (k v p : Int32) (F' : PF) (G' : PG) : Prop := F' = fup F 7 (F 7 + 1) ∧ G' = gup (gup (gup G 4 (F 7).toNatClampNeg k) 5 (F 7).toNatClampNeg v) 6 (F 7).toNatClampNeg p
theorem cp_add {fu : Nat} (k v p : Int32) (F : PF) (G : PG) (h : (F 93).toInt < 4001) : PP (cf_X10_add fu k v p F G) (fun _ F' G' => addC F G k v p F' G') := by
  unfold cf_X10_add cb_X10_add_0
  have e : (4001 : Int32).toInt = 4001 := rfl
  refine PP.ite (fun c => ?_) (fun c => ?_)
  · have := i_le.mp c
    omega
  · unfold cb_X10_add_10
    refine PP.ix (fun _ => ?_)
    unfold cb_X10_add_20
    refine PP.ix (fun _ => ?_)
    unfold cb_X10_add_30 cb_X10_add_40 cb_X10_add_50
    exact PP.ix (fun _ => PP.ret ⟨rfl, rfl⟩)
theorem mp_token {fu : Nat} (k v p : Int32) (F : PF) (G : PG) : PP (mf_token fu k v p F G) (fun _ F' G' => addM F G k v p F' G') := by
  unfold mf_token mb_token_0
  refine PP.ix (fun _ => ?_)
  unfold mb_token_10
  refine PP.ix (fun _ => ?_)
  unfold mb_token_20 mb_token_30 mb_token_40
  exact PP.ix (fun _ => PP.ret ⟨rfl, rfl⟩)
def nvA (b : Nat → Int32) (f : Nat) (base : Int64) : Nat → Int64
  | 0 => 0
  | i + 1 => nvA b f base i * base + (dv (b (f + i))).toInt64
def HEXA (b : Nat → Int32) (x : Nat) : Prop := b x = 48 ∧ b (x + 1) = 120
/-- number at x, digits from f on, behind it e -/
def NUM (b : Nat → Int32) (f e lim : Nat) (base : Int64) (ok : Int32 → Prop) (v : Int64) : Prop := f + 1 ≤ e ∧ e ≤ f + lim ∧ (∀ i : Nat, f ≤ i → i < e → ok (b i)) ∧ v = nvA b f base (e - f) ∧ v ≤ 4294967295
theorem lg_le0 (x y : Int64) : lg_cmp x y ≤ (0 : Int32) ↔ x ≤ y := by
  unfold lg_cmp
  simp only [gt_iff_lt, Int64.lt_iff_toInt_lt, Int64.le_iff_toInt_le, ← Int64.toInt_inj]
  by_cases a : y.toInt < x.toInt
  · rw [if_pos a]
    exact ⟨fun q => absurd q (by decide), fun q => by omega⟩
  · rw [if_neg a]
    by_cases d : x.toInt = y.toInt
    · rw [if_pos d]
      exact ⟨fun _ => by omega, fun _ => by decide⟩
    · rw [if_neg d]
      exact ⟨fun _ => by omega, fun _ => by decide⟩
theorem lg_gt0 (x y : Int64) : (0 : Int32) < lg_cmp x y ↔ ¬ x ≤ y := by
  rw [← lg_le0]
  rw [i_lt, i_le]
  have : (0 : Int32).toInt = 0 := rfl
  omega
theorem cp_digits {fu : Nat} {b : Nat → Int32} {n : Nat} {Fc Fm : PF} {Gc Gm : PG} (h : BT b n Fc Gc Fm Gm) (h93 : (Fc 93).toInt < 4001) {x1 x2 x5 : Int32} {f e lim : Nat} {base : Int64} {ok : Int32 → Prop} (e2 : x2.toInt = e) (hf : f + 1 ≤ e) (hl : e ≤ f + lim) (he : e ≤ n) (eb : x5.toInt64 = base) (hok : ∀ c : Int32, (HX c ∧ (dv c).toInt < x5.toInt) ↔ ok c) (h16 : x5.toInt ≤ 16) : ∀ (k : Nat) (x7 : Int64) (x9 : Int32) (a : Nat), x9.toInt = ((f + a : Nat) : Int) → f + a ≤ e → (∀ i : Nat, f ≤ i → i < f + a → ok (b i)) → x7 = nvA b f base a → PP (cl_X10_behindNumber_103 fu k x1 x2 x5 x7 x9 Fc Gc) (fun r F' G' => (∃ v : Int64, NUM b f e lim base ok v ∧ r = x2 ∧ addC Fc Gc 3 v.toInt32 x1 F' G') ∨ ((∀ v : Int64, ¬ NUM b f e lim base ok v) ∧ r = -1 ∧ Fc = F' ∧ Gc = G')) := by
  obtain ⟨h0, h1, h2, h3, h4⟩ := id h
  intro k
  induction k with
  | zero => intro x7 x9 a _ _ _ _; exact PP.no
  | succ k ih =>
    intro x7 x9 a e9 a0 ha e7
    show PP (cb_X10_behindNumber_103 fu (cl_X10_behindNumber_103 fu k) x1 x2 x5 x7 x9 Fc Gc) _
    unfold cb_X10_behindNumber_103
    refine PP.ite (fun c => ?_) (fun c => ?_)
    · have c1 := i_le.mp c
      have ae : f + a = e := by omega
      unfold cb_X10_behindNumber_150 cb_X10_behindNumber_159
      rw [ae] at ha
      have e7' : x7 = nvA b f base (e - f) := by rw [e7, show e - f = a by omega]
      refine PP.ite (fun z => ?_) (fun z => PP.ret (.inr ⟨fun v q => z ?_, rfl, rfl, rfl⟩))
      · unfold cb_X10_behindNumber_161 cb_X10_behindNumber_170
        refine PP.bind (cp_add 3 x7.toInt32 x1 Fc Gc h93) (fun r F' G' q => PP.ret (.inl ⟨x7, ⟨hf, hl, ha, e7', (lg_le0 _ _).mp z⟩, rfl, q⟩))
      · have q5 := q.2.2.2.2
        rw [q.2.2.2.1, ← e7'] at q5
        exact (lg_le0 _ _).mpr q5
    · have c1 := mt i_le.mpr c
      unfold cb_X10_behindNumber_109
      refine PP.bind (cp_at h x9) ?_
      rintro r _ _ ⟨rfl, rfl, hr⟩
      dsimp only
      have er : r = b (f + a) := by
        rcases hr with ⟨q, -⟩ | ⟨-, -, q, -⟩ | ⟨q, -⟩
        · omega
        · rw [q, e9]
          rfl
        · omega
      unfold cb_X10_behindNumber_118
      refine PP.bind (cp_digitOf r Fc Gc) ?_
      rintro d _ _ ⟨rfl, rfl, hd⟩
      dsimp only
      rw [er] at hd
      unfold cb_X10_behindNumber_121 cb_X10_behindNumber_130
      refine PP.ite (fun z => ?_) (fun z => PP.ret (.inr ⟨fun v q => z ?_, rfl, rfl, rfl⟩))
      · have z1 := i_lt.mp z
        rcases hd with ⟨u, w⟩ | ⟨u, w⟩
        · have okc : ok (b (f + a)) := (hok _).mp ⟨u, by rw [← w]; exact z1⟩
          have e91 : (x9 + 1).toInt = x9.toInt + 1 := i_addn x9 rfl (by omega) (by omega)
          unfold cb_X10_behindNumber_132
          refine ih _ (x9 + 1) (a + 1) (by omega) (by omega) (fun i i0 i1 => ?_) ?_
          · rcases Nat.lt_or_ge i (f + a) with q | q
            · exact ha i i0 q
            · rw [show i = f + a by omega]
              exact okc
          · rw [e7, w, eb]
            rfl
        · rw [w] at z1
          have : (16 : Int32).toInt = 16 := rfl
          omega
      · have okc := (hok _).mpr (q.2.2.1 (f + a) (by omega) (by omega))
        rcases hd with ⟨u, w⟩ | ⟨u, w⟩
        · exact i_lt.mpr (by rw [w]; exact okc.2)
        · exact absurd okc.1 u
