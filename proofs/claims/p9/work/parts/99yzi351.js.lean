/-- what an entry says, in the class and in the reference: kind, value, size, level; kind, cell, size, byte, local -/
def jEN (gl ll : JLY) (ck cv cz lv : Int32) (mk mc mz mb ml : Int32) : Prop :=
  (ck = 0 ∧ mk = 0 ∧ cv = mc ∧ ¬ mz = -1 ∧ mb = 0) ∨
  (ck = 1 ∧ mk = 1 ∧ mb = 0 ∧ ((lv = 0 ∧ ml = 0 ∧ ∃ p o : Nat, jAt gl p o (0, 1) ∧ mc = nI p ∧ cv = nI o) ∨ (¬ lv = 0 ∧ ml = 1 ∧ ∃ p o : Nat, jAt ll p o (0, 1) ∧ mc = nI p ∧ cv = nI (4 + o)))) ∨
  (∃ κ : Nat, (κ = 1 ∨ κ = 2) ∧ ck = nI (κ + 1) ∧ mk = 2 ∧ mb = nI (κ - 1) ∧
    ((¬ lv = 0 ∧ ml = 1 ∧ mz = -1 ∧ cz = 0 ∧ ∃ p o : Nat, jAt ll p o (κ + 2, 0) ∧ mc = nI p ∧ cv = nI (4 + o)) ∨
     (∃ n : Nat, 1 ≤ n ∧ n ≤ 500 ∧ mz = nI n ∧ cz = nI n ∧ ((lv = 0 ∧ ml = 0 ∧ ∃ p o : Nat, jAt gl p o (κ, n) ∧ mc = nI p ∧ cv = nI o) ∨ (¬ lv = 0 ∧ ml = 1 ∧ ∃ p o : Nat, jAt ll p o (κ, n) ∧ mc = nI p ∧ cv = nI (4 + o))))))
/-- the functions of both: q of them are announced in the class -/
def jSA (K q nf : Nat) (Fc : PF) (Gc : PG) (Fm : PF) (Gm : PG) : Prop :=
  (Fm 24).toInt = nf ∧ (∀ f : Nat, f < nf → 0 ≤ (Gm 25 f).toInt ∧ (Gm 25 f).toInt < K) ∧ (∀ f g : Nat, f < g → g < nf → (Gm 26 f).toInt < (Gm 26 g).toInt) ∧
  (∀ j : Nat, j < q → Gc 35 j = 4 ∧ Gc 34 j = 0 ∧ ∃ f : Nat, f < nf ∧ Gc 37 j = nI f ∧ Gc 33 j = Gm 25 f ∧ Gc 36 j = Gm 26 f ∧ ∀ g : Nat, g < f → ¬ Gm 25 g = Gm 25 f) ∧
  (∀ f : Nat, f < nf → ∃ j : Nat, j < q ∧ Gc 33 j = Gm 25 f)
/-- what is told, in both -/
def jSE (gl ll : JLY) (K q t : Nat) (Fc : PF) (Gc : PG) (Fm : PF) (Gm : PG) : Prop :=
  (Fm 14).toInt = t ∧ (Fc 41).toInt = (q : Int) + t ∧ q + t ≤ 690 ∧ Fc 42 = Fm 15 ∧ 0 ≤ (Fm 15).toInt ∧
  ∀ k : Nat, k < t → Gc 33 (q + k) = Gm 16 k ∧ Gc 34 (q + k) = Gm 19 k ∧ Gc 36 (q + k) = Gm 18 k ∧ (0 ≤ (Gm 16 k).toInt ∧ (Gm 16 k).toInt < K) ∧ (0 ≤ (Gm 19 k).toInt ∧ (Gm 19 k).toInt ≤ (Fm 15).toInt) ∧ jEN gl ll (Gc 35 (q + k)) (Gc 37 (q + k)) (Gc 38 (q + k)) (Gm 19 k) (Gm 17 k) (Gm 20 k) (Gm 21 k) (Gm 22 k) (Gm 23 k)
/-- nothing is told twice in a scope; scopes in order; functions of all told behind -/
def jSU (nf t : Nat) (Gm : PG) : Prop :=
  (∀ i j : Nat, i ≤ j → j < t → (Gm 19 i).toInt ≤ (Gm 19 j).toInt) ∧ (∀ i j : Nat, i < j → j < t → Gm 19 i = Gm 19 j → ¬ Gm 16 i = Gm 16 j) ∧ ∀ k : Nat, k < t → Gm 19 k = 0 → ∀ f : Nat, f < nf → Gm 25 f = Gm 16 k → (Gm 18 k).toInt < (Gm 26 f).toInt
/-- the last one of a name among the first c -/
def jLa (ids : Nat → Int32) (c : Nat) (id r : Int32) : Prop := (r = -1 ∧ ∀ j : Nat, j < c → ¬ ids j = id) ∨ ∃ j : Nat, j < c ∧ r = nI j ∧ ids j = id ∧ ∀ i : Nat, j < i → i < c → ¬ ids i = id
def jSL (K c : Nat) (Gc : PG) : Prop := K ≤ 1408 ∧ (∀ k : Nat, k < K → jLa (Gc 33) c (nI k) (Gc 40 k)) ∧ ∀ j : Nat, j < c → jLa (Gc 33) j (Gc 33 j) (Gc 39 j)
theorem jLa.one {ids : Nat → Int32} {c : Nat} {id r s : Int32} (h : jLa ids c id r) (k : jLa ids c id s) : r = s := by
  rcases h with ⟨h1, h2⟩ | ⟨i, h1, h2, h3, h4⟩
  · rcases k with ⟨k1, k2⟩ | ⟨j, k1, k2, k3, k4⟩
    · rw [h1, k1]
    · exact absurd k3 (h2 j k1)
  · rcases k with ⟨k1, k2⟩ | ⟨j, k1, k2, k3, k4⟩
    · exact absurd h3 (k2 i h1)
    · have e : i = j := by
        rcases Nat.lt_trichotomy i j with q | q | q
        · exact absurd k3 (h4 j q k1)
        · exact q
        · exact absurd h3 (k4 i q h1)
      rw [h2, k2, e]
/-- what a name means to the reference -/
def jMn (nf t : Nat) (Gm : PG) (id m f : Int32) : Prop :=
  (f = -1 ∧ ∃ k : Nat, k < t ∧ m = nI k ∧ Gm 16 k = id ∧ ∀ i : Nat, k < i → i < t → ¬ Gm 16 i = id) ∨
  (m = -1 ∧ (∀ i : Nat, i < t → ¬ Gm 16 i = id) ∧ ((f = -1 ∧ ∀ g : Nat, g < nf → ¬ Gm 25 g = id) ∨ ∃ g : Nat, g < nf ∧ f = nI g ∧ Gm 25 g = id ∧ ∀ i : Nat, i < g → ¬ Gm 25 i = id))
/-- what both mean is the same -/
def jSM (q nf t : Nat) (Gc Gm : PG) (sym m f : Int32) : Prop :=
  (sym = -1 ∧ m = -1 ∧ f = -1) ∨ (f = -1 ∧ ∃ k : Nat, k < t ∧ sym = nI (q + k) ∧ m = nI k) ∨ (m = -1 ∧ ∃ j g : Nat, j < q ∧ g < nf ∧ sym = nI j ∧ f = nI g ∧ Gc 37 j = nI g ∧ Gc 35 j = 4 ∧ Gc 34 j = 0)
theorem jSM.of {gl ll : JLY} {K q nf t : Nat} {Fc Fm : PF} {Gc Gm : PG} {id sym m f : Int32} (a : jSA K q nf Fc Gc Fm Gm) (e : jSE gl ll K q t Fc Gc Fm Gm) (h : jMn nf t Gm id m f) (s : jLa (Gc 33) (q + t) id sym) : jSM q nf t Gc Gm sym m f := by
  obtain ⟨a1, a2, a3, a4, a5⟩ := a
  obtain ⟨e1, e2, e3, e4, e5, e6⟩ := e
  rcases h with ⟨h1, k, h2, h3, h4, h5⟩ | ⟨h1, h2, h3⟩
  · refine .inr (.inl ⟨h1, k, h2, ?_, h3⟩)
    refine s.one (.inr ⟨q + k, by omega, rfl, (e6 k h2).1.trans h4, fun i i1 i2 => ?_⟩)
    have z := (e6 (i - q) (by omega)).1
    rw [show q + (i - q) = i by omega] at z
    rw [z]
    exact h5 (i - q) (by omega) (by omega)
  · have no : ∀ i : Nat, q ≤ i → i < q + t → ¬ Gc 33 i = id := fun i i1 i2 => by
      have z := (e6 (i - q) (by omega)).1
      rw [show q + (i - q) = i by omega] at z
      rw [z]
      exact h2 (i - q) (by omega)
    rcases h3 with ⟨h4, h5⟩ | ⟨g, h4, h5, h6, h7⟩
    · refine .inl ⟨s.one (.inl ⟨rfl, fun j hj => ?_⟩), h1, h4⟩
      rcases Nat.lt_or_ge j q with z | z
      · obtain ⟨-, -, f', f1, -, f3, -⟩ := a4 j z
        rw [f3]
        exact h5 f' f1
      · exact no j z hj
    · rcases s with ⟨s1, s2⟩ | ⟨j, s1, s2, s3, s4⟩
      · obtain ⟨j, j1, j2⟩ := a5 g h4
        exact absurd (j2.trans h6) (s2 j (by omega))
      · have jq : j < q := by
          rcases Nat.lt_or_ge j q with z | z
          · exact z
          · exact absurd s3 (no j z s1)
        obtain ⟨f0, f0', f', f1, f2, f3, f4, f5⟩ := a4 j jq
        have e : f' = g := by
          have z : Gm 25 f' = id := f3.symm.trans s3
          rcases Nat.lt_trichotomy f' g with y | y | y
          · exact absurd z (h7 f' y)
          · exact y
          · exact absurd (h6.trans z.symm) (f5 g y)
        exact .inr (.inr ⟨h1, j, g, jq, h4, s2, h5, by rw [← e]; exact f2, f0, f0'⟩)
theorem jnI {x : Int32} (h : 0 ≤ x.toInt) : nI x.toInt.toNat = x := i_eq.mpr (by rw [nI_toInt (show x.toInt.toNat < 2 ^ 31 by have := i_rng x; omega)]; omega)
/-- the reference looks for a name's function -/
theorem mp_mean85 {fu : Nat} {nf : Nat} {x1 x3 : Int32} {G : PG} (hn : nf ≤ 500) : ∀ (n : Nat) (x4 : Int32) (F : PF), x4.toInt < nf → -1 ≤ x4.toInt → (F 62 = -1 ∧ (∀ g : Nat, x4.toInt < g → g < nf → ¬ G 25 g = G 5 x1.toNatClampNeg) ∨ ∃ g : Nat, g < nf ∧ x4.toInt < g ∧ F 62 = nI g ∧ G 25 g = G 5 x1.toNatClampNeg ∧ ∀ i : Nat, x4.toInt < i → i < g → ¬ G 25 i = G 5 x1.toNatClampNeg) → PP (ml_meaning_85 fu n x1 x3 x4 F G) (fun r F' G' => ∃ F1 : PF, KX [62] [] F G F1 G ∧ (F1 62 = -1 ∧ (∀ g : Nat, g < nf → ¬ G 25 g = G 5 x1.toNatClampNeg) ∨ ∃ g : Nat, g < nf ∧ F1 62 = nI g ∧ G 25 g = G 5 x1.toNatClampNeg ∧ ∀ i : Nat, i < g → ¬ G 25 i = G 5 x1.toNatClampNeg) ∧ mb_meaning_118 fu x3 F1 G = some (r, F', G')) := by
  have l0 : (0 : Int32).toInt = 0 := rfl
  intro n
  induction n with
  | zero => intro x4 F h1 h2 h; exact PP.no
  | succ n ih =>
    intro x4 F h1 h2 h
    show PP (mb_meaning_85 fu (ml_meaning_85 fu n) x1 x3 x4 F G) _
    unfold mb_meaning_85
    refine PP.ite (fun c => ?_) (fun c => ?_)
    · intro r F' G' e
      have c := i_lt.mp c
      refine ⟨F, KX.rf, ?_, e⟩
      rcases h with ⟨q1, q2⟩ | ⟨g, q1, q2, q3, q4, q5⟩
      · exact .inl ⟨q1, fun g hg => q2 g (by omega) hg⟩
      · exact .inr ⟨g, q1, q3, q4, fun i hi => q5 i (by omega) hi⟩
    · have c0 := i_ge0 c
      have e := i_decn c0
      have en : x4.toNatClampNeg = x4.toInt.toNat := rfl
      unfold mb_meaning_90
      refine PP.ix (fun _ => PP.ix (fun _ => PP.ite (fun q => ?_) (fun q => ?_)))
      · unfold mb_meaning_106 mb_meaning_112
        intro r F' G' e1
        obtain ⟨F1, k1, k2, k3⟩ := ih (x4 + (-1)) (fup F 62 x4) (by rw [e]; omega) (by rw [e]; omega) (.inr ⟨x4.toInt.toNat, by omega, by rw [e]; omega, by rw [fup_s]; exact (jnI c0).symm, q, fun i i1 i2 => by rw [e] at i1; omega⟩) r F' G' e1
        exact ⟨F1, KX.tr (KX.f rfl KX.rf) k1 rfl rfl, k2, k3⟩
      · unfold mb_meaning_112
        refine ih (x4 + (-1)) F (by rw [e]; omega) (by rw [e]; omega) ?_
        rw [e]
        rcases h with ⟨q1, q2⟩ | ⟨g, q1, q2, q3, q4, q5⟩
        · refine .inl ⟨q1, fun g g1 g2 => ?_⟩
          by_cases z : (g : Int) = x4.toInt
          · rw [show g = x4.toInt.toNat by omega]
            exact q
          · exact q2 g (by omega) g2
        · refine .inr ⟨g, q1, by omega, q3, q4, fun i i1 i2 => ?_⟩
          by_cases z : (i : Int) = x4.toInt
          · rw [show i = x4.toInt.toNat by omega]
            exact q
          · exact q5 i (by omega) i2
