/-- if a pure twin answers, what it answers is so -/
def PP (o : PR) (Q : Int32 → PF → PG → Prop) : Prop := ∀ (r : Int32) (F : PF) (G : PG), o = some (r, F, G) → Q r F G
theorem PP.ret {r : Int32} {F : PF} {G : PG} {Q : Int32 → PF → PG → Prop} (h : Q r F G) : PP (some (r, F, G)) Q := by
  intro r1 F1 G1 e
  have e := Option.some.inj e
  cases e
  exact h
theorem PP.no {Q : Int32 → PF → PG → Prop} : PP none Q := by
  intro r1 F1 G1 e
  cases e
theorem PP.bind {o : PR} {f : Int32 × PF × PG → PR} {Q Q1 : Int32 → PF → PG → Prop} (h : PP o Q1) (k : ∀ (r : Int32) (F : PF) (G : PG), Q1 r F G → PP (f (r, F, G)) Q) : PP (o.bind f) Q := by
  intro r1 F1 G1 e
  obtain ⟨q, e1, e2⟩ := bind_elim e
  obtain ⟨r, F, G⟩ := q
  exact k r F G (h r F G e1) r1 F1 G1 e2
theorem PP.ite {c : Prop} [Decidable c] {A B : PR} {Q : Int32 → PF → PG → Prop} (h1 : c → PP A Q) (h2 : ¬ c → PP B Q) : PP (if c then A else B) Q := by
  by_cases h : c
  · rw [if_pos h]
    exact h1 h
  · rw [if_neg h]
    exact h2 h
theorem PP.ix {i : Int32} {n : Nat} {A : PR} {Q : Int32 → PF → PG → Prop} (k : vp_in i n → PP A Q) : PP (if ixb i n = true then A else none) Q := by
  intro r1 F1 G1 e
  obtain ⟨h, e⟩ := ix_elim e
  exact k h r1 F1 G1 e
theorem PP.bz {v : Int32} {A : PR} {Q : Int32 → PF → PG → Prop} (k : (v = 0 ∨ v = 1) → PP A Q) : PP (if b01 v = true then A else none) Q := by
  intro r1 F1 G1 e
  obtain ⟨h, e⟩ := b01_elim e
  exact k h r1 F1 G1 e
theorem PP.ch {v : Int32} {A : PR} {Q : Int32 → PF → PG → Prop} (k : PP A Q) : PP (if ch16 v = true then A else none) Q := by
  intro r1 F1 G1 e
  obtain ⟨h, e⟩ := ch16_elim e
  exact k r1 F1 G1 e
theorem PP.nz {β : Type} [DecidableEq β] {v w : β} {A : PR} {Q : Int32 → PF → PG → Prop} (k : ¬ v = w → PP A Q) : PP (if v = w then none else A) Q := by
  intro r1 F1 G1 e
  obtain ⟨h, e⟩ := nz_elim e
  exact k h r1 F1 G1 e
theorem PP.lt {i n : Nat} {A : PR} {Q : Int32 → PF → PG → Prop} (k : i < n → PP A Q) : PP (if i < n then A else none) Q := by
  intro r1 F1 G1 e
  obtain ⟨h, e⟩ := lt_elim e
  exact k h r1 F1 G1 e
theorem PP.mono {o : PR} {Q Q1 : Int32 → PF → PG → Prop} (h : PP o Q1) (k : ∀ (r : Int32) (F : PF) (G : PG), Q1 r F G → Q r F G) : PP o Q := fun r F G e => k r F G (h r F G e)
theorem PP.and {o : PR} {Q Q1 : Int32 → PF → PG → Prop} (h : PP o Q1) (k : PP o Q) : PP o (fun r F G => Q1 r F G ∧ Q r F G) := fun r F G e => ⟨h r F G e, k r F G e⟩
theorem WP.pp {o : PR} {Q Q1 : Int32 → PF → PG → Prop} (h : WP o Q) (k : PP o Q1) : WP o (fun r F G => Q1 r F G ∧ Q r F G) := by
  obtain ⟨r, F, G, e, h⟩ := h
  exact ⟨r, F, G, e, k r F G e, h⟩
/-- all but these fields and arrays are as they were -/
def KX (a b : List Nat) (F : PF) (G : PG) (F1 : PF) (G1 : PG) : Prop := (∀ k, a.contains k = false → F1 k = F k) ∧ ∀ k, b.contains k = false → G1 k = G k
theorem KX.rf {a b : List Nat} {F : PF} {G : PG} : KX a b F G F G := ⟨fun _ _ => rfl, fun _ _ => rfl⟩
theorem KX.f {a b : List Nat} {F F1 : PF} {G G1 : PG} {k : Nat} {x : Int32} (e : a.contains k = true) (h : KX a b F G F1 G1) : KX a b F G (fup F1 k x) G1 := by
  refine ⟨fun j hj => ?_, h.2⟩
  have : j ≠ k := fun q => by rw [q, e] at hj; cases hj
  exact Eq.trans (if_neg this) (h.1 j hj)
theorem KX.g {a b : List Nat} {F F1 : PF} {G G1 : PG} {k i : Nat} {x : Int32} (e : b.contains k = true) (h : KX a b F G F1 G1) : KX a b F G F1 (gup G1 k i x) := by
  refine ⟨h.1, fun j hj => ?_⟩
  have : j ≠ k := fun q => by rw [q, e] at hj; cases hj
  exact Eq.trans (if_neg this) (h.2 j hj)
theorem KX.tr {a b a1 b1 : List Nat} {F F1 F2 : PF} {G G1 G2 : PG} (h : KX a b F G F1 G1) (h1 : KX a1 b1 F1 G1 F2 G2) (e : a1.all a.contains = true) (e1 : b1.all b.contains = true) : KX a b F G F2 G2 := by
  refine ⟨fun k hk => ?_, fun k hk => ?_⟩
  · refine Eq.trans (h1.1 k ?_) (h.1 k hk)
    cases q : a1.contains k
    · rfl
    · have := List.all_eq_true.mp e k (List.contains_iff_mem.mp q)
      rw [hk] at this
      cases this
  · refine Eq.trans (h1.2 k ?_) (h.2 k hk)
    cases q : b1.contains k
    · rfl
    · have := List.all_eq_true.mp e1 k (List.contains_iff_mem.mp q)
      rw [hk] at this
      cases this
