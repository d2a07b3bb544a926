/-- both twins answer: what they answer is so -/
def JP (a b : PR) (Q : Int32 → PF → PG → Int32 → PF → PG → Prop) : Prop := ∀ (r1 : Int32) (F1 : PF) (G1 : PG) (r2 : Int32) (F2 : PF) (G2 : PG), a = some (r1, F1, G1) → b = some (r2, F2, G2) → Q r1 F1 G1 r2 F2 G2
section JP1
variable {a b : PR} {f g : Int32 × PF × PG → PR} {Q Q1 : Int32 → PF → PG → Int32 → PF → PG → Prop} {V V1 : Int32 → PF → PG → Prop}
theorem JP.ret {r1 r2 : Int32} {F1 F2 : PF} {G1 G2 : PG} (h : Q r1 F1 G1 r2 F2 G2) : JP (some (r1, F1, G1)) (some (r2, F2, G2)) Q := by
  intro s1 E1 H1 s2 E2 H2 e1 e2
  have e1 := Option.some.inj e1
  have e2 := Option.some.inj e2
  cases e1
  cases e2
  exact h
theorem JP.noL : JP none b Q := by
  intro s1 E1 H1 s2 E2 H2 e1 e2
  cases e1
theorem JP.noR : JP a none Q := by
  intro s1 E1 H1 s2 E2 H2 e1 e2
  cases e2
theorem JP.pp (h : PP a V) (k : PP b V1) (m : ∀ (r1 : Int32) (F1 : PF) (G1 : PG) (r2 : Int32) (F2 : PF) (G2 : PG), V r1 F1 G1 → V1 r2 F2 G2 → Q r1 F1 G1 r2 F2 G2) : JP a b Q := fun r1 F1 G1 r2 F2 G2 e1 e2 => m r1 F1 G1 r2 F2 G2 (h r1 F1 G1 e1) (k r2 F2 G2 e2)
theorem JP.mono (h : JP a b Q1) (m : ∀ (r1 : Int32) (F1 : PF) (G1 : PG) (r2 : Int32) (F2 : PF) (G2 : PG), Q1 r1 F1 G1 r2 F2 G2 → Q r1 F1 G1 r2 F2 G2) : JP a b Q := fun r1 F1 G1 r2 F2 G2 e1 e2 => m r1 F1 G1 r2 F2 G2 (h r1 F1 G1 r2 F2 G2 e1 e2)
theorem JP.L (h : PP a V) (k : ∀ (r : Int32) (F : PF) (G : PG), V r F G → JP (f (r, F, G)) b Q) : JP (a.bind f) b Q := by
  intro s1 E1 H1 s2 E2 H2 e1 e2
  obtain ⟨q, e3, e4⟩ := bind_elim e1
  obtain ⟨r, F, G⟩ := q
  exact k r F G (h r F G e3) s1 E1 H1 s2 E2 H2 e4 e2
theorem JP.R (h : PP b V) (k : ∀ (r : Int32) (F : PF) (G : PG), V r F G → JP a (g (r, F, G)) Q) : JP a (b.bind g) Q := by
  intro s1 E1 H1 s2 E2 H2 e1 e2
  obtain ⟨q, e3, e4⟩ := bind_elim e2
  obtain ⟨r, F, G⟩ := q
  exact k r F G (h r F G e3) s1 E1 H1 s2 E2 H2 e1 e4
theorem JP.both (h : JP a b Q1) (k : ∀ (r1 : Int32) (F1 : PF) (G1 : PG) (r2 : Int32) (F2 : PF) (G2 : PG), Q1 r1 F1 G1 r2 F2 G2 → JP (f (r1, F1, G1)) (g (r2, F2, G2)) Q) : JP (a.bind f) (b.bind g) Q := by
  intro s1 E1 H1 s2 E2 H2 e1 e2
  obtain ⟨q, e3, e4⟩ := bind_elim e1
  obtain ⟨p, e5, e6⟩ := bind_elim e2
  obtain ⟨r1, F1, G1⟩ := q
  obtain ⟨r2, F2, G2⟩ := p
  exact k r1 F1 G1 r2 F2 G2 (h r1 F1 G1 r2 F2 G2 e3 e5) s1 E1 H1 s2 E2 H2 e4 e6
theorem JP.iteL {c : Prop} [Decidable c] {A B : PR} (h1 : c → JP A b Q) (h2 : ¬ c → JP B b Q) : JP (if c then A else B) b Q := by
  by_cases h : c
  · rw [if_pos h]
    exact h1 h
  · rw [if_neg h]
    exact h2 h
theorem JP.iteR {c : Prop} [Decidable c] {A B : PR} (h1 : c → JP a A Q) (h2 : ¬ c → JP a B Q) : JP a (if c then A else B) Q := by
  by_cases h : c
  · rw [if_pos h]
    exact h1 h
  · rw [if_neg h]
    exact h2 h
theorem JP.ixL {i : Int32} {n : Nat} {A : PR} (k : vp_in i n → JP A b Q) : JP (if ixb i n = true then A else none) b Q := by
  intro s1 E1 H1 s2 E2 H2 e1 e2
  obtain ⟨h, e1⟩ := ix_elim e1
  exact k h s1 E1 H1 s2 E2 H2 e1 e2
theorem JP.ixR {i : Int32} {n : Nat} {A : PR} (k : vp_in i n → JP a A Q) : JP a (if ixb i n = true then A else none) Q := by
  intro s1 E1 H1 s2 E2 H2 e1 e2
  obtain ⟨h, e2⟩ := ix_elim e2
  exact k h s1 E1 H1 s2 E2 H2 e1 e2
theorem JP.bzL {v : Int32} {A : PR} (k : (v = 0 ∨ v = 1) → JP A b Q) : JP (if b01 v = true then A else none) b Q := by
  intro s1 E1 H1 s2 E2 H2 e1 e2
  obtain ⟨h, e1⟩ := b01_elim e1
  exact k h s1 E1 H1 s2 E2 H2 e1 e2
theorem JP.bzR {v : Int32} {A : PR} (k : (v = 0 ∨ v = 1) → JP a A Q) : JP a (if b01 v = true then A else none) Q := by
  intro s1 E1 H1 s2 E2 H2 e1 e2
  obtain ⟨h, e2⟩ := b01_elim e2
  exact k h s1 E1 H1 s2 E2 H2 e1 e2
end JP1
/-- a fault that the reference has told or found stays -/
def MFS (F F1 : PF) : Prop := (F1 44 = 0 → F 44 = 0) ∧ (F1 47 = 0 → F 47 = 0) ∧ F1 8 = F 8 ∧ F1 46 = F 46
theorem MFS.rf {F : PF} : MFS F F := ⟨id, id, rfl, rfl⟩
theorem MFS.tr {F F1 F2 : PF} (h : MFS F F1) (h1 : MFS F1 F2) : MFS F F2 := ⟨fun q => h.1 (h1.1 q), fun q => h.2.1 (h1.2.1 q), h1.2.2.1.trans h.2.2.1, h1.2.2.2.trans h.2.2.2⟩
theorem MFS.f {F F1 : PF} {k : Nat} {x : Int32} (e : (k == 44 || k == 47 || k == 8 || k == 46) = false) (h : MFS F F1) : MFS F (fup F1 k x) := by
  have e1 : 44 ≠ k := fun q => by rw [← q] at e; cases e
  have e2 : 47 ≠ k := fun q => by rw [← q] at e; cases e
  have e3 : 8 ≠ k := fun q => by rw [← q] at e; cases e
  have e4 : 46 ≠ k := fun q => by rw [← q] at e; cases e
  unfold MFS
  rw [fup_n e1, fup_n e2, fup_n e3, fup_n e4]
  exact h
theorem MFS.kx {a b : List Nat} {F F1 : PF} {G G1 : PG} (h : KX a b F G F1 G1) (e1 : a.contains 44 = false) (e2 : a.contains 47 = false) (e3 : a.contains 8 = false) (e4 : a.contains 46 = false) : MFS F F1 := by
  unfold MFS
  rw [h.1 44 e1, h.1 47 e2, h.1 8 e3, h.1 46 e4]
  exact ⟨id, id, rfl, rfl⟩
def nqI (rc : RC) : Prop := ∀ (i : Nat) (x y : Int32) (F : PF) (G : PG), PP (rc i x y F G) (fun _ F1 _ => MFS F F1)
theorem FLT.mq {F F' : PF} {G G' : PG} (h : FLT F F' G G') : MFS F F' := by
  obtain ⟨h0, -, h1⟩ := h
  refine ⟨fun q => ?_, fun q => (h1.1 47 rfl).symm.trans q, h1.1 8 rfl, h1.1 46 rfl⟩
  rw [q] at h0
  exact absurd h0 (by decide)
theorem nq_fails {fu : Nat} (k : Int32) (hk : 0 < k.toInt) (F : PF) (G : PG) : PP (mf_fails fu k F G) (fun _ F' _ => MFS F F') := PP.mono (mp_fails k hk F G) (fun _ F1 _ q => q.2.mq)
theorem nq_nt {F F' : PF} {G G' : PG} (h : KX [47, 48, 49] [] F G F' G' ∧ G = G' ∧ (¬ F 46 = 0 → 0 < (F' 47).toInt) ∧ (F 46 = 0 → F = F')) : MFS F F' := by
  obtain ⟨h1, -, h3, h4⟩ := h
  refine ⟨fun q => (h1.1 44 rfl).symm.trans q, fun q => ?_, h1.1 8 rfl, h1.1 46 rfl⟩
  by_cases c : F 46 = 0
  · rw [h4 c]
    exact q
  · have := h3 c
    rw [q] at this
    exact absurd this (by decide)
theorem nq_note {fu : Nat} (k p : Int32) (hk : 0 < k.toInt) (F : PF) (G : PG) : PP (mf_note fu k p F G) (fun _ F' _ => MFS F F') := PP.mono (mp_note k p hk F G) (fun _ F1 _ q => nq_nt q)
theorem nq_noteAs {fu : Nat} (k p o : Int32) (hk : 0 < k.toInt) (F : PF) (G : PG) : PP (mf_noteAs fu k p o F G) (fun _ F' _ => MFS F F') := PP.mono (mp_noteAs k p o hk F G) (fun _ F1 _ q => nq_nt q)
