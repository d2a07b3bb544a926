theorem nI_n1 {k : Nat} (h : k < 2 ^ 31) : ¬ nI k = (-1 : Int32) := fun z => by
  have := congrArg Int32.toInt z
  rw [nI_toInt h] at this
  have l1 : (-1 : Int32).toInt = -1 := rfl
  omega
theorem nI_ij {a b : Nat} (h : nI a = nI b) (ha : a < 2 ^ 31) (hb : b < 2 ^ 31) : a = b := by
  have := congrArg Int32.toInt h
  rw [nI_toInt ha, nI_toInt hb] at this
  omega
/-- what a name means is one thing -/
theorem jMn.one {nf t : Nat} {Gm : PG} {id m f m' f' : Int32} (h : jMn nf t Gm id m f) (k : jMn nf t Gm id m' f') : m = m' ∧ f = f' := by
  have L : ∀ {a b : Int32}, jMn nf t Gm id a b → jLa (Gm 16) t id a := by
    rintro a b (⟨-, k, k1, k2, k3, k4⟩ | ⟨k1, k2, -⟩)
    · exact .inr ⟨k, k1, k2, k3, k4⟩
    · exact .inl ⟨k1, k2⟩
  have em := (L h).one (L k)
  refine ⟨em, ?_⟩
  have fn : ∀ {a b a' b' : Int32}, jMn nf t Gm id a b → jMn nf t Gm id a' b' → (∃ k : Nat, k < t ∧ Gm 16 k = id) → b = -1 := by
    rintro a b a' b' (⟨z, -⟩ | ⟨-, z, -⟩) _ ⟨k, k1, k2⟩
    · exact z
    · exact absurd k2 (z k k1)
  by_cases c : ∃ k : Nat, k < t ∧ Gm 16 k = id
  · rw [fn h k c, fn k h c]
  · rcases h with ⟨-, k0, k1, -, k3, -⟩ | ⟨-, -, h⟩
    · exact absurd ⟨k0, k1, k3⟩ c
    · rcases k with ⟨-, k0, k1, -, k3, -⟩ | ⟨-, -, k⟩
      · exact absurd ⟨k0, k1, k3⟩ c
      · rcases h with ⟨h1, h2⟩ | ⟨g, h1, h2, h3, h4⟩
        · rcases k with ⟨k1, k2⟩ | ⟨g', k1, k2, k3, k4⟩
          · rw [h1, k1]
          · exact absurd k3 (h2 g' k1)
        · rcases k with ⟨k1, k2⟩ | ⟨g', k1, k2, k3, k4⟩
          · exact absurd h3 (k2 g h1)
          · rw [h2, k2]
            rcases Nat.lt_trichotomy g g' with y | y | y
            · exact absurd h3 (k4 g y)
            · rw [y]
            · exact absurd k3 (h4 g' y)
/-- from what the class knows -/
theorem jMn.of {gl ll : JLY} {K q nf t : Nat} {Fc Fm : PF} {Gc Gm : PG} {id sym : Int32} (a : jSA K q nf Fc Gc Fm Gm) (e : jSE gl ll K q t Fc Gc Fm Gm) (s : jLa (Gc 33) (q + t) id sym) : (sym = -1 ∧ jMn nf t Gm id (-1) (-1)) ∨ (∃ k : Nat, k < t ∧ sym = nI (q + k) ∧ jMn nf t Gm id (nI k) (-1)) ∨ ∃ j g : Nat, j < q ∧ g < nf ∧ sym = nI j ∧ jMn nf t Gm id (-1) (nI g) ∧ Gc 37 j = nI g ∧ Gc 35 j = 4 ∧ Gc 34 j = 0 := by
  obtain ⟨a1, a2, a3, a4, a5⟩ := a
  obtain ⟨e1, e2, e3, e4, e5, e6⟩ := e
  have nof : (∀ j : Nat, j < q → ¬ Gc 33 j = id) → ∀ g : Nat, g < nf → ¬ Gm 25 g = id := fun z g hg y => by
    obtain ⟨j, j1, j2⟩ := a5 g hg
    exact z j j1 (j2.trans y)
  rcases s with ⟨s1, s2⟩ | ⟨j, s1, s2, s3, s4⟩
  · refine .inl ⟨s1, .inr ⟨rfl, fun k hk z => s2 (q + k) (by omega) ((e6 k hk).1.trans z), .inl ⟨rfl, nof (fun j hj => s2 j (by omega))⟩⟩⟩
  · rcases Nat.lt_or_ge j q with c | c
    · obtain ⟨b1, b2, f, b3, b4, b5, b6, b7⟩ := a4 j c
      refine .inr (.inr ⟨j, f, c, b3, s2, .inr ⟨rfl, fun k hk z => s4 (q + k) (by omega) (by omega) ((e6 k hk).1.trans z), .inr ⟨f, b3, rfl, b5.symm.trans s3, fun i hi z => b7 i hi (z.trans (b5.symm.trans s3).symm)⟩⟩, b4, b1, b2⟩)
    · have ej : j = q + (j - q) := by omega
      refine .inr (.inl ⟨j - q, by omega, by rw [← ej]; exact s2, .inl ⟨rfl, j - q, by omega, rfl, ?_, fun i i1 i2 z => s4 (q + i) (by omega) (by omega) ((e6 i i2).1.trans z)⟩⟩)
      have := (e6 (j - q) (by omega)).1
      rw [← ej] at this
      exact this.symm.trans s3
theorem mp_meanX {fu nf t : Nat} (x1 : Int32) {F : PF} {G : PG} {m f : Int32} (u : jSU nf t G) (h14 : (F 14).toInt = t) (h24 : (F 24).toInt = nf) (ht : t ≤ 900) (hn : nf ≤ 500) (hm : jMn nf t G (G 5 x1.toNatClampNeg) m f) : PP (mf_meaning fu x1 F G) (fun r F' G' => G = G' ∧ KX [62] [] F G F' G' ∧ m = r ∧ F' 62 = f) := PP.mono (mp_mean x1 u h14 h24 ht hn) (fun r F' G' w => by
  obtain ⟨w1, w2, w3⟩ := w
  obtain ⟨o1, o2⟩ := jMn.one w3 hm
  exact ⟨w1, w2, o1.symm, o2⟩)
theorem JP.bR {a b : PR} {g : Int32 × PF × PG → PR} {Q Q1 : Int32 → PF → PG → Int32 → PF → PG → Prop} (h : JP a b Q1) (k : ∀ (r1 : Int32) (F1 : PF) (G1 : PG) (r2 : Int32) (F2 : PF) (G2 : PG), Q1 r1 F1 G1 r2 F2 G2 → PP (g (r2, F2, G2)) (fun r3 F3 G3 => Q r1 F1 G1 r3 F3 G3)) : JP a (b.bind g) Q := by
  intro s1 E1 H1 s2 E2 H2 e1 e2
  obtain ⟨q, e3, e4⟩ := bind_elim e2
  obtain ⟨r, F, G⟩ := q
  exact k s1 E1 H1 r F G (h s1 E1 H1 r F G e1 e3) s2 E2 H2 e4
theorem JP.bL {a b : PR} {g : Int32 × PF × PG → PR} {Q Q1 : Int32 → PF → PG → Int32 → PF → PG → Prop} (h : JP a b Q1) (k : ∀ (r1 : Int32) (F1 : PF) (G1 : PG) (r2 : Int32) (F2 : PF) (G2 : PG), Q1 r1 F1 G1 r2 F2 G2 → PP (g (r1, F1, G1)) (fun r3 F3 G3 => Q r3 F3 G3 r2 F2 G2)) : JP (a.bind g) b Q := by
  intro s1 E1 H1 s2 E2 H2 e1 e2
  obtain ⟨q, e3, e4⟩ := bind_elim e1
  obtain ⟨r, F, G⟩ := q
  exact k r F G s2 E2 H2 (h r F G s2 E2 H2 e3 e2) s1 E1 H1 e4
