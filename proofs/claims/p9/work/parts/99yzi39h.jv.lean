section JVH
variable {fu : Nat} {X : JCX} {p : Int32} {N K n q nf t c f : Nat} {cid pl x1 r : Int32} {F Fc Fm : PF} {G Gc Gm : PG}
/-- a function's name is not told yet, for both -/
theorem jTF (a : jSA K q nf Fc Gc Fm Gm) (e : jSE X.2.1 X.2.2.1 K q t Fc Gc Fm Gm) (nn : nf ≤ 449) (h0 : Fm 15 = 0) (hf : f < nf) (h25 : Gm 25 f = Gm 5 x1.toNatClampNeg) (h26 : Gm 26 f = Gm 6 x1.toNatClampNeg) (hr : jLa (Gc 33) (q + t) (Gm 5 x1.toNatClampNeg) r) : ¬ jTw nf t x1 Fm Gm ↔ ∃ jj : Nat, jj < q + t ∧ r = nI jj ∧ Gc 35 jj = 4 ∧ Gc 37 jj = nI f := by
  obtain ⟨a1, a2, a3, a4, a5⟩ := a
  obtain ⟨e1, e2, e3, e4, e5, e6⟩ := e
  have z0 : (0 : Int32).toInt = 0 := rfl
  have mo : ∀ a b : Nat, a < nf → b < nf → (Gm 26 a).toInt < (Gm 26 b).toInt → a < b := by
    intro a b ha hb h
    rcases Nat.lt_trichotomy a b with w | w | w
    · exact w
    · rw [w] at h
      omega
    · have := a3 b a w ha
      omega
  refine ⟨fun h => ?_, fun h => ?_⟩
  · obtain ⟨j0, j1, j2⟩ := a5 f hf
    rcases hr with ⟨r1, r2⟩ | ⟨jj, r1, r2, r3, r4⟩
    · exact absurd (j2.trans h25) (r2 j0 (by omega))
    · rcases Nat.lt_or_ge jj q with w | w
      · obtain ⟨b1, b2, f1, f2, f3, f4, f5, f6⟩ := a4 jj w
        have ff : f1 = f := by
          rcases Nat.lt_trichotomy f1 f with y | y | y
          · exact absurd (.inr ⟨h0, f1, f2, f4.symm.trans r3, by rw [← h26]; exact a3 f1 f y hf⟩) h
          · exact y
          · exact absurd (h25.trans (r3.symm.trans f4)) (f6 f y)
        exact ⟨jj, r1, r2, b1, by rw [f3, ff]⟩
      · obtain ⟨w1, w2, w3, w4, w5, w6⟩ := e6 (jj - q) (by omega)
        rw [show q + (jj - q) = jj by omega] at w1
        refine absurd (.inl ⟨jj - q, by omega, ?_, w1.symm.trans r3⟩) h
        refine i_eq.mpr ?_
        have := w5.1
        have := w5.2
        rw [h0, z0] at *
        omega
  · obtain ⟨jj, j1, j2, j3, j4⟩ := h
    have jq : jj < q := by
      rcases Nat.lt_or_ge jj q with w | w
      · exact w
      · obtain ⟨-, -, -, -, -, w6⟩ := e6 (jj - q) (by omega)
        rw [show q + (jj - q) = jj by omega] at w6
        exact absurd j3 w6.no4
    obtain ⟨b1, b2, f1, f2, f3, f4, f5, f6⟩ := a4 jj jq
    have ff : f1 = f := nI_ij (f3.symm.trans j4) (by omega) (by omega)
    subst ff
    rcases hr with ⟨r1, r2⟩ | ⟨j', r1, r2, r3, r4⟩
    · rw [r1] at j2
      exact absurd j2.symm (nI_n1 (by omega))
    · have ej : j' = jj := nI_ij (r2.symm.trans j2) (by omega) (by omega)
      subst ej
      rintro (⟨k, k1, k2, k3⟩ | ⟨-, g, g1, g2, g3⟩)
      · exact r4 (q + k) (by omega) (by omega) ((e6 k k1).1.trans k3)
      · rw [← h26] at g3
        exact f6 g (mo g f1 g1 f2 g3) (g2.trans h25.symm)
/-- what the class says of a function's name -/
theorem cp_tellF (hf : f < 4001) (kn : jKn K c cid pl r F G) : PP (cf_X5_tellFunction fu cid pl (nI f) F G) (fun _ F1 G1 => G = G1 ∧ KX [43, 44, 47] [] F G F1 G1 ∧ ((∃ jj : Nat, jj < c ∧ r = nI jj ∧ G 35 jj = 4 ∧ G 37 jj = nI f) → f < 40 → F = F1) ∧ (¬ (∃ jj : Nat, jj < c ∧ r = nI jj ∧ G 35 jj = 4 ∧ G 37 jj = nI f) ∨ 40 ≤ f → (F1 43).toInt ≤ 4000)) := by
  obtain ⟨⟨k1, k2⟩, ⟨k3, k4⟩, k5, k6, k7, k8⟩ := kn
  have fI : (nI f).toInt = f := nI_toInt (by omega)
  have l4 : (40 : Int32).toInt = 40 := rfl
  -- behind the name
  have t33 : PP (cb_X5_tellFunction_33 fu pl (nI f) F G) (fun _ F1 G1 => G = G1 ∧ KX [43, 44, 47] [] F G F1 G1 ∧ (f < 40 → F = F1) ∧ (40 ≤ f → (F1 43).toInt ≤ 4000)) := by
    unfold cb_X5_tellFunction_33
    refine PP.ite (fun z => ?_) (fun z => ?_)
    · have := i_lt.mp z
      exact PP.ret ⟨rfl, KX.rf, fun _ => rfl, fun y => by omega⟩
    · unfold cb_X5_tellFunction_39
      refine PP.bind (cp_note 8 pl (by decide) (by decide) F G) ?_
      rintro r1 F1 G1 ⟨rfl, w1, -, w2⟩
      refine PP.ret ⟨rfl, w1, fun y => absurd (i_lt.mpr (by omega)) z, fun _ => w2 k5 k8⟩
  have t27 : PP (cb_X5_tellFunction_27 fu pl (nI f) F G) (fun _ F1 G1 => G = G1 ∧ KX [43, 44, 47] [] F G F1 G1 ∧ (F1 43).toInt ≤ 4000) := by
    unfold cb_X5_tellFunction_27
    refine PP.bind (cp_note 1 pl (by decide) (by decide) F G) ?_
    rintro r1 F1 G1 ⟨rfl, w1, -, w2⟩
    dsimp only
    have h43 := w2 k5 k8
    unfold cb_X5_tellFunction_33
    refine PP.ite (fun _ => PP.ret ⟨rfl, w1, h43⟩) (fun _ => ?_)
    unfold cb_X5_tellFunction_39
    refine PP.bind (cp_note 8 pl (by decide) (by decide) F1 G) ?_
    rintro r2 F2 G2 ⟨rfl, w3, -, w4⟩
    exact PP.ret ⟨rfl, KX.tr w1 w3 rfl rfl, w4 (by rw [w1.1 45 rfl]; exact k5) k8⟩
  have no : ∀ (h : ¬ ∃ jj : Nat, jj < c ∧ r = nI jj ∧ G 35 jj = 4 ∧ G 37 jj = nI f), PP (cb_X5_tellFunction_27 fu pl (nI f) F G) (fun _ F1 G1 => G = G1 ∧ KX [43, 44, 47] [] F G F1 G1 ∧ ((∃ jj : Nat, jj < c ∧ r = nI jj ∧ G 35 jj = 4 ∧ G 37 jj = nI f) → f < 40 → F = F1) ∧ (¬ (∃ jj : Nat, jj < c ∧ r = nI jj ∧ G 35 jj = 4 ∧ G 37 jj = nI f) ∨ 40 ≤ f → (F1 43).toInt ≤ 4000)) := fun h => PP.mono t27 (fun _ F1 G1 w => ⟨w.1, w.2.1, fun y => absurd y h, fun _ => w.2.2⟩)
  unfold cf_X5_tellFunction cb_X5_tellFunction_0
  refine PP.bind (cp_known cid k6 k3 k4) ?_
  rintro r1 _ _ ⟨rfl, rfl, la⟩
  obtain rfl := la.one k7
  dsimp only
  unfold cb_X5_tellFunction_5
  refine PP.bind (cp_kind r1 F G) ?_
  rintro r2 _ _ ⟨rfl, rfl, v1, v2⟩
  dsimp only
  rcases k7 with ⟨z, z1⟩ | ⟨jj, z1, z2, -⟩
  · unfold cb_X5_tellFunction_13
    rw [if_neg (by rw [v1 z]; decide)]
    refine no ?_
    rintro ⟨jj, y1, y2, -⟩
    rw [z] at y2
    exact absurd y2.symm (nI_n1 (by omega))
  · have ek := v2 jj c k1 (by omega) z1 z2
    have only : ∀ j' : Nat, j' < c → r1 = nI j' → j' = jj := fun j' y1 y2 => nI_ij (y2.symm.trans z2) (by omega) (by omega)
    unfold cb_X5_tellFunction_13
    by_cases c4 : r2 = 4
    · rw [if_pos c4]
      unfold cb_X5_tellFunction_17
      refine PP.bind (cp_value r1 F G) ?_
      rintro r3 _ _ ⟨rfl, rfl, v3⟩
      dsimp only
      have ev := v3 jj c k1 (by omega) z1 z2
      unfold cb_X5_tellFunction_23
      by_cases c5 : r3 = nI f
      · rw [if_pos c5]
        have yes : ∃ jj : Nat, jj < c ∧ r1 = nI jj ∧ G 35 jj = 4 ∧ G 37 jj = nI f := ⟨jj, z1, z2, by rw [← ek]; exact c4, by rw [← ev]; exact c5⟩
        refine PP.mono t33 (fun _ F1 G1 w => ⟨w.1, w.2.1, fun _ y => w.2.2.1 y, fun y => ?_⟩)
        rcases y with y | y
        · exact absurd yes y
        · exact w.2.2.2 y
      · rw [if_neg c5]
        refine no ?_
        rintro ⟨j', y1, y2, y3, y4⟩
        rw [only j' y1 y2, ← ev] at y4
        exact c5 y4
    · rw [if_neg c4]
      refine no ?_
      rintro ⟨j', y1, y2, y3, -⟩
      rw [only j' y1 y2, ← ek] at y3
      exact c4 y3
end JVH
