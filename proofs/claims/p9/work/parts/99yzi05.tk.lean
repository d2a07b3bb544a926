theorem cq_char {fu i : Nat} {x : Int32} {F : PF} {G : PG} {f : Int32 × PF × PG → PR} {Q : Int32 → PF → PG → Prop} {j : Nat} (h : x.toInt = j) (hj : j < 2 ^ 31) (k : PP (f (chS i (nI j), F, G)) Q) : PP ((cf_J0_charAt_5068e fu i x F G).bind f) Q := by
  refine PP.bind (Q1 := fun r F' G' => r = chS i (nI j) ∧ F = F' ∧ G = G') ?_ (fun r F' G' e => ?_)
  · unfold cf_J0_charAt_5068e
    exact PP.lt (fun _ => PP.ix (fun _ => PP.ret ⟨chS_at h hj, rfl, rfl⟩))
  · obtain ⟨rfl, rfl, rfl⟩ := e
    exact k
def CMW (b : Nat → Int32) (x m w : Nat) : Prop := (m = 8 ∨ chS 2 (nI (8 * w + m)) = 32) ∧ ∀ j : Nat, j < m → chS 2 (nI (8 * w + j)) = b (x + j)
theorem words2 : ∀ w : Nat, w < 15 → stW (w + 1) ≤ stW w + 9 ∧ stW w + 1 < stW (w + 1) ∧ (∀ j : Nat, j < 8 → stW w + j + 1 < stW (w + 1) → chS 2 (nI (8 * w + j)) = chS 1 (nI (stW w + j)) ∧ ¬ chS 2 (nI (8 * w + j)) = 32) ∧ (∀ j : Nat, j < 8 → stW (w + 1) ≤ stW w + j + 1 → chS 2 (nI (8 * w + j)) = 32) := by decide +kernel
theorem CMW.iff {b : Nat → Int32} {x m w : Nat} (hw : w < 15) (hm : m ≤ 8) (hb : ∀ j : Nat, j < m → ¬ b (x + j) = 32) : CMW b x m w ↔ MWD b 1 stW x m w := by
  obtain ⟨l, l0, a, c⟩ := words2 w hw
  constructor
  · rintro ⟨u, v⟩
    have e : stW w + m + 1 = stW (w + 1) := by
      rcases Nat.lt_trichotomy (stW w + m + 1) (stW (w + 1)) with q | q | q
      · rcases u with u | u
        · omega
        · exact absurd u (a m (by omega) q).2
      · exact q
      · -- the text would have a blank
        have hj : stW (w + 1) - stW w - 1 < m := by omega
        have z := c (stW (w + 1) - stW w - 1) (by omega) (by omega)
        rw [v _ hj] at z
        exact absurd z (hb _ hj)
    exact ⟨e, fun j hj => by rw [← (a j (by omega) (by omega)).1]; exact v j hj⟩
  · rintro ⟨e, v⟩
    refine ⟨?_, fun j hj => by rw [(a j (by omega) (by omega)).1]; exact v j hj⟩
    by_cases q : m = 8
    · exact .inl q
    · exact .inr (c m (by omega) (by omega))
theorem cp_word {fu : Nat} {b : Nat → Int32} {n : Nat} {Fc Fm : PF} {Gc Gm : PG} (h : BT b n Fc Gc Fm Gm) {x1 x2 : Int32} {x m : Nat} (ex : x1.toInt = x) (em : x2.toInt = m) (hx : x + m ≤ n) (hb : ∀ j : Nat, j < m → ¬ b (x + j) = 32) : PP (cf_X10_wordAt fu x1 x2 Fc Gc) (fun r F' G' => Fc = F' ∧ Gc = G' ∧ ((∃ w : Nat, w < 15 ∧ r = nI (4 + w) ∧ MWD b 1 stW x m w ∧ ∀ v : Nat, v < w → ¬ MWD b 1 stW x m v) ∨ (r = -1 ∧ ∀ v : Nat, v < 15 → ¬ MWD b 1 stW x m v))) := by
  obtain ⟨h0, h1, h2, h3, h4⟩ := id h
  unfold cf_X10_wordAt cb_X10_wordAt_0
  have l18 : (18 : Int32).toInt = 18 := rfl
  have l8 : (8 : Int32).toInt = 8 := rfl
  have main : ∀ (k w : Nat) (x3 : Int32), w ≤ 15 → x3 = nI (4 + w) → (∀ v : Nat, v < w → ¬ MWD b 1 stW x m v) → PP (cl_X10_wordAt_2 fu k x1 x2 x3 Fc Gc) (fun r F' G' => Fc = F' ∧ Gc = G' ∧ ((∃ w : Nat, w < 15 ∧ r = nI (4 + w) ∧ MWD b 1 stW x m w ∧ ∀ v : Nat, v < w → ¬ MWD b 1 stW x m v) ∨ (r = -1 ∧ ∀ v : Nat, v < 15 → ¬ MWD b 1 stW x m v))) := by
    intro k
    induction k with
    | zero => intro w x3 _ _ _; exact PP.no
    | succ k ih =>
      intro w x3 w0 e3 hv
      have e3i : x3.toInt = 4 + w := by rw [e3, nI_toInt (by omega)]; omega
      show PP (cb_X10_wordAt_2 fu (cl_X10_wordAt_2 fu k) x1 x2 x3 Fc Gc) _
      unfold cb_X10_wordAt_2 cb_X10_wordAt_113
      refine PP.ite (fun c => PP.ret ⟨rfl, rfl, .inr ⟨rfl, ?_⟩⟩) (fun c => ?_)
      · have := i_lt.mp c
        rw [show (15 : Nat) = w by omega]
        exact hv
      have c1 := mt i_lt.mpr c
      unfold cb_X10_wordAt_8 cb_X10_wordAt_113
      refine PP.ite (fun d => PP.ret ⟨rfl, rfl, .inr ⟨rfl, fun v hv2 z => ?_⟩⟩) (fun d => ?_)
      · have d1 := i_lt.mp d
        have := (words2 v hv2).1
        have := z.1
        omega
      have d1 := mt i_lt.mpr d
      have wl : w < 15 := by omega
      have e4 : ((x3 - (4 : Int32)) * (8 : Int32)).toInt = ((8 * w : Nat) : Int) := by
        have a1 : (x3 - (4 : Int32)).toInt = x3.toInt - 4 := i_subn x3 rfl (by omega) (by omega)
        have a2 := i_muln (x3 - (4 : Int32)) (n := 8) (m := 8) rfl (by omega) (by omega)
        omega
      unfold cb_X10_wordAt_14
      generalize (x3 - (4 : Int32)) * (8 : Int32) = x4 at e4
      have no : ¬ CMW b x m w → PP (cb_X10_wordAt_107 fu (cl_X10_wordAt_2 fu k) x1 x2 x3 Fc Gc) (fun r F' G' => Fc = F' ∧ Gc = G' ∧ ((∃ w : Nat, w < 15 ∧ r = nI (4 + w) ∧ MWD b 1 stW x m w ∧ ∀ v : Nat, v < w → ¬ MWD b 1 stW x m v) ∨ (r = -1 ∧ ∀ v : Nat, v < 15 → ¬ MWD b 1 stW x m v))) := by
        intro z
        unfold cb_X10_wordAt_107
        refine ih (w + 1) (x3 + 1) (by omega) (i_eq.mpr (by have e5 : (x3 + 1).toInt = x3.toInt + 1 := i_addn x3 rfl (by omega) (by omega); rw [nI_toInt (by omega)]; omega)) (fun v hv2 => ?_)
        rcases Nat.lt_or_ge v w with q | q
        · exact hv v q
        · rw [show v = w by omega]
          exact fun t => z ((CMW.iff wl (by omega) hb).mpr t)
      have cmp : ∀ (k2 : Nat) (x5 x6 : Int32) (a : Nat), x6.toInt = a → a ≤ m → ((x5 = 1 ∧ (m = 8 ∨ chS 2 (nI (8 * w + m)) = 32) ∧ ∀ j : Nat, j < a → chS 2 (nI (8 * w + j)) = b (x + j)) ∨ (x5 = 0 ∧ ¬ CMW b x m w)) → PP (cl_X10_wordAt_52 fu (cl_X10_wordAt_2 fu k) k2 x1 x2 x3 x4 x5 x6 Fc Gc) (fun r F' G' => Fc = F' ∧ Gc = G' ∧ ((∃ w : Nat, w < 15 ∧ r = nI (4 + w) ∧ MWD b 1 stW x m w ∧ ∀ v : Nat, v < w → ¬ MWD b 1 stW x m v) ∨ (r = -1 ∧ ∀ v : Nat, v < 15 → ¬ MWD b 1 stW x m v))) := by
        intro k2
        induction k2 with
        | zero => intro x5 x6 a _ _ _; exact PP.no
        | succ k2 ih2 =>
          intro x5 x6 a e6 a0 ha
          show PP (cb_X10_wordAt_52 fu (cl_X10_wordAt_2 fu k) (cl_X10_wordAt_52 fu (cl_X10_wordAt_2 fu k) k2) x1 x2 x3 x4 x5 x6 Fc Gc) _
          unfold cb_X10_wordAt_52
          refine PP.ite (fun c => ?_) (fun c => ?_)
          · have c1 := i_le.mp c
            have am : a = m := by omega
            unfold cb_X10_wordAt_100
            rcases ha with ⟨a5, a6, a7⟩ | ⟨a5, a6⟩
            · rw [if_neg (show ¬ x5 = 0 by rw [a5]; decide)]
              unfold cb_X10_wordAt_105
              rw [am] at a7
              exact PP.ret ⟨rfl, rfl, .inl ⟨w, wl, e3, (CMW.iff wl (by omega) hb).mp ⟨a6, a7⟩, hv⟩⟩
            · rw [if_pos a5]
              exact no a6
          · have c1 := mt i_le.mpr c
            unfold cb_X10_wordAt_58
            rcases ha with ⟨a5, a6, a7⟩ | ⟨a5, a6⟩
            · rw [if_neg (show ¬ x5 = 0 by rw [a5]; decide)]
              unfold cb_X10_wordAt_63
              have e46 : (x4 + x6).toInt = ((8 * w + a : Nat) : Int) := by
                have e : (x4 + x6).toInt = x4.toInt + x6.toInt := i_addn x4 rfl (by omega) (by omega)
                omega
              have e16 : (x1 + x6).toInt = ((x + a : Nat) : Int) := by
                have e : (x1 + x6).toInt = x1.toInt + x6.toInt := i_addn x1 rfl (by omega) (by omega)
                omega
              refine cq_char e46 (by omega) ?_
              show PP (cb_X10_wordAt_73 fu (cl_X10_wordAt_2 fu k) (cl_X10_wordAt_52 fu (cl_X10_wordAt_2 fu k) k2) x1 x2 x3 x4 x6 (chS 2 (nI (8 * w + a))) Fc Gc) _
              unfold cb_X10_wordAt_73
              refine PP.bind (cp_at h (x1 + x6)) ?_
              rintro r _ _ ⟨rfl, rfl, hr⟩
              dsimp only
              have er : r = b (x + a) := by
                rcases hr with ⟨q, -⟩ | ⟨-, -, q, -⟩ | ⟨q, -⟩
                · omega
                · rw [q, show (x1 + x6).toInt.toNat = x + a by omega]
                · omega
              have e61 : (x6 + 1).toInt = x6.toInt + 1 := i_addn x6 rfl (by omega) (by omega)
              unfold cb_X10_wordAt_84 cb_X10_wordAt_87 cb_X10_wordAt_91 cb_X10_wordAt_92
              refine PP.ite (fun z => ih2 1 (x6 + 1) (a + 1) (by omega) (by omega) (.inl ⟨rfl, a6, fun j hj => ?_⟩)) (fun z => ih2 0 (x6 + 1) (a + 1) (by omega) (by omega) (.inr ⟨rfl, fun t => z ?_⟩))
              · rcases Nat.lt_or_ge j a with q | q
                · exact a7 j q
                · rw [show j = a by omega, z, er]
              · rw [t.2 a (by omega), er]
            · rw [if_pos a5]
              unfold cb_X10_wordAt_100
              rw [if_pos a5]
              exact no a6
      refine PP.ite (fun z => ?_) (fun z => ?_)
      · unfold cb_X10_wordAt_42 cb_X10_wordAt_47
        have z1 := congrArg Int32.toInt z
        exact cmp fu 1 0 0 rfl (Nat.zero_le _) (.inl ⟨rfl, .inl (by omega), fun j hj => absurd hj (by omega)⟩)
      · have z1 : ¬ m = 8 := fun q => z (i_eq.mpr (by rw [em, q]; rfl))
        unfold cb_X10_wordAt_28
        have e42 : (x4 + x2).toInt = ((8 * w + m : Nat) : Int) := by
          have e : (x4 + x2).toInt = x4.toInt + x2.toInt := i_addn x4 rfl (by omega) (by omega)
          omega
        refine cq_char e42 (by omega) ?_
        show PP (cb_X10_wordAt_37 fu (cl_X10_wordAt_2 fu k) x1 x2 x3 x4 (chS 2 (nI (8 * w + m))) Fc Gc) _
        unfold cb_X10_wordAt_37 cb_X10_wordAt_42 cb_X10_wordAt_46 cb_X10_wordAt_47
        refine PP.ite (fun u => cmp fu 1 0 0 rfl (Nat.zero_le _) (.inl ⟨rfl, .inr u, fun j hj => absurd hj (by omega)⟩)) (fun u => cmp fu 0 0 0 rfl (Nat.zero_le _) (.inr ⟨rfl, fun t => ?_⟩))
        rcases t.1 with t | t
        · exact z1 t
        · exact u t
  exact main fu 0 4 (Nat.zero_le _) rfl (fun v hv => absurd hv (by omega))
