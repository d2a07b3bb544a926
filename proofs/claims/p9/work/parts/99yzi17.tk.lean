theorem cp_fill94 {fu : Nat} {v : Int32} : ∀ (k : Nat) (x : Int32) (F : PF) (G : PG), 0 ≤ x.toInt → (∀ i : Nat, (i : Int) < x.toInt → G 94 i = v) → PP (cl_fill_94_5 fu k v x 1024 F G) (fun _ F' G' => F = F' ∧ (∀ j : Nat, ¬ j = 94 → G' j = G j) ∧ ∀ i : Nat, i < 1024 → G' 94 i = v) := by
  have l : (1024 : Int32).toInt = 1024 := rfl
  intro k
  induction k with
  | zero => intro x F G _ _ r F' G' q; cases q
  | succ k ih =>
    intro x F G h0 h1
    show PP (cb_fill_94_5 fu (cl_fill_94_5 fu k) v x 1024 F G) _
    unfold cb_fill_94_5 cb_fill_94_20 cb_fill_94_10 cb_fill_94_14
    refine PP.ite (fun c => ?_) (fun c => PP.ix (fun _ => ?_))
    · have := i_le.mp c
      exact PP.ret ⟨rfl, fun _ _ => rfl, fun i hi => h1 i (by omega)⟩
    · have c1 := mt i_le.mpr c
      have ex : (x + 1).toInt = x.toInt + 1 := i_addn x rfl (by omega) (by omega)
      have ec : x.toNatClampNeg = x.toInt.toNat := rfl
      refine PP.mono (ih (x + 1) F (gup G 94 x.toNatClampNeg v) (by omega) (fun i hi => ?_)) ?_
      · by_cases q : i = x.toNatClampNeg
        · rw [q, gup_i]
        · rw [gup_x q]
          exact h1 i (by rw [ec] at q; omega)
      · rintro r F' G' ⟨q1, q2, q3⟩
        exact ⟨q1, fun j hj => by rw [q2 j hj, gup_o hj], q3⟩
theorem mp_cut17 {fu : Nat} : ∀ (k : Nat) (x : Int32) (F : PF) (G : PG) (res : Int32 × PF × PG), 0 ≤ x.toInt → (∀ i : Nat, (i : Int) < x.toInt → G 12 i = -1) → ml_cut_17 fu k x F G = some res → ∃ G' : PG, (∀ j : Nat, ¬ j = 12 → G' j = G j) ∧ (∀ i : Nat, i < 64 → G' 12 i = -1) ∧ mb_cut_36 fu F G' = some res := by
  have l : (64 : Int32).toInt = 64 := rfl
  intro k
  induction k with
  | zero => intro x F G res _ _ q; cases q
  | succ k ih =>
    intro x F G res h0 h1 e
    replace e : mb_cut_17 fu (ml_cut_17 fu k) x F G = some res := e
    unfold mb_cut_17 mb_cut_23 mb_cut_30 at e
    by_cases c : (64 : Int32) ≤ x
    · rw [if_pos c] at e
      have := i_le.mp c
      exact ⟨G, fun _ _ => rfl, fun i hi => h1 i (by omega), e⟩
    · rw [if_neg c] at e
      have c1 := mt i_le.mpr c
      by_cases d : ixb x 64 = true
      · rw [if_pos d] at e
        have ex : (x + 1).toInt = x.toInt + 1 := i_addn x rfl (by omega) (by omega)
        have ec : x.toNatClampNeg = x.toInt.toNat := rfl
        obtain ⟨G', q2, q3, q4⟩ := ih (x + 1) F (gup G 12 x.toNatClampNeg (-1)) res (by omega) (fun i hi => by
          by_cases q : i = x.toNatClampNeg
          · rw [q, gup_i]
          · rw [gup_x q]
            exact h1 i (by rw [ec] at q; omega)) e
        exact ⟨G', fun j hj => by rw [q2 j hj, gup_o hj], q3, q4⟩
      · rw [if_neg d] at e
        cases e
theorem chn_0 {M : Nat} {hs : Nat → Nat} {hd nx : Nat → Int} (h : ∀ i : Nat, i < M → hd i = -1) : CHN 0 M hs hd nx := by
  refine ⟨fun i hi => ?_, fun v hv => absurd hv (Nat.not_lt_zero _)⟩
  rw [h i hi]
  exact ⟨by omega, by omega, fun q => by omega, fun k hk => absurd hk (Nat.not_lt_zero _)⟩
/-- both sides cut the text into the same tokens -/
theorem same_scan {fu : Nat} {b : Nat → Int32} {n : Nat} {Fc Fm F1 F2 : PF} {Gc Gm G1 G2 : PG} {r1 r2 : Int32} (h : BT b n Fc Gc Fm Gm) (h1 : cf_X10_scan fu Fc Gc = some (r1, F1, G1)) (h2 : mf_cut fu Fm Gm = some (r2, F2, G2)) : ∃ (N K : Nat) (ps ls : Nat → Nat), SCE b n N K ps ls F1 G1 F2 G2 := by
  have l0 : (0 : Int32).toInt = 0 := rfl
  have l1 : (-1 : Int32).toInt = -1 := rfl
  unfold cf_X10_scan cb_X10_scan_0 cb_X10_scan_5 cb_X10_scan_10 cb_X10_scan_18 at h1
  obtain ⟨⟨q, Fq, Gq⟩, q1, h1⟩ := bind_elim h1
  unfold cf_fill_94 cb_fill_94_0 at q1
  obtain ⟨f1, f2, f3⟩ := cp_fill94 fu 0 _ _ (by omega) (fun i hi => by omega) q Fq Gq q1
  unfold mf_cut mb_cut_0 mb_cut_5 mb_cut_10 mb_cut_15 at h2
  obtain ⟨G', g2, g3, h2⟩ := mp_cut17 fu 0 _ _ _ (by omega) (fun i hi => by omega) h2
  dsimp only at h1
  unfold mb_cut_36 mb_cut_41 at h2
  rw [← f1] at h1
  refine same_scanL fu fu 0 0 (fun _ => 0) (fun _ => 0) 0 0 0 r1 r2 _ _ F1 F2 Gq G' G1 G2 ⟨?_, ⟨?_, ?_, fun i hi => absurd hi (Nat.not_lt_zero _)⟩, ⟨fun k hk => absurd hk (Nat.not_lt_zero _), fun i j _ hj => absurd hj (Nat.not_lt_zero _), fun i j _ hj => absurd hj (Nat.not_lt_zero _)⟩, ⟨?_, fun k hk => absurd hk (Nat.not_lt_zero _), chn_0 fun i hi => ?_⟩, ⟨?_, fun k hk => absurd hk (Nat.not_lt_zero _), chn_0 fun i hi => ?_⟩, Nat.le_refl _, Nat.zero_le _, fun k hk => absurd hk (Nat.not_lt_zero _)⟩ ⟨fun i hi => absurd hi (Nat.not_lt_zero _), fun i hi => absurd hi (Nat.succ_ne_zero _), fun i hi => absurd hi (Nat.not_lt_zero _)⟩ rfl (by omega) (by omega) ?_ h1 h2
  · refine h.keep ?_ (f2 87 (by decide)) ?_ (g2 1 (by decide))
    · rw [fup_n (by decide), fup_n (by decide)]
    · rw [fup_n (by decide), fup_n (by decide), fup_n (by decide)]
  · rw [fup_n (by decide), fup_s]
    rfl
  · rw [fup_n (by decide), fup_n (by decide), fup_s]
    rfl
  · rw [fup_s]
    rfl
  · rw [f3 i hi]
    rfl
  · rw [fup_n (by decide), fup_s]
    rfl
  · rw [g3 i hi]
    rfl
  · rw [fup_s]
