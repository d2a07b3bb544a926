theorem bq_st (w : BitVec 32) (s : Nat) : ((w >>> (s + 8)) <<< 8) ||| ((w >>> s) &&& 255#32) = w >>> s := by
  apply BitVec.eq_of_getLsbD_eq
  intro i hi
  rw [BitVec.getLsbD_or, BitVec.getLsbD_shiftLeft, BitVec.getLsbD_and, BitVec.getLsbD_ushiftRight, BitVec.getLsbD_ushiftRight, bq_255 i hi]
  by_cases c : i < 8
  · generalize w.getLsbD (s + 8 + (i - 8)) = b1
    generalize w.getLsbD (s + i) = b2
    simp [c]
  · rw [show s + 8 + (i - 8) = s + i by omega]
    generalize w.getLsbD (s + i) = b2
    simp [c, hi]
theorem bq_sz (w : BitVec 32) : w >>> 32 = 0#32 := by
  apply BitVec.eq_of_getLsbD_eq
  intro i hi
  rw [BitVec.getLsbD_ushiftRight, BitVec.getLsbD_of_ge w (32 + i) (by omega), BitVec.getLsbD_zero]
theorem jBy_bv (w : Int32) (q : Nat) (h : q < 4) : (jBy w q).toBitVec = (w.toBitVec >>> (8 * q)) &&& 255#32 := by
  rcases (show q = 0 ∨ q = 1 ∨ q = 2 ∨ q = 3 by omega) with e | e | e | e <;> subst e <;> rfl
/-- where the upper bytes are 0 -/
theorem bq_up (w : Int32) : ∀ n k : Nat, k + n = 4 → (∀ j : Nat, k ≤ j → j < 4 → jBy w j = 0) → w.toBitVec >>> (8 * k) = 0#32 := by
  intro n
  induction n with
  | zero =>
    intro k hk _
    rw [show 8 * k = 32 by omega]
    exact bq_sz _
  | succ n ih =>
    intro k hk hz
    have i1 := ih (k + 1) (by omega) (fun j h1 h2 => hz j (by omega) h2)
    have b := hz k (Nat.le_refl k) (by omega)
    have e := bq_st w.toBitVec (8 * k)
    rw [show 8 * k + 8 = 8 * (k + 1) by omega, i1, ← jBy_bv w k (by omega), b] at e
    exact e.symm.trans (by decide)
theorem jCy_bv (v z : Int32) : ((v <<< ((8 : Int32) &&& 31)) ||| (z &&& 255)).toBitVec = (v.toBitVec <<< 8) ||| (z.toBitVec &&& 255#32) := rfl
/-- k bytes together are the word -/
theorem jCy_w (w : Int32) (ce : Nat → Int32) (q : Nat) : ∀ (k : Nat) (v : Int32), k ≤ 4 → (∀ j : Nat, j < k → ce (q + j) = jBy w j) → v.toBitVec = w.toBitVec >>> (8 * k) → jCy ce q k v = w := by
  intro k
  induction k with
  | zero =>
    intro v _ _ hv
    have e : w.toBitVec >>> (8 * 0) = w.toBitVec := BitVec.ushiftRight_zero w.toBitVec
    exact Int32.toBitVec.inj (hv.trans e)
  | succ k ih =>
    intro v hk hc hv
    show jCy ce q k ((v <<< ((8 : Int32) &&& 31)) ||| (ce (q + k) &&& 255)) = w
    refine ih _ (by omega) (fun j hj => hc j (by omega)) ?_
    rw [hc k (by omega), jCy_bv, hv, jBy_bv w k (by omega), BitVec.and_assoc, BitVec.and_self, show 8 * (k + 1) = 8 * k + 8 by omega]
    exact bq_st _ _
section JQR
variable {fu m N : Nat} {x : Int32} {gl : JLY} {wd : Nat → Int32} {Fc Fm : PF} {Gc Gm : PG}
/-- the word that the reference gives -/
theorem mp_gl (hN : N = m + 5) (hw : jsW gl ≤ 2000) (hL : jL0 gl (Gm 38) (Gm 39) (Gm 40)) (hC : ∀ (p o : Nat) (y : Nat × Nat), jAt gl p o y → jC0 wd (if Fm 75 = 0 then Gm 41 else Gm 90) p o y) (hx : x.toNatClampNeg < jsW gl) : PP (ml_global_32 fu N x 0 (Gm 38 x.toNatClampNeg - 1) Fm Gm) (fun r _ _ => r = wd x.toNatClampNeg) := by
  obtain ⟨p, o, y, i, ha, hi, e⟩ := jAt.cov gl _ hx
  have le := ha.le
  have c4 := jsC_4 gl
  obtain ⟨l1, l2, l3⟩ := hL p o y ha i hi
  obtain ⟨k2, d0, d1, d2⟩ := hC p o y ha
  rw [← e] at l1 l2 l3
  by_cases c : y.1 = 2
  · rw [if_pos c] at l1 l2
    obtain ⟨d2, d3⟩ := d2 c
    have w : joW y = (y.2 + 3) / 4 := by
      unfold joW
      rw [if_neg (by omega), if_neg (by omega), if_pos c]
    have cc : joC y = y.2 := by
      unfold joC
      rw [if_neg (by omega), if_neg (by omega), if_pos c]
    have h40 : ¬ Gm 40 x.toNatClampNeg = 0 := fun z => l3.mp z c
    obtain ⟨k, ek, hk⟩ : ∃ k : Nat, min 4 (y.2 - 4 * i) = k ∧ ((k = 4 ∧ 4 ≤ y.2 - 4 * i) ∨ (k = y.2 - 4 * i ∧ y.2 - 4 * i ≤ 4)) := by
      rcases Nat.le_total 4 (y.2 - 4 * i) with q | q
      · exact ⟨4, Nat.min_eq_left q, .inl ⟨rfl, q⟩⟩
      · exact ⟨y.2 - 4 * i, Nat.min_eq_right q, .inr ⟨rfl, q⟩⟩
    rw [ek] at l2
    rw [l2]
    obtain ⟨t, ht⟩ : ∃ t : Nat, N = t + k + 1 := ⟨m + 4 - k, by omega⟩
    rw [ht]
    refine PP.mono (mg_by h40 l1 (by omega) k t 0 (by omega)) (fun r _ _ hr => ?_)
    rw [hr, e]
    refine jCy_w _ _ _ k 0 (by omega) (fun j hj => ?_) ?_
    · have q := d2 (4 * i + j) (by omega)
      rw [show (4 * i + j) / 4 = i by omega, show (4 * i + j) % 4 = j by omega, ← Nat.add_assoc] at q
      exact q
    · refine (bq_up (wd (o + i)) (4 - k) k (by omega) (fun j h1 h2 => ?_)).symm
      have q := d3 (4 * i + j) (by omega) (by omega)
      rw [show (4 * i + j) / 4 = i by omega, show (4 * i + j) % 4 = j by omega] at q
      exact q
  · rw [if_neg c] at l1 l2
    have h40 : Gm 40 x.toNatClampNeg = 0 := l3.mpr c
    have hq : p + i < 8000 ∧ (if Fm 75 = 0 then Gm 41 else Gm 90) (p + i) = wd (o + i) := by
      rcases (show y.1 = 0 ∨ y.1 = 1 by omega) with z | z
      · have w : joW y = 1 := by
          unfold joW
          rw [if_pos z]
        have cc : joC y = 1 := by
          unfold joC
          rw [if_pos z]
        rw [show i = 0 by omega]
        exact ⟨by omega, d0 z⟩
      · have w : joW y = y.2 := by
          unfold joW
          rw [if_neg (by omega), if_pos z]
        have cc : joC y = y.2 := by
          unfold joC
          rw [if_neg (by omega), if_pos z]
        exact ⟨by omega, d1 z i (by omega)⟩
    rw [l2, show nI 1 - 1 = 0 from rfl, show N = m + 3 + 2 by omega]
    refine PP.mono (mg_one (q := p + i) (m + 3) 0 h40 l1 hq.1) (fun r _ _ hr => ?_)
    rw [hr, e]
    exact hq.2
/-- global -/
theorem same_global (hfu : 8589934592 ≤ fu) (hB : jTHr Fc Gc Fm Gm) (hU : jU8 Fc Gc Fm Gm) : JP (cf_X11_global fu x Fc Gc) (mf_global fu x Fm Gm) (fun r1 _ _ r2 _ _ => r1 = r2) := by
  obtain ⟨m, hm⟩ : ∃ m : Nat, fu = m + 5 := ⟨fu - 5, by omega⟩
  clear hfu
  obtain ⟨e73, v73⟩ := hB.e73
  have n0 : (0 : Int32).toInt = 0 := rfl
  have n4 : (4000 : Int32).toInt = 4000 := rfl
  unfold cf_X11_global cb_X11_global_0 mf_global mb_global_0
  rw [e73]
  by_cases c0 : Fm 73 = 0
  · rw [if_pos c0, if_pos c0]
    unfold cb_X11_global_25 mb_global_19
    exact JP.ret rfl
  rw [if_neg c0, if_neg c0]
  obtain ⟨gl, K, nf, hx, b63, -, br⟩ := hU
  obtain ⟨⟨-, ⟨-, t2⟩, -⟩, f0, e36, e75, l0⟩ := hx (v73.resolve_left c0)
  unfold cb_X11_global_10 mb_global_7
  by_cases c1 : x < 0
  · rw [if_pos c1, if_pos c1]
    unfold cb_X11_global_25 mb_global_19
    exact JP.ret rfl
  rw [if_neg c1, if_neg c1]
  unfold cb_X11_global_14 mb_global_11
  rw [e36]
  by_cases c2 : x < Fc 75
  · rw [if_pos c2, if_pos c2]
    have k1 := mt i_lt.mpr c1
    have k2 := i_lt.mp c2
    have hn : (x.toNatClampNeg : Int) = x.toInt := by
      show ((x.toInt.toNat : Nat) : Int) = x.toInt
      omega
    unfold cb_X11_global_27 mb_global_21
    rw [b63]
    have hC : ∀ (p o : Nat) (y : Nat × Nat), jAt gl p o y → jC0 (if Fm 75 = 0 then Gc 86 else Gc 54) (if Fm 75 = 0 then Gm 41 else Gm 90) p o y := by
      intro p o y ha
      by_cases c3 : Fm 75 = 0
      · rw [if_pos c3, if_pos c3]
        exact f0.1 p o y ha
      · rcases br with ⟨z, -⟩ | br
        · exact absurd z c3
        · obtain ⟨-, -, -, ⟨H, hp, hi⟩, -⟩ := br
          have q := (f0.1 p o y ha).1
          obtain ⟨-, q0, q1, q2, -, -, q5⟩ := hp.2 0 p o y (Nat.le_refl 0) ((hi p o y).mpr ⟨by omega, ha⟩)
          rw [if_neg c3, if_neg c3]
          exact ⟨q, q0, q1, fun e => ⟨q2 e, q5 e⟩⟩
    have cl : PP (if Fm 75 = 0 then cb_X11_global_37 fu x Fc Gc else cb_X11_global_48 fu x Fc Gc) (fun r _ _ => r = (if Fm 75 = 0 then Gc 86 else Gc 54) x.toNatClampNeg) := by
      by_cases c3 : Fm 75 = 0
      · rw [if_pos c3, if_pos c3]
        unfold cb_X11_global_37
        refine PP.bind (cp_fW (a := x) (by omega) (by omega)) ?_
        rintro _ _ _ ⟨rfl, rfl, rfl⟩
        dsimp only
        unfold cb_X11_global_45 cb_X11_global_56
        exact PP.ret rfl
      · rw [if_neg c3, if_neg c3]
        unfold cb_X11_global_48 cf_X6_held cb_X6_held_0
        rw [if_neg c1]
        unfold cb_X6_held_4
        rw [if_pos (show x < 4000 from i_lt.mpr (by omega))]
        unfold cb_X6_held_15 cb_X6_held_21
        refine PP.bind (Q1 := fun r _ _ => r = Gc 54 x.toNatClampNeg) (PP.ix (fun _ => PP.ret rfl)) (fun r F G h => ?_)
        dsimp only
        unfold cb_X11_global_56
        exact PP.ret h
    refine JP.pp cl (PP.ix (fun _ => mp_gl hm t2 l0 hC (by omega))) ?_
    rintro r1 _ _ r2 _ _ h1 h2
    exact h1.trans h2.symm
  · rw [if_neg c2, if_neg c2]
    unfold cb_X11_global_25 mb_global_19
    exact JP.ret rfl
end JQR
