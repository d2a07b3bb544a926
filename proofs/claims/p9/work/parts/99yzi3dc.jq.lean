section JQC
variable {fu : Nat} {gl : JLY} {K : Nat → List Nat} {nf B WB : Nat} {Gc Gm : PG} {H : JHP} {F1 F2 F3 F4 : PF} {G1 G2 G3 G4 : PG} {n g a b : Nat} {mu : Nat → Nat} {A : JAN} {le : JLY} {cb wb t k : Nat} {s s0 s1 : SH} {l : JLY}
theorem jCt.i0 {ce wd : Nat → Int32} {j c w : Nat} (v : Int32) : jCt H (upd ce c v) (upd wd w v) j c w (0, 1) := ⟨fun _ => upd_s.trans upd_s.symm, fun z => absurd z (by decide), fun z => absurd z (by decide), fun z => absurd z (by decide), fun z => absurd z (by decide), fun z => absurd z (by decide)⟩
theorem jPd_put {wd : Nat → Int32} {w y N i : Nat} {v : Int32} (h : ∀ i : Nat, N ≤ i → i < 4 * joW (2, N) → jBy (wd (w + i / 4)) (i % 4) = 0) (hy : y < N) (hi : N ≤ i) (hj : i < 4 * joW (2, N)) : jBy (upd wd (w + y / 4) (jSb (wd (w + y / 4)) v (y % 4)) (w + i / 4)) (i % 4) = 0 := by
  have q4 := Nat.mod_lt y (show 0 < 4 by decide)
  have r4 := Nat.mod_lt i (show 0 < 4 by decide)
  by_cases e2 : i / 4 = y / 4
  · rw [e2, upd_s, jSb_ne _ _ _ _ q4 r4 (by omega), ← e2]
    exact h i hi hj
  · rw [upd_n (by omega)]
    exact h i hi hj
theorem jCt.z {ce wd ce1 wd1 : Nat → Int32} {j c w κ m : Nat} (hκ : κ = 1 ∨ κ = 2) : jCt H (jCl ce c m) (jCl wd w (joW (κ, m))) j c w (κ, m) := by
  have z1 : ∀ i : Nat, i < m → jCl ce c m (c + i) = 0 := fun i hi => if_pos ⟨by omega, by omega⟩
  have z2 : ∀ i : Nat, i < joW (κ, m) → jCl wd w (joW (κ, m)) (w + i) = 0 := fun i hi => if_pos ⟨by omega, by omega⟩
  rcases hκ with e | e <;> subst e
  · refine ⟨fun z => by simp at z, fun _ i hi => ?_, fun z => by simp at z, fun z => by simp at z, fun z => by simp at z, fun z => by simp at z⟩
    rw [z1 i hi, z2 i hi]
  · refine ⟨fun z => by simp at z, fun z => by simp at z, fun _ i hi => ?_, fun z => by simp at z, fun z => by simp at z, fun _ i hi hj => by rw [z2 (i / 4) (by omega), jBy_0 _ (Nat.mod_lt _ (by decide))]⟩
    have hi : i < m := hi
    rw [z1 i hi, z2 (i / 4) (by show i / 4 < (m + 3) / 4; omega), jBy_0 _ (Nat.mod_lt _ (by decide))]
/-- loads, stores, DROP, TWICE -/
theorem jq_b {w a1 b1 e1 : Int32} {c : Nat → Int32} {n1 : Nat} (R : jRc (jSS gl K nf B WB Gc Gm) gl H F1 G1 F2 G2 n g a b mu A le cb wb t k s l) (hx : jXn F1) (Z : jSt0 WB B Gc Gm F1 G1 G2) (h4 : t + s.length < 399000) (ec : c = fun j => Gc 5 (mu k + j)) (ew : w = Gm 56 k) (ea : a1 = Gm 57 k) (O : (w = 1 ∧ n1 = 2 ∧ s1 = 0 :: s ∧ c 0 = 70 ∧ ∃ p o : Nat, jAt l p o (0, 1) ∧ a1 = nI p ∧ c 1 = nI (4 + o)) ∨ (w = 2 ∧ n1 = 2 ∧ s = 0 :: s1 ∧ c 0 = 72 ∧ ∃ p o : Nat, jAt l p o (0, 1) ∧ a1 = nI p ∧ c 1 = nI (4 + o)) ∨ (w = 3 ∧ n1 = 2 ∧ s1 = 0 :: s ∧ c 0 = 69 ∧ ∃ p o : Nat, jAt gl p o (0, 1) ∧ a1 = nI p ∧ c 1 = nI o) ∨ (w = 4 ∧ n1 = 2 ∧ s = 0 :: s1 ∧ c 0 = 71 ∧ ∃ p o : Nat, jAt gl p o (0, 1) ∧ a1 = nI p ∧ c 1 = nI o) ∨ (w = 9 ∧ n1 = 1 ∧ c 0 = 67 ∧ ∃ (κ : Nat) (s0 : SH), (κ = 1 ∨ κ = 2) ∧ s = κ :: s0 ∧ s1 = κ :: κ :: s0) ∨ (w = 18 ∧ n1 = 1 ∧ c 0 = 68 ∧ s = 0 :: s1)) (an : jAn A (k + 1) s1 l) (em : mu (k + 1) = mu k + n1) : JP (cf_X6_step fu F1 G1) (mf_works fu F2 G2) (fun _ F3 G3 r F4 G4 => jO1 (jSS gl K nf B WB Gc Gm) gl F1 G1 F2 G2 F3 G3 r F4 G4) := by
  have Q := R.tl
  have M := R.mp Z
  have C := R.cp (w := n1) hx Z (by omega)
  have h8 := Q.2.2.1
  have hk : a ≤ k + 1 ∧ k + 1 ≤ b := ⟨by have := R.2.2.2.1.1; omega, R.2.2.2.1.2.1⟩
  have n6 := R.2.2.2.1.2.2.2
  have v := R.2.2.2.2.2.2.2.2.2.1
  have hp := R.2.2.2.2.2.2.2.2.2.2.1
  have e86 : F2 86 = nI cb := R.2.2.2.2.2.1.2.1
  have e58 : F1 58 = nI wb := R.2.2.2.2.2.2.1.1
  obtain ⟨⟨z5, -, -, -⟩, z56, z57, -, -⟩ := Z
  have c5 : ∀ j, G1 5 (mu k + j) = c j := fun j => by rw [z5, ec]
  have e56 : G2 56 k = w := by rw [z56, ew]
  have e57 : G2 57 k = a1 := by rw [z57, ea]
  rcases O with ⟨o1, rfl, rfl, o3, p, o, o4, o5, o6⟩ | ⟨o1, rfl, rfl, o3, p, o, o4, o5, o6⟩ | ⟨o1, rfl, rfl, o3, p, o, o4, o5, o6⟩ | ⟨o1, rfl, rfl, o3, p, o, o4, o5, o6⟩ | ⟨o1, rfl, o3, κ, s0, hκ, rfl, rfl⟩ | ⟨o1, rfl, o3, rfl⟩
  · obtain ⟨hh, u1, u2⟩ := R.ow (by decide) o4
    have u1 : cb + p + 1 ≤ 16000 := u1
    have u2 : wb + 4 + o + 1 ≤ 4000 := u2
    refine JP.pp (cq_ldl (a := 4 + o) C ((c5 0).trans o3) ((c5 1).trans o6) e58 (by omega)) (mq_ld (b := cb) (p := p) M (e56.trans o1)) ?_
    rintro _ F3 G3 r F4 G4 cc ⟨rr, mm⟩
    have mm := mm e86 (e57.trans o5) (by omega)
    rw [← em] at cc
    exact .inl ⟨rr, jRc.p1 (κ := 0) R cc mm rfl n6 v (by omega) (fun _ => by rw [show wb + (4 + o) = wb + 4 + o by omega]; exact hp.i0 (Nat.le_refl _) hh) (fun z => absurd z (by decide)) (fun z => absurd z (by decide)) h8 an hk h4, cc.1, mm.1⟩
  · obtain ⟨hh, u1, u2⟩ := R.ow (by decide) o4
    have u1 : cb + p + 1 ≤ 16000 := u1
    have u2 : wb + 4 + o + 1 ≤ 4000 := u2
    have y1 : 1 ≤ t + (0 :: s1 : SH).length := by show 1 ≤ t + (s1.length + 1); omega
    refine JP.pp (cq_stl (a := 4 + o) C y1 ((c5 0).trans o3) ((c5 1).trans o6) e58 (by omega)) (mq_sl (b := cb) (p := p) M (e56.trans o1)) ?_
    rintro _ F3 G3 r F4 G4 cc ⟨rr, mm⟩
    have mm := mm y1 e86 (e57.trans o5) (by omega)
    rw [← em] at cc
    obtain ⟨v1, v2, v3, -⟩ := v
    have a1e : G2 71 (t + (0 :: s1 : SH).length - 1) = G1 55 (t + (0 :: s1 : SH).length - 1) := v3 rfl
    rw [a1e] at mm
    rw [show wb + (4 + o) = wb + 4 + o by omega] at cc
    exact .inl ⟨rr, jRc.ps (x := (0, 1)) (s0 := s1) R cc mm rfl n6.tl v2 h8 an hk (Nat.le_refl _) hh (fun i hi => upd_n (by have hi : i < cb + p ∨ cb + p + 1 ≤ i := hi; omega)) (fun i hi => upd_n (by have hi : i < wb + 4 + o ∨ wb + 4 + o + 1 ≤ i := hi; omega)) (jCt.i0 _), cc.1, mm.1⟩
  · obtain ⟨hh, u1, u2⟩ := R.gw (by decide) o4
    have u1 : p + 1 ≤ 16000 := u1
    have u2 : o + 1 ≤ 2000 := u2
    refine JP.pp (cq_ldg (a := o) C ((c5 0).trans o3) ((c5 1).trans o6) (by omega)) (mq_lg (p := p) M (e56.trans o1)) ?_
    rintro _ F3 G3 r F4 G4 cc ⟨rr, mm⟩
    have mm := mm (e57.trans o5) (by omega)
    rw [← em] at cc
    exact .inl ⟨rr, jRc.p1 (κ := 0) R cc mm rfl n6 v (by omega) (fun _ => hp.i0 (Nat.zero_le _) hh) (fun z => absurd z (by decide)) (fun z => absurd z (by decide)) h8 an hk h4, cc.1, mm.1⟩
  · obtain ⟨hh, u1, u2⟩ := R.gw (by decide) o4
    have u1 : p + 1 ≤ 16000 := u1
    have u2 : o + 1 ≤ 2000 := u2
    have y1 : 1 ≤ t + (0 :: s1 : SH).length := by show 1 ≤ t + (s1.length + 1); omega
    refine JP.pp (cq_stg (a := o) C y1 ((c5 0).trans o3) ((c5 1).trans o6) (by omega)) (mq_sg (p := p) M (e56.trans o1)) ?_
    rintro _ F3 G3 r F4 G4 cc ⟨rr, mm⟩
    have mm := mm y1 (e57.trans o5) (by omega)
    rw [← em] at cc
    obtain ⟨v1, v2, v3, -⟩ := v
    have a1e : G2 71 (t + (0 :: s1 : SH).length - 1) = G1 55 (t + (0 :: s1 : SH).length - 1) := v3 rfl
    rw [a1e] at mm
    exact .inl ⟨rr, jRc.ps (x := (0, 1)) (s0 := s1) R cc mm rfl n6.tl v2 h8 an hk (Nat.zero_le _) hh (fun i hi => upd_n (by have hi : i < p ∨ p + 1 ≤ i := hi; omega)) (fun i hi => upd_n (by have hi : i < o ∨ o + 1 ≤ i := hi; omega)) (jCt.i0 _), cc.1, mm.1⟩
  · have y1 : 1 ≤ t + (κ :: s0 : SH).length := by show 1 ≤ t + (s0.length + 1); omega
    refine JP.pp (cq_copy C y1 ((c5 0).trans o3)) (mq_tw M (e56.trans o1)) ?_
    rintro _ F3 G3 r F4 G4 cc ⟨rr, mm⟩
    have mm := mm y1
    rw [← em] at cc
    obtain ⟨v1, v2, v3, v4, v5, -⟩ := id v
    have cc1 : jCe (mu (k + 1)) (t + (κ :: s0 : SH).length) 0 [G1 55 (t + (κ :: s0 : SH).length - 1)] (G1 54) F1 G1 F3 G3 := by
      obtain ⟨k1, k2, k3, ⟨k4, k5, k6⟩, k7⟩ := cc
      have q0 := k6 0 _ rfl
      have q1 := k6 1 _ rfl
      refine ⟨k1, k2, k3, ⟨k4.trans (congrArg nI (by show t + (s0.length + 1) - 1 + 2 = t + (s0.length + 1) - 0 + 1; omega)), fun i hi => ?_, fun i x hi => ?_⟩, k7⟩
      · by_cases e : i = t + (κ :: s0 : SH).length - 1
        · rw [e]; exact q0
        · exact k5 i (by omega)
      · cases i with
        | zero =>
          have hi : _ = x := Option.some.inj hi
          rw [← hi, ← q1]
          exact congrArg (G3 55) (by omega)
        | succ i => simp at hi
    exact .inl ⟨rr, jRc.p1 (κ := κ) (s0 := κ :: s0) R cc1 mm rfl n6 v (by omega) (fun z => by omega) v4 v5 h8 an hk h4, cc.1, mm.1⟩
  · have y1 : 1 ≤ t + (0 :: s1 : SH).length := by show 1 ≤ t + (s1.length + 1); omega
    refine JP.pp (cq_drop C y1 ((c5 0).trans o3)) (mq_dr M (e56.trans o1)) ?_
    rintro _ F3 G3 r F4 G4 cc ⟨rr, mm⟩
    have mm := mm y1
    rw [← em] at cc
    exact .inl ⟨rr, jRc.p0 (s0 := s1) R cc mm rfl n6.tl v.2.1 h8 an hk, cc.1, mm.1⟩
/-- elements are fetched and kept; a thing that is there is cleared -/
theorem jq_c {w a1 b1 e1 : Int32} {c : Nat → Int32} {n1 : Nat} (R : jRc (jSS gl K nf B WB Gc Gm) gl H F1 G1 F2 G2 n g a b mu A le cb wb t k s l) (hx : jXn F1) (Z : jSt0 WB B Gc Gm F1 G1 G2) (h4 : t + s.length < 399000) (ec : c = fun j => Gc 5 (mu k + j)) (ew : w = Gm 56 k) (ea : a1 = Gm 57 k) (eb : b1 = Gm 58 k) (O : (w = 7 ∧ n1 = 1 ∧ ∃ (κ : Nat) (s0 : SH), (κ = 1 ∨ κ = 2) ∧ s = κ :: s0 ∧ s1 = 0 :: s0 ∧ c 0 = (if κ = 1 then 77 else 78)) ∨ (w = 8 ∧ n1 = 1 ∧ ∃ κ : Nat, (κ = 1 ∨ κ = 2) ∧ s = 0 :: κ :: s1 ∧ a1 = (if κ = 1 then 0 else 1) ∧ c 0 = (if κ = 1 then 79 else 80)) ∨ (w = 22 ∧ n1 = 3 ∧ c 0 = 73 ∧ s1 = s ∧ ∃ κ p o m : Nat, (κ = 1 ∨ κ = 2) ∧ jAt l p o (κ, m) ∧ a1 = nI p ∧ b1 = nI m ∧ c 1 = nI (4 + o) ∧ c 2 = nI (joW (κ, m)) ∧ joW (κ, m) ≤ 200)) (an : jAn A (k + 1) s1 l) (em : mu (k + 1) = mu k + n1) : JP (cf_X6_step fu F1 G1) (mf_works fu F2 G2) (fun _ F3 G3 r F4 G4 => jO1 (jSS gl K nf B WB Gc Gm) gl F1 G1 F2 G2 F3 G3 r F4 G4) := by
  have Q := R.tl
  have M := R.mp Z
  have C := R.cp (w := n1) hx Z (by omega)
  have h8 := Q.2.2.1
  have hk : a ≤ k + 1 ∧ k + 1 ≤ b := ⟨by have := R.2.2.2.1.1; omega, R.2.2.2.1.2.1⟩
  have n6 := R.2.2.2.1.2.2.2
  have v := R.2.2.2.2.2.2.2.2.2.1
  have hp := R.2.2.2.2.2.2.2.2.2.2.1
  have e86 : F2 86 = nI cb := R.2.2.2.2.2.1.2.1
  have e58 : F1 58 = nI wb := R.2.2.2.2.2.2.1.1
  obtain ⟨⟨z5, -, -, -⟩, z56, z57, z58, -⟩ := Z
  have c5 : ∀ j, G1 5 (mu k + j) = c j := fun j => by rw [z5, ec]
  have e56 : G2 56 k = w := by rw [z56, ew]
  have e57 : G2 57 k = a1 := by rw [z57, ea]
  have e58' : G2 58 k = b1 := by rw [z58, eb]
  rcases O with ⟨o1, rfl, κ, s0, hκ, rfl, rfl, o3⟩ | ⟨o1, rfl, κ, hκ, rfl, o2, o3⟩ | ⟨o1, rfl, o3, rfl, κ, p, o, m, hκ, o4, o5, o6, o7, o8, o9⟩
  · have y1 : 1 ≤ t + (κ :: s0 : SH).length := by show 1 ≤ t + (s0.length + 1); omega
    obtain ⟨v1, v2, v3, v4, v5, -⟩ := id v
    have ad : jAdr H (n + 2) κ (G2 71 (t + (κ :: s0 : SH).length - 1)) (G1 55 (t + (κ :: s0 : SH).length - 1)) := by
      rcases hκ with z | z
      · rw [z]; rw [z] at v4; exact v4 rfl
      · rw [z]; rw [z] at v5; exact v5 rfl
    obtain ⟨i, cx, wx, N, y, i1, i2, i3, i4, i5⟩ := ad
    have rg := R.any (by omega) i2
    have el := hp.el (i := y) hκ (by omega) i2 i3
    have mq := mq_at (fu := fu) (a := cx + y) M (e56.trans o1)
    rcases hκ with z | z <;> subst z
    · have rg1 : cx + N ≤ 16000 ∧ wx + N ≤ 4000 := rg
      rw [if_pos rfl] at el i5 o3
      refine JP.pp (cq_fi (a := wx + y) C y1 ((c5 0).trans o3) i5 (by omega)) mq ?_
      rintro _ F3 G3 r F4 G4 cc ⟨rr, mm⟩
      have mm := mm y1 i4 (by omega)
      rw [← em] at cc
      exact .inl ⟨rr, jRc.p1 (κ := 0) (s0 := s0) R cc mm rfl n6.tl v2 (by omega) (fun _ => el) (fun z => absurd z (by decide)) (fun z => absurd z (by decide)) h8 an hk h4, cc.1, mm.1⟩
    · have rg1 : cx + N ≤ 16000 ∧ wx + (N + 3) / 4 ≤ 4000 := rg
      rw [if_neg (by decide)] at el i5 o3
      refine JP.pp (cq_fb (a := 4 * wx + y) C y1 ((c5 0).trans o3) i5 (by omega)) mq ?_
      rintro _ F3 G3 r F4 G4 cc ⟨rr, mm⟩
      have mm := mm y1 i4 (by omega)
      rw [← em] at cc
      rw [show (4 * wx + y) / 4 = wx + y / 4 by omega, show (4 * wx + y) % 4 = y % 4 by omega] at cc
      exact .inl ⟨rr, jRc.p1 (κ := 0) (s0 := s0) R cc mm rfl n6.tl v2 (by omega) (fun _ => el) (fun z => absurd z (by decide)) (fun z => absurd z (by decide)) h8 an hk h4, cc.1, mm.1⟩
  · have y2 : 2 ≤ t + (0 :: κ :: s1 : SH).length := by show 2 ≤ t + (s1.length + 1 + 1); omega
    obtain ⟨v1, v2, v3, -⟩ := id v
    obtain ⟨w1, w2, w3, w4, w5, -⟩ := v2
    have a1e : G2 71 (t + (0 :: κ :: s1 : SH).length - 1) = G1 55 (t + (0 :: κ :: s1 : SH).length - 1) := v3 rfl
    have ad : jAdr H (n + 2) κ (G2 71 (t + (0 :: κ :: s1 : SH).length - 2)) (G1 55 (t + (0 :: κ :: s1 : SH).length - 2)) := by
      rcases hκ with z | z
      · rw [z]; rw [z] at w4; exact w4 rfl
      · rw [z]; rw [z] at w5; exact w5 rfl
    obtain ⟨i, cx, wx, N, y, i1, i2, i3, i4, i5⟩ := ad
    have rg := R.any (by omega) i2
    have ct := (hp.2 i cx wx (κ, N) (by omega) i2).2
    have mq := mq_pa (fu := fu) (a := cx + y) M (e56.trans o1)
    rcases hκ with z | z <;> subst z
    · have rg1 : cx + N ≤ 16000 ∧ wx + N ≤ 4000 := rg
      rw [if_pos rfl] at i5 o3 o2
      refine JP.pp (cq_ki (a := wx + y) C y2 ((c5 0).trans o3) i5 (by omega)) mq ?_
      rintro _ F3 G3 r F4 G4 cc ⟨rr, mm⟩
      have mm := mm y2 i4 (by omega)
      rw [e57, o2, if_neg (by decide), a1e] at mm
      rw [← em] at cc
      refine .inl ⟨rr, jRc.ps (x := (1, N)) (s0 := s1) (j := i) R cc mm (by show s1.length + 1 + 1 = s1.length + 2; omega) n6.tl.tl w2 h8 an hk (by omega) i2 (fun i hi => upd_n (by have hi : i < cx ∨ cx + N ≤ i := hi; omega)) (fun i hi => upd_n (by have hi : i < wx ∨ wx + N ≤ i := hi; omega)) ⟨fun z => by simp at z, fun _ i hi => ?_, fun z => by simp at z, fun z => by simp at z, fun z => by simp at z, fun z => by simp at z⟩, cc.1, mm.1⟩
      by_cases e : i = y
      · rw [e, upd_s, upd_s]
      · rw [upd_n (by omega), upd_n (by omega)]
        exact ct.2.1 rfl i hi
    · have rg1 : cx + N ≤ 16000 ∧ wx + (N + 3) / 4 ≤ 4000 := rg
      rw [if_neg (by decide)] at i5 o3 o2
      refine JP.pp (cq_kb (a := 4 * wx + y) C y2 ((c5 0).trans o3) i5 (by omega)) mq ?_
      rintro _ F3 G3 r F4 G4 cc ⟨rr, mm⟩
      have mm := mm y2 i4 (by omega)
      rw [e57, o2, if_pos rfl, a1e] at mm
      rw [← em] at cc
      rw [show (4 * wx + y) / 4 = wx + y / 4 by omega, show (4 * wx + y) % 4 = y % 4 by omega] at cc
      refine .inl ⟨rr, jRc.ps (x := (2, N)) (s0 := s1) (j := i) R cc mm (by show s1.length + 1 + 1 = s1.length + 2; omega) n6.tl.tl w2 h8 an hk (by omega) i2 (fun i hi => upd_n (by have hi : i < cx ∨ cx + N ≤ i := hi; omega)) (fun i hi => upd_n (by have hi : i < wx ∨ wx + (N + 3) / 4 ≤ i := hi; omega)) ⟨fun z => by simp at z, fun z => by simp at z, fun _ i hi => ?_, fun z => by simp at z, fun z => by simp at z, fun _ i hi hj => jPd_put (ct.2.2.2.2.2 rfl) i3 hi hj⟩, cc.1, mm.1⟩
      have q4 := Nat.mod_lt y (show 0 < 4 by decide)
      have r4 := Nat.mod_lt i (show 0 < 4 by decide)
      by_cases e : i = y
      · rw [e, upd_s, upd_s, jSb_eq _ _ _ q4]
      · rw [upd_n (by omega)]
        by_cases e2 : i / 4 = y / 4
        · rw [e2, upd_s, jSb_ne _ _ _ _ q4 r4 (by omega), ← e2]
          exact ct.2.2.1 rfl i hi
        · rw [upd_n (by omega)]
          exact ct.2.2.1 rfl i hi
  · obtain ⟨hh, u1, u2⟩ := R.ow (by show κ ≤ 4; omega) o4
    have jc : joC (κ, m) = m := by rcases hκ with z | z <;> rw [z] <;> rfl
    rw [jc] at u1
    refine JP.pp (cq_clr (a := 4 + o) (w := joW (κ, m)) C ((c5 0).trans o3) ((c5 1).trans o7) ((c5 2).trans o8) e58 o9 (by omega)) (mq_cl (b := cb) (p := p) (m := m) e86 (e57.trans o5) (e58'.trans o6) (by omega) M (e56.trans o1)) ?_
    rintro _ F3 G3 r F4 G4 cc ⟨rr, mm⟩
    rw [← em] at cc
    rw [show wb + (4 + o) = wb + 4 + o by omega] at cc
    exact .inl ⟨rr, jRc.ps (x := (κ, m)) (s0 := s1) R cc mm rfl n6 v h8 an hk (Nat.le_refl _) hh (fun i hi => if_neg (by rw [jc] at hi; omega)) (fun i hi => if_neg (by omega)) (jCt.z (ce1 := G2 90) (wd1 := G2 90) hκ), cc.1, mm.1⟩
end JQC
