section TELL3
variable {fu : Nat} {F : PF} {G : PG} {f : Int32}
/-- before the telling of something, functions counted -/
def YC (fu : Nat) (f : Int32) (F : PF) (G : PG) : Prop := YA F G ∧ (0 ≤ f.toInt ∧ 8 * f.toInt ≤ tT F G) ∧ (F 46 = 0 → 0 ≤ (F 35).toInt ∧ 5 * (F 35).toInt ≤ tT F G) ∧ (F 46 = 0 ∨ (isfn (G 4) (G 5) (F 42) = true → (G 27 f.toNatClampNeg).toInt = (flT (G 4) (G 5) fu (F 42 + 1 + 1)).length))
theorem wt_108 (hfu : 8589934592 ≤ fu) (h : YC fu f F G) {F1 : PF} (q : GR (fup F 61 0) G 0 (-4) 0 F1 G) (x2 : Int32) (e42 : F1 42 = F 42 + 1 + 1) (v4 : vp_in (F 42 + 1) 4002) (k4 : G 4 (F 42 + 1).toNatClampNeg = 1) (hv : (F 42 + 1).toInt < (F 7).toInt) (ht4 : tT F G + 4 ≤ tT F1 G) (hf : isfn (G 4) (G 5) (F 42) = true) : WP (mb_tells_108 fu f x2 (F 42 + 1) F1 G) (TQ1 fu f F G) := by
  obtain ⟨h0, hB, h35, hrec⟩ := h
  have h0' : YA (fup F 61 0) G := h0
  have ht := q.t h0'
  have s : sgn (G 4) (G 5) (F1 42) 22 = true := by
    rw [e42]
    unfold isfn at hf
    simp only [Bool.and_eq_true] at hf
    exact hf.2
  obtain ⟨K, hz, hj, h42, h60, hD, hw, hI, hC⟩ := q
  obtain ⟨a1, b, a3, a4, a5, a6, a7, a8⟩ := h0
  have e46 : F1 46 = F 46 := K.1 46 rfl
  have e24 : F1 24 = F 24 := K.1 24 rfl
  have e35 : F1 35 = F 35 := K.1 35 rfl
  have e36 : F1 7 = F 7 := K.1 7 rfl
  have j60 : F1 60 = F 60 := h60
  have yh : YH f F1 G := by
    refine ⟨ht.1, ⟨hz.1, hz.2.1, hz.2.2, i_eq.mpr hj.1⟩, by rw [j60]; exact a4.1, by rw [e36]; exact h42.1, by rw [j60]; omega, ⟨hD.1, by omega⟩, by rw [e24]; exact a6, by rw [e46, e24]; exact a7, fun z => ?_, vp_in_iff.mpr ⟨hB.1, by omega⟩⟩
    rw [e35]
    have := h35 (e46.symm.trans z)
    omega
  unfold mb_tells_108
  refine WP.bind (WP.pp (WP.pp (wz_function hfu f (F 42 + 1) x2 F1 G yh v4 s (by rw [e46, e42]; exact hrec.imp id (fun z => z hf))) (mw_function f (F 42 + 1) x2 F1 G)) (gq_function f (F 42 + 1) x2 F1 G)) ?_
  rintro r F2 G2 ⟨⟨g61, gk, g1, g0⟩, K2, (⟨rfl, c1, c2, c3, c4, c5, c6, c7, c8, c9, p0, p1⟩ | ⟨rfl, z⟩)⟩
  · dsimp only
    unfold mb_tells_116
    refine WP.bz (Or.inr rfl) (WP.ret (Or.inl ⟨rfl, Or.inr ⟨hf, ?_⟩⟩))
    rw [e42] at c8 p0
    rw [e46] at p0 p1 g1 g0 c7
    rw [e35] at p0 p1
    rw [e24] at p1
    rw [j60] at c4
    rw [e36] at c2
    have g36 : F2 36 = F1 36 := K2.1 36 rfl
    have g37 : F2 37 = F1 37 := K2.1 37 rfl
    have w36 : F1 36 = F1 36 := rfl
    have T2 : TBL F2 G2 := ht.1.kx K2 rfl rfl rfl rfl rfl
    have ef : ∀ n : ¬ F 46 = 0, G2 27 = G 27 := by
      intro n
      funext k
      by_cases c : k = f.toNatClampNeg
      · rw [c]
        refine i_eq.mpr ?_
        rw [c8]
        rcases hrec with z | z
        · exact absurd z n
        · exact (z hf).symm
      · exact (c9 k c).1
    have ya : YA F2 G2 := by
      have f1 : (f + 1).toInt = f.toInt + 1 := i_addn _ rfl (by omega) (by omega)
      have t2 := T2.rng c2.1 (by rw [K2.1 7 rfl, e36]; exact c2.2)
      have t2e : tT F2 G2 = (G2 6 (F2 42).toNatClampNeg).toInt := rfl
      have i0 : tT (fup F 61 0) G = tT F G := rfl
      refine ⟨T2, ⟨c1.2.1, c1.2.2.1, c1.2.2.2.1, c1.2.2.2.2.1⟩, by rw [K2.1 7 rfl, e36]; exact c2, ⟨c1.1, by omega⟩, c6, ?_, ?_, by rw [g36, g37]; omega⟩
      · by_cases n : F 46 = 0
        · rw [(p0 n).1]
          omega
        · rw [(p1 n).1]
          exact a6
      · rw [c7]
        rcases a7 with z | z
        · exact Or.inl z
        · by_cases n : F 46 = 0
          · exact Or.inl n
          · rw [(p1 n).1, ef n, (p1 n).2.2.2]
            exact Or.inr z
    refine ⟨g61, ya, c7, by omega, fun n => ?_, fun n => ?_⟩
    · obtain ⟨r1, r2, r3, r4, r5, r6⟩ := p0 n
      obtain ⟨m1, m2⟩ := g0 n
      have h35 := h35 n
      refine ⟨r1, ⟨c8, by rw [r2]; exact h35.1, by rw [r2]; exact r5, ?_, ?_⟩, by omega, by rw [r2]; omega, r4, fun k hk => ⟨(c9 k hk).1, (c9 k hk).2, (gk k hk).2, (gk k hk).1⟩, r6⟩
      · rw [m1]
        have nn := nN_of (x := F 42 + 1) (by have := vp_in_iff.mp v4; omega)
        exact (a1.2.2.2.2.2.2 (F 42 + 1).toNatClampNeg (by omega)).2.1 k4
      · rw [e42] at m2
        rcases m2 rfl with ⟨m3, m4⟩ | m3
        · refine Or.inl ⟨m3, ?_⟩
          unfold flT
          rw [if_pos m4]
        · refine Or.inr ?_
          rw [m3]
          have hx := ht.1.adv h42.1.1 (by rw [e36]; exact h42.1.2) (k_ne (sgn_k s).1 (by decide))
          have f7 : (F 7).toInt ≤ 4000 := by have := a1.2.1; have := a1.2.2.2.1; omega
          rw [e42, e36] at hx
          rw [e42] at h42
          exact vp_in_iff.mpr ⟨by omega, by omega⟩
    · obtain ⟨r1, r2, r3, r4⟩ := p1 n
      obtain ⟨m1, m2⟩ := g1 n
      exact ⟨r1, r2, ef n, r4, r3, m2, m1⟩
  · dsimp only
    unfold mb_tells_116
    exact WP.bz (Or.inl rfl) (WP.ret (Or.inr ⟨rfl, z⟩))
theorem wt_70 (hfu : 8589934592 ≤ fu) (h : YC fu f F G) (x2 x3 : Int32) (k0 : G 4 (F 42).toNatClampNeg = 2) (kv : (G 5 (F 42).toNatClampNeg).toInt ≤ 2) (w3 : wdn (G 4) (G 5) (F 42) 3 = false) (w1 : (x3 = 0 ∧ wdn (G 4) (G 5) (F 42) 1 = false) ∨ (¬ x3 = 0 ∧ wdn (G 4) (G 5) (F 42) 1 = true)) : WP (mb_tells_70 fu f x2 x3 (fup F 61 0) G) (TQ1 fu f F G) := by
  have h0 : YA (fup F 61 0) G := h.1
  have q0 := GR.rf h0
  have ht0 := q0.t h0
  have ad0 := ht0.1.adv q0.2.2.2.1.1.1 q0.2.2.2.1.1.2 (k_ne k0 (by decide))
  have q1 := q0.adv3 h0 k0 kv
  have ht1 := q1.t h0
  unfold mb_tells_70 mb_tells_80
  refine WP.bind (ws_name ht1.2.2.1) ?_
  rintro r F2 G2 (⟨rfl, rfl, rfl, k1, -⟩ | ⟨rfl, u⟩)
  · dsimp only
    unfold mb_tells_84
    have q2 := q1.adv h0 (k_ne k1 (by decide))
    rw [if_pos (show (fup (fup (fup F 61 0) 42 (fup F 61 0 42 + 1)) 42 (fup (fup F 61 0) 42 (fup F 61 0 42 + 1) 42 + 1)) 44 ≤ 0 by rw [q2.2.1.1]; decide)]
    show WP (mb_tells_95 fu f x2 x3 (F 42 + 1) (fup (fup (fup F 61 0) 42 (F 42 + 1)) 42 (F 42 + 1 + 1)) G) _
    have q2 : GR (fup F 61 0) G 0 (-4) 0 (fup (fup (fup F 61 0) 42 (F 42 + 1)) 42 (F 42 + 1 + 1)) G := q2
    have e42 : (fup (fup (fup F 61 0) 42 (F 42 + 1)) 42 (F 42 + 1 + 1)) 42 = F 42 + 1 + 1 := rfl
    have k1 : G 4 (F 42 + 1).toNatClampNeg = 1 := k1
    have v4 : vp_in (F 42 + 1) 4002 := ht1.2.2.1
    have ad1 := ht1.1.adv q1.2.2.2.1.1.1 q1.2.2.2.1.1.2 (k_ne k1 (by decide))
    have hv : (F 42 + 1).toInt < (F 7).toInt := by
      have : (F 42 + 1).toInt + 1 ≤ (F 7).toInt := ad1.2.1
      omega
    have ht4 : tT F G + 4 ≤ tT (fup (fup (fup F 61 0) 42 (F 42 + 1)) 42 (F 42 + 1 + 1)) G := by
      have l3 : lnT (G 4 (F 42).toNatClampNeg) (G 5 (F 42).toNatClampNeg) = 3 := by
        unfold lnT
        rw [if_neg (fun q => absurd (k0.symm.trans q.1) (by decide)), if_pos ⟨k0, kv⟩]
      have l1 := lnT.pos (G 4 (F 42 + 1).toNatClampNeg) (G 5 (F 42 + 1).toNatClampNeg)
      have m0 : (G 6 (F 42).toNatClampNeg).toInt + lnT (G 4 (F 42).toNatClampNeg) (G 5 (F 42).toNatClampNeg) ≤ (G 6 (F 42 + 1).toNatClampNeg).toInt := ad0.2.2
      have m1 : (G 6 (F 42 + 1).toNatClampNeg).toInt + lnT (G 4 (F 42 + 1).toNatClampNeg) (G 5 (F 42 + 1).toNatClampNeg) ≤ (G 6 (F 42 + 1 + 1).toNatClampNeg).toInt := ad1.2.2
      show (G 6 (F 42).toNatClampNeg).toInt + 4 ≤ (G 6 (F 42 + 1 + 1).toNatClampNeg).toInt
      omega
    generalize fup (fup (fup F 61 0) 42 (F 42 + 1)) 42 (F 42 + 1 + 1) = F3 at q2 e42 ht4
    have el : ∀ b : Bool, isfn (G 4) (G 5) (F 42) = b → b = false → WP (mb_tells_117 fu x2 x3 (F 42 + 1) F3 G) (TQ1 fu f F G) := by
      intro b hb e
      exact wt_117 hfu h0 q2 x2 x3 (F 42 + 1) v4 (hb.trans e)
    unfold mb_tells_95
    refine WP.ite (fun c => ?_) (fun c => ?_)
    · unfold mb_tells_99
      have w1' : wdn (G 4) (G 5) (F 42) 1 = false := by
        rcases w1 with z | z
        · exact z.2
        · exact absurd c z.1
      refine WP.bind (ws_isSign 22 (q2.t h0).2.2.1) ?_
      rintro z F4 G4 ⟨rfl, rfl, hz⟩
      dsimp only
      rw [e42] at hz
      rcases hz with ⟨rfl, s⟩ | ⟨rfl, s⟩
      · unfold mb_tells_105
        rw [if_neg (by decide)]
        refine wt_108 hfu h q2 x2 e42 v4 k1 hv ht4 ?_
        unfold isfn
        rw [w3, w1', s]
        rfl
      · unfold mb_tells_105
        rw [if_pos rfl]
        refine el _ rfl ?_
        unfold isfn
        rw [s, Bool.and_false]
    · refine el _ rfl ?_
      have w1' : wdn (G 4) (G 5) (F 42) 1 = true := by
        rcases w1 with z | z
        · exact absurd z.1 c
        · exact z.2
      unfold isfn
      rw [w1', Bool.not_true, Bool.and_false, Bool.false_and]
  · dsimp only
    unfold mb_tells_84
    refine WP.ite (fun c => ?_) (fun _ => ?_)
    · have := i_le.mp c
      have : (0 : Int32).toInt = 0 := rfl
      have := u.1
      omega
    · unfold mb_tells_93
      exact WP.ret (Or.inr ⟨rfl, u.1⟩)
theorem wz_tells (hfu : 8589934592 ≤ fu) (h : YC fu f F G) : WP (mf_tells fu f F G) (TQ1 fu f F G) := by
  have h0 : YA (fup F 61 0) G := h.1
  have q0 := GR.rf h0
  have ht0 := q0.t h0
  unfold mf_tells mb_tells_0 mb_tells_5
  refine WP.bind ((wa_word 3 0 ht0.2.2.1).of (mp_word 3 0 _ G q0.2.1.1)) ?_
  rintro r F1 G1 (⟨rfl, rfl, rfl, w3⟩ | ⟨rfl, w3, hm⟩)
  · dsimp only
    unfold mb_tells_11
    rw [if_neg (by decide)]
    have wk := of_decide_eq_true w3
    have q1 := q0.adv h0 (k_ne wk.1 (by decide))
    have hf : isfn (G 4) (G 5) (F 42) = false := by
      have w3 : wdn (G 4) (G 5) (F 42) 3 = true := w3
      unfold isfn
      rw [w3, Bool.not_true, Bool.false_and, Bool.false_and]
    generalize fup (fup F 61 0) 42 (fup F 61 0 42 + 1) = F1 at q1
    unfold mb_tells_14
    refine WP.bind ((wa_word 0 1 (q1.t h0).2.2.1).of (mp_word 0 1 _ G q1.2.1.1)) ?_
    rintro r F2 G2 (⟨rfl, rfl, rfl, w0⟩ | ⟨rfl, -, hm⟩)
    · dsimp only
      unfold mb_tells_20
      rw [if_neg (by decide)]
      have wk0 := of_decide_eq_true w0
      have q2 := q1.adv3 h0 wk0.1 (by rw [wk0.2]; decide)
      unfold mb_tells_23
      refine WP.bind (wz_constantTold hfu h0 q2) ?_
      rintro r F3 G3 (⟨rfl, q3, l3⟩ | ⟨rfl, z⟩)
      · dsimp only
        unfold mb_tells_27
        rw [if_neg (by decide)]
        unfold mb_tells_30 mb_tells_35
        exact WP.bz (Or.inr rfl) (WP.ret (Or.inl ⟨rfl, Or.inl ⟨hf, TG.of h0 q3 (q3.up h0 l3) (by decide)⟩⟩))
      · dsimp only
        unfold mb_tells_27
        rw [if_pos rfl]
        unfold mb_tells_34 mb_tells_35
        exact WP.bz (Or.inl rfl) (WP.ret (Or.inr ⟨rfl, z⟩))
    · dsimp only
      unfold mb_tells_20
      rw [if_pos rfl]
      unfold mb_tells_34 mb_tells_35
      rcases hm with ⟨e, -⟩ | ⟨-, u⟩
      · exact absurd e (by decide)
      · exact WP.bz (Or.inl rfl) (WP.ret (Or.inr ⟨rfl, u.1⟩))
  · dsimp only
    rcases hm with ⟨-, rfl, rfl⟩ | ⟨e, -⟩
    · have w3 : wdn (G 4) (G 5) (F 42) 3 = false := w3
      have v0 : vp_in ((fup F 61 0) 42) 4002 := ht0.2.2.1
      unfold mb_tells_11
      rw [if_pos rfl]
      unfold mb_tells_36
      refine WP.bind (ws_isWord 2 v0) ?_
      rintro x2 F1 G1 ⟨rfl, rfl, hx2⟩
      dsimp only
      unfold mb_tells_41
      refine WP.bind (ws_isWord 1 v0) ?_
      rintro x3 F1 G1 ⟨rfl, rfl, hx3⟩
      dsimp only
      have w1 : (x3 = 0 ∧ wdn (G 4) (G 5) (F 42) 1 = false) ∨ (¬ x3 = 0 ∧ wdn (G 4) (G 5) (F 42) 1 = true) := by
        rcases hx3 with ⟨rfl, e⟩ | ⟨rfl, e⟩
        · exact Or.inr ⟨by decide, e⟩
        · exact Or.inl ⟨rfl, e⟩
      have go : ∀ n : Int32, n.toInt ≤ 2 → wdn (G 4) (G 5) (F 42) n = true → WP (mb_tells_70 fu f x2 x3 (fup F 61 0) G) (TQ1 fu f F G) := by
        intro n hn wn
        have wk := of_decide_eq_true wn
        exact wt_70 hfu h x2 x3 wk.1 (by rw [wk.2]; exact hn) w3 w1
      unfold mb_tells_47
      refine WP.ite (fun c2 => ?_) (fun c2 => ?_)
      · unfold mb_tells_52
        refine WP.ite (fun c3 => ?_) (fun c3 => ?_)
        · unfold mb_tells_56
          refine WP.bind (ws_isWord 0 v0) ?_
          rintro z F1 G1 ⟨rfl, rfl, hz⟩
          dsimp only
          unfold mb_tells_61
          rcases hz with ⟨rfl, e⟩ | ⟨rfl, e⟩
          · rw [if_neg (by decide)]
            exact go 0 (by decide) e
          · rw [if_pos rfl]
            unfold mb_tells_64
            refine WP.bind (ws_fails 2 (by decide) v0) ?_
            rintro r F2 G2 ⟨rfl, u⟩
            dsimp only
            unfold mb_tells_69
            exact WP.bz (Or.inl rfl) (WP.ret (Or.inr ⟨rfl, u.1⟩))
        · rcases w1 with z | z
          · exact absurd z.1 c3
          · exact go 1 (by decide) z.2
      · rcases hx2 with ⟨rfl, e⟩ | ⟨rfl, e⟩
        · exact go 2 (by decide) e
        · exact absurd rfl c2
    · exact absurd rfl e
end TELL3
