/-- before the block of a function -/
def FP (F : PF) : Prop := 0 ≤ (F 60).toInt ∧ F 44 = 0 ∧ F 70 = 0 ∧ F 54 = 0 ∧ F 43 = 0 ∧ F 51 = 0
/-- behind it -/
def FQ (L : List Nat) (F : PF) (G : PG) (F1 : PF) (G1 : PG) : Prop := FP F1 ∧ sN F ≤ sN F1 ∧ CB F G G1 ∧ M7 F F1 ∧ TY L F G F1 G1 [] 0 hN0 lN0
theorem FP.op {F : PF} (h : FP F) (v : Int32) : GP (fup (fup F 43 (F 43 + 1)) 42 v) := by
  obtain ⟨a, b, c, d, e, f⟩ := h
  refine ⟨a, b, c, d, ?_, ?_, ?_, ?_⟩
  · show 1 ≤ (F 43 + 1).toInt
    rw [e]; decide
  · show (F 43 + 1).toInt ≤ 40
    rw [e]; decide
  · show 0 ≤ (F 51).toInt
    rw [f]; decide
  · show (F 51).toInt ≤ (F 43 + 1).toInt
    rw [e, f]; decide
theorem TBL.up {F : PF} {G : PG} (h : TBL F G) : ∀ (d i : Nat), ((i + d : Nat) : Int) ≤ (F 7).toInt → (G 6 i).toInt + d ≤ (G 6 (i + d)).toInt := by
  intro d
  induction d with
  | zero => intro i _; show _ + (0 : Int) ≤ (G 6 (i + 0)).toInt; rw [Nat.add_zero]; omega
  | succ d ih =>
    intro i e
    have a := ih i (by omega)
    have b := (h.2.2.2.2.2.2 (i + d) (by omega)).2.2.2
    have c := lnT.pos (G 4 (i + d)) (G 5 (i + d))
    show _ + ((d + 1 : Nat) : Int) ≤ (G 6 (i + d + 1)).toInt
    omega
theorem TBL.mon {F : PF} {G : PG} (h : TBL F G) {t1 t2 : Int32} (h0 : 0 ≤ t1.toInt) (h1 : t1.toInt ≤ t2.toInt) (h2 : t2.toInt ≤ (F 7).toInt) : (G 6 t1.toNatClampNeg).toInt + (t2.toInt - t1.toInt) ≤ (G 6 t2.toNatClampNeg).toInt := by
  have a := h.up (t2.toInt.toNat - t1.toInt.toNat) t1.toInt.toNat (by omega)
  rw [show t1.toInt.toNat + (t2.toInt.toNat - t1.toInt.toNat) = t2.toInt.toNat by omega] at a
  show (G 6 t1.toInt.toNat).toInt + _ ≤ (G 6 t2.toInt.toNat).toInt
  omega
theorem gf_block {fu : Nat} (hfu : 8589934592 ≤ fu) {L : List Nat} (F : PF) (G : PG) (hF : FP F) : PP (mf_block fu F G) (fun r F1 G1 => r = 1 → FQ L F G F1 G1) := by
  have ih : mGI L (mS2 fu 299) := mgS2 hfu 299
  have e44 := hF.2.1
  show PP (mh_block fu (mS2 fu 299) F G) _
  unfold mh_block mb_block_0
  refine PP.bind (mp_openSign 26 F G) ?_
  rintro r Fa G1 (⟨rfl, rfl, rfl, -, u, -⟩ | ⟨rfl, u, -⟩)
  · dsimp only
    unfold mb_block_6
    rw [if_neg (by decide)]
    have hg := hF.op (F 42 + 1)
    have ea : (fup (fup F 43 (F 43 + 1)) 42 (F 42 + 1)) 43 = 1 := by show F 43 + 1 = 1; rw [hF.2.2.2.2.1]; decide
    have e51 : (fup (fup F 43 (F 43 + 1)) 42 (F 42 + 1)) 51 = 0 := hF.2.2.2.2.2
    have back : ∀ (F1 : PF) (G1 : PG), FQ L (fup (fup F 43 (F 43 + 1)) 42 (F 42 + 1)) G F1 G1 → FQ L F G F1 G1 := fun F1 G1 q => q
    generalize fup (fup F 43 (F 43 + 1)) 42 (F 42 + 1) = Fa at hg ea e51 back
    have fin : ∀ (F1 : PF) (G1 : PG), ((∃ LB LC, PQ L Fa G 0 F1 G1 [] 0 (hLC LB LC) lN0 LB LC) ∨ 0 < (F1 44).toInt) → PP (mb_block_35 fu (mS2 fu 299) F1 G1) (fun r F1 G1 => r = 1 → FQ L F G F1 G1) := by
      intro F1 G1 h
      unfold mb_block_35
      refine PP.bind (mp_closeSign 27 F1 G1) ?_
      rintro r F2 G2 (⟨rfl, rfl, rfl, -, u⟩ | ⟨rfl, u, -⟩)
      · dsimp only
        unfold mb_block_41
        refine PP.bz (fun _ => PP.ret (fun _ => back _ _ ?_))
        rcases h with ⟨LB, LC, q⟩ | q
        · obtain ⟨h1, h2, h3, h4, h5, h6, h7, h8⟩ := q
          obtain ⟨b1, b2, b3, b4, b5, b6, b7, b8⟩ := h1
          obtain ⟨l1, l2⟩ := h7.2.2.2.2 e51
          subst l1
          subst l2
          have f43 : F1 43 = 1 := i_eq.mpr (by rw [h5, ea]; rfl)
          have K : KX [42, 43] [] F1 G1 (fup (fup F1 42 (F1 42 + 1)) 43 (F1 43 - 1)) G1 := KX.f rfl (KX.f rfl KX.rf)
          refine ⟨⟨b1, b2, b3, b4, ?_, h6.trans e51⟩, h2, h3, h4, h8.kx K (M7.kx K rfl) rfl⟩
          show F1 43 - 1 = 0
          rw [f43]
          decide
        · exact absurd q u
      · dsimp only
        unfold mb_block_41
        exact PP.bz (fun _ => PP.ret (fun z => absurd z (by decide)))
    have loop : ∀ (n : Nat) (F1 : PF) (G1 : PG), ((∃ LB LC, PQ L Fa G 0 F1 G1 [] 0 (hLC LB LC) lN0 LB LC) ∨ 0 < (F1 44).toInt) → PP (ml_block_11 fu (mS2 fu 299) n F1 G1) (fun r F1 G1 => r = 1 → FQ L F G F1 G1) := by
      intro n
      induction n with
      | zero => intro F1 G1 _; exact PP.no
      | succ n ihn =>
        intro F1 G1 h
        show PP (mb_block_11 fu (mS2 fu 299) (ml_block_11 fu (mS2 fu 299) n) F1 G1) _
        unfold mb_block_11
        refine PP.ite (fun c => ?_) (fun _ => fin F1 G1 h)
        rcases h with ⟨LB, LC, q⟩ | q
        · unfold mb_block_18
          refine PP.bind (mp_isSign 27 F1 G1) ?_
          rintro z0 _ _ ⟨rfl, rfl, -⟩
          dsimp only
          unfold mb_block_24
          refine PP.ite (fun _ => ?_) (fun _ => fin F1 G1 (Or.inl ⟨LB, LC, q⟩))
          unfold mb_block_27
          refine PP.bind (ih.s (fu := fu) 6 (by decide) F1 G1 q.1) ?_
          rintro r F2 G2 (⟨rfl, LB1, LC1, q1⟩ | ⟨rfl, q0, q1⟩)
          · dsimp only
            unfold mb_block_31
            refine ihn F2 G2 (Or.inl ⟨LB1 ++ LB, LC1 ++ LC, (q.app q1).pm (fun d dB dC => ?_)⟩)
            show List.Perm (lpH [] dB (LB1 ++ LB) ++ lpH [] dC (LC1 ++ LC)) ((lpH [] dB LB1 ++ lpH [] dC LC1) ++ (lpH [] dB LB ++ lpH [] dC LC))
            rw [lpH_app, lpH_app]
            exact pm4 _ _ _ _
          · dsimp only
            unfold mb_block_31
            exact ihn F2 G2 (Or.inr q0)
        · rw [c] at q
          exact absurd q (by decide)
    exact loop fu _ _ (Or.inl ⟨[], [], PQ.rf hg⟩)
  · dsimp only
    unfold mb_block_6 mb_block_9
    rw [if_pos rfl]
    exact PP.ret (fun z => absurd z (by decide))
/-- before the block of a function: all is in its room -/
def YB (F : PF) (G : PG) : Prop := FP F ∧ TBL F G ∧ (0 ≤ (F 42).toInt ∧ (F 42).toInt ≤ (F 7).toInt) ∧ (F 60).toInt ≤ 2 * tT F G + 600 ∧ (0 ≤ (F 14).toInt ∧ 5 * (F 14).toInt ≤ tT F G) ∧ (0 ≤ (F 24).toInt ∧ (F 24).toInt ≤ 500) ∧ (F 46 = 0 ∨ ∀ f : Nat, (f : Int) < (F 24).toInt → 0 ≤ (G 27 f).toInt ∧ 0 ≤ (G 31 f).toInt ∧ (G 31 f).toInt + (G 27 f).toInt ≤ 900) ∧ vp_in (F 50) 500
theorem wf_block {fu : Nat} (hfu : 8589934592 ≤ fu) (F : PF) (G : PG) (h0 : YB F G) : WP (mf_block fu F G) (fun r F1 G1 => (r = 1 ∧ FP F1 ∧ (0 ≤ (F1 42).toInt ∧ (F1 42).toInt ≤ (F 7).toInt) ∧ (F1 60).toInt + 2 * tT F G + 4 ≤ (F 60).toInt + 2 * tT F1 G1 ∧ (F 42).toInt ≤ (F1 42).toInt ∧ tT F G + 2 ≤ tT F1 G1 ∧ (0 ≤ (F1 14).toInt ∧ 5 * (F1 14).toInt ≤ tT F1 G1)) ∨ (r = 0 ∧ 0 < (F1 44).toInt ∧ (0 ≤ (F1 14).toInt ∧ (F1 14).toInt ≤ 900))) := by
  have hr : ZG (mS2 fu 299) 299 := mzS2 hfu 299
  obtain ⟨hF, a2, a3, a4, a5, a6, a7, a8⟩ := h0
  have e6 : eS 6 = 2 := rfl
  have v0 : vp_in (F 42) 4002 := vp_in_iff.mpr ⟨a3.1, by have := a2.2.1; have := a2.2.2.2.1; omega⟩
  have tF := a2.rng a3.1 a3.2
  have tFe : tT F G = (G 6 (F 42).toNatClampNeg).toInt := rfl
  show WP (mh_block fu (mS2 fu 299) F G) _
  unfold mh_block mb_block_0
  refine WP.bind (ws_openSign 26 v0) ?_
  rintro r Fa G1 (⟨rfl, rfl, rfl, s, u, -⟩ | ⟨rfl, u, -⟩)
  · dsimp only
    unfold mb_block_6
    rw [if_neg (by decide)]
    obtain ⟨t1, t2, t3⟩ := a2.adv a3.1 a3.2 (k_ne (sgn_k s).1 (by decide))
    have lp := lnT.pos (G 4 (F 42).toNatClampNeg) (G 5 (F 42).toNatClampNeg)
    have hg := hF.op (F 42 + 1)
    have ta : tT (fup (fup F 43 (F 43 + 1)) 42 (F 42 + 1)) G = (G 6 (F 42 + 1).toNatClampNeg).toInt := rfl
    have ya : YG (fup (fup F 43 (F 43 + 1)) 42 (F 42 + 1)) G := ⟨hg, a2, ⟨by show 0 ≤ (F 42 + 1).toInt; omega, by show (F 42 + 1).toInt ≤ (F 7).toInt; omega⟩, by show (F 60).toInt ≤ _; rw [ta]; omega, ⟨a5.1, by show 5 * (F 14).toInt ≤ _; rw [ta]; omega⟩, a6, a7, a8⟩
    have e43 : (fup (fup F 43 (F 43 + 1)) 42 (F 42 + 1)) 43 = 1 := by show F 43 + 1 = 1; rw [hF.2.2.2.2.1]; decide
    have e51 : (fup (fup F 43 (F 43 + 1)) 42 (F 42 + 1)) 51 = 0 := hF.2.2.2.2.2
    have e7 : (fup (fup F 43 (F 43 + 1)) 42 (F 42 + 1)) 7 = F 7 := rfl
    have e60 : (fup (fup F 43 (F 43 + 1)) 42 (F 42 + 1)) 60 = F 60 := rfl
    have e42 : (fup (fup F 43 (F 43 + 1)) 42 (F 42 + 1)) 42 = F 42 + 1 := rfl
    generalize fup (fup F 43 (F 43 + 1)) 42 (F 42 + 1) = Fa at ya e43 e51 e7 e60 e42 ta
    have q0 := WR.rf ya
    have fin : ∀ (F1 : PF) (G1 : PG), WR Fa G 0 0 0 F1 G1 ∨ WF0 Fa G F1 G1 → WP (mb_block_35 fu (mS2 fu 299) F1 G1) (fun r F1 G1 => (r = 1 ∧ FP F1 ∧ (0 ≤ (F1 42).toInt ∧ (F1 42).toInt ≤ (F 7).toInt) ∧ (F1 60).toInt + 2 * tT F G + 4 ≤ (F 60).toInt + 2 * tT F1 G1 ∧ (F 42).toInt ≤ (F1 42).toInt ∧ tT F G + 2 ≤ tT F1 G1 ∧ (0 ≤ (F1 14).toInt ∧ 5 * (F1 14).toInt ≤ tT F1 G1)) ∨ (r = 0 ∧ 0 < (F1 44).toInt ∧ (0 ≤ (F1 14).toInt ∧ (F1 14).toInt ≤ 900))) := by
      intro F1 G1 h
      unfold mb_block_35
      rcases h with q | q
      · have ht := q.t ya
        refine WP.bind (ws_closeSign 27 ht.2.2) ?_
        rintro r F2 G2 (⟨rfl, rfl, rfl, s, -⟩ | ⟨rfl, u, -⟩)
        · dsimp only
          unfold mb_block_41
          refine WP.bz (Or.inr rfl) (WP.ret (Or.inl ⟨rfl, ?_⟩))
          obtain ⟨K, ⟨b1, b2, b3, b4, b5, b6, b7, b8⟩, h42, h43, h51, hΦ, hD⟩ := q
          have k7 := K.1 7 rfl
          rw [e7] at h42 k7
          obtain ⟨w1, w2, w3⟩ := ht.1.adv h42.1 (by rw [k7]; exact h42.2) (k_ne (sgn_k s).1 (by decide))
          rw [k7] at w2
          have lq := lnT.pos (G1 4 (F1 42).toNatClampNeg) (G1 5 (F1 42).toNatClampNeg)
          have f43 : F1 43 = 1 := i_eq.mpr (by rw [h43, e43]; rfl)
          have g1 : tT (fup (fup F1 42 (F1 42 + 1)) 43 (F1 43 - 1)) G1 = (G1 6 (F1 42 + 1).toNatClampNeg).toInt := rfl
          have g0 : tT F1 G1 = (G1 6 (F1 42).toNatClampNeg).toInt := rfl
          rw [e60, e42] at hΦ
          refine ⟨⟨b1, b2, b3, b4, by show F1 43 - 1 = 0; rw [f43]; decide, h51.trans e51⟩, ⟨by show 0 ≤ (F1 42 + 1).toInt; omega, by show (F1 42 + 1).toInt ≤ _; omega⟩, ?_, by show _ ≤ (F1 42 + 1).toInt; omega, ?_, hD.1, ?_⟩
          · rw [g1]
            show (F1 60).toInt + _ + _ ≤ _
            omega
          · rw [g1, tFe, K.2 6 rfl]
            have := a2.mon a3.1 (t2 := F1 42 + 1) (by omega) (by omega)
            omega
          · rw [g1]
            show 5 * (F1 14).toInt ≤ _
            omega
        · dsimp only
          unfold mb_block_41
          have := q.flt ya (by decide) u
          exact WP.bz (Or.inl rfl) (WP.ret (Or.inr ⟨rfl, this.2⟩))
      · refine WP.bind (wb_closeSign 27 q.2.1) ?_
        rintro r F2 G2 ⟨rfl, rfl, rfl⟩
        dsimp only
        unfold mb_block_41
        exact WP.bz (Or.inl rfl) (WP.ret (Or.inr ⟨rfl, q.2⟩))
    have loop : ∀ (m : Nat) (F1 : PF) (G1 : PG), (WR Fa G 0 0 0 F1 G1 ∧ (8001 + 2 * tT Fa G - 2 * tT F1 G1 + (F1 60).toInt).toNat < m) ∨ (WF0 Fa G F1 G1 ∧ 0 < m) → WP (ml_block_11 fu (mS2 fu 299) m F1 G1) (fun r F1 G1 => (r = 1 ∧ FP F1 ∧ (0 ≤ (F1 42).toInt ∧ (F1 42).toInt ≤ (F 7).toInt) ∧ (F1 60).toInt + 2 * tT F G + 4 ≤ (F 60).toInt + 2 * tT F1 G1 ∧ (F 42).toInt ≤ (F1 42).toInt ∧ tT F G + 2 ≤ tT F1 G1 ∧ (0 ≤ (F1 14).toInt ∧ 5 * (F1 14).toInt ≤ tT F1 G1)) ∨ (r = 0 ∧ 0 < (F1 44).toInt ∧ (0 ≤ (F1 14).toInt ∧ (F1 14).toInt ≤ 900))) := by
      intro m
      induction m with
      | zero =>
        rintro F1 G1 (⟨-, q⟩ | ⟨-, q⟩)
        · exact absurd q (Nat.not_lt_zero _)
        · exact absurd q (Nat.lt_irrefl _)
      | succ m ih =>
        intro F1 G1 h
        show WP (mb_block_11 fu (mS2 fu 299) (ml_block_11 fu (mS2 fu 299) m) F1 G1) _
        unfold mb_block_11
        rcases h with ⟨q, qm⟩ | ⟨q, -⟩
        · refine WP.ite (fun _ => ?_) (fun _ => fin F1 G1 (Or.inl q))
          unfold mb_block_18
          refine WP.bind (ws_isSign 27 (q.t ya).2.2) ?_
          rintro z _ _ ⟨rfl, rfl, -⟩
          dsimp only
          unfold mb_block_24
          refine WP.ite (fun _ => ?_) (fun _ => fin F1 G1 (Or.inl q))
          unfold mb_block_27
          have a := q.2.2.2.1
          have t0 := (q0.t ya).2.1
          have t1 := (q.t ya).2.1
          have f43 : (Fa 43).toInt = 1 := by rw [e43]; rfl
          have g1 := q.2.1.1
          refine WP.bind (hr 6 0 0 F1 G1 (by decide) (q.yg ya (by decide)) (fun z => absurd z (by decide)) (fun z => absurd z (by decide)) (by omega)) ?_
          rintro r F2 G2 (⟨rfl, q2⟩ | ⟨rfl, q2⟩)
          · dsimp only
            unfold mb_block_31
            have k6 : κG 6 = -1 := rfl
            rw [k6] at q2
            have f2 := q2.2.2.2.2.2.1.1
            have g2 := q2.2.1.1
            have t2 := ((q.tr q2).t ya).2.1
            exact ih F2 G2 (Or.inl ⟨(q.tr q2).le (by decide) (by decide), by omega⟩)
          · dsimp only
            unfold mb_block_31
            exact ih F2 G2 (Or.inr ⟨WF0.tr q q2, by omega⟩)
        · refine WP.ite (fun c => ?_) (fun _ => fin F1 G1 (Or.inr q))
          have := q.2.1
          rw [c] at this
          exact absurd this (by decide)
    have t0 := (q0.t ya).2.1
    have b := ya.2.2.2.1
    exact loop fu _ _ (Or.inl ⟨q0, by omega⟩)
  · dsimp only
    unfold mb_block_6 mb_block_9
    rw [if_pos rfl]
    obtain ⟨u1, rfl, K⟩ := u
    exact WP.ret (Or.inr ⟨rfl, u1, by rw [K.1 14 rfl]; omega⟩)
