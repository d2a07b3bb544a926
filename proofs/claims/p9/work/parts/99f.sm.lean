abbrev hN0 : Nat → Nat → Nat → HLs := fun _ _ _ => []
abbrev lN0 : Nat → HLs := fun _ => []
/-- one piece behind the other -/
theorem PQ.app {L : List Nat} {F0 F F1 : PF} {G0 G G1 : PG} {j : Int} {s1 : SH} {e : Nat} {hs hs1 : Nat → Nat → Nat → HLs} {ls : Nat → HLs} {LB LC LB1 LC1 : List Nat} (h : PQ L F0 G0 j F G [] e hs ls LB LC) (q : PQ L F G 0 F1 G1 s1 0 hs1 lN0 LB1 LC1) : PQ L F0 G0 j F1 G1 s1 e (fun d dB dC => hs1 (d + e) dB dC ++ hs d dB dC) ls (LB1 ++ LB) (LC1 ++ LC) := by
  obtain ⟨h1, h2, h3, h4, h5, h6, h7, h8⟩ := h
  obtain ⟨q1, q2, q3, q4, q5, q6, q7, q8⟩ := q
  refine ⟨q1, Nat.le_trans h2 q2, CB.tr h3 h2 q3, M7.tr h4 q4, by omega, q6.trans h6, CK.tr h7 q7 q3 h2 q2 h6, ?_⟩
  refine TY.seq (hs1 := fun d dB dC => hs1 (d + e) dB dC) h8 q4 (fun _ hS h47 => ?_)
  obtain ⟨t1, t2, t3⟩ := q8 hS h47
  exact ⟨t1, t2, fun A d dB dC hB hC hA _ => EY.ex (t3 A (d + e) dB dC (by omega) (by omega) hA)⟩
theorem PQ.apB {L : List Nat} {F0 F F1 : PF} {G0 G G1 : PG} {j : Int} {s : SH} {e : Nat} {hs : Nat → Nat → Nat → HLs} {ls : Nat → HLs} {LB LC : List Nat} (h : PQ L F0 G0 j F G s e hs ls LB LC) (q : SQ0 L F G 0 F1 G1) : SQ0 L F0 G0 0 F1 G1 := by
  obtain ⟨h1, h2, h3, h4, h5, h6, h7, h8⟩ := h
  obtain ⟨⟨q1, q2, q3, q4, q5⟩, LB1, LC1, c, -⟩ := q
  exact ⟨⟨Or.inl rfl, q2, Nat.le_trans h2 q3, CB.tr h3 h2 q4, fun z => absurd z (by decide)⟩, LB1 ++ LB, LC1 ++ LC, CK.tr h7 c q4 h2 q3 h6, fun z => absurd z (by decide)⟩
/-- behind a piece that leaves nothing waiting: a good end with the shape s, or a bad one -/
def XQ (L : List Nat) (s : SH) (F : PF) (G : PG) (r : Int32) (F1 : PF) (G1 : PG) : Prop := (r = 1 ∧ PQ L F G 0 F1 G1 s 0 hN0 lN0 [] []) ∨ (r = 0 ∧ SQ0 L F G 0 F1 G1)
theorem bd_of {F : PF} {k : Int} {s : SH} (h : GP F) (hl : (s.length : Int) ≤ k + 2) : bd k F s := by
  unfold bd
  rw [if_pos h.2.2.2.1]
  have := h.2.2.2.2.1
  omega
/-- an expression on the way -/
theorem PQ.expr {fu : Nat} {L : List Nat} {F0 F : PF} {G0 G : PG} {j : Int} {s : SH} {e : Nat} {hs : Nat → Nat → Nat → HLs} {ls : Nat → HLs} {LB LC : List Nat} (h : PQ L F0 G0 j F G s e hs ls LB LC) (hl : (s.length : Int) ≤ 2) : PP (mf_expression fu F G) (fun r F1 G1 => KX [42, 43, 44, 45, 47, 48, 49, 55, 60, 62, 70] [56, 57, 58, 59, 67, 68, 69] F G F1 G1 ∧ ((r = 1 ∧ PQ L F0 G0 j F1 G1 (0 :: s) e hs ls LB LC) ∨ (r = 0 ∧ SQ0 L F0 G0 0 F1 G1))) := by
  refine PP.mono (mg_expression F G h.1) ?_
  rintro r F1 G1 ⟨K, q, t⟩
  refine ⟨K, ?_⟩
  rcases q.1 with rfl | rfl
  · exact Or.inr ⟨rfl, h.exB K rfl rfl q⟩
  · refine Or.inl ⟨rfl, h.ex K rfl rfl q (fun hS h47 => ?_)⟩
    obtain ⟨t1, t2, t3⟩ := t rfl L hS h47
    exact ⟨t1, t2, fun A d hA => t3 A s d hA (bd_of h.1 (by omega))⟩
theorem mg_condition {fu : Nat} {L : List Nat} (F : PF) (G : PG) (hg : GP F) : PP (mf_condition fu F G) (fun r F1 G1 => XQ L [0] F G r F1 G1) := by
  have h0 : PQ L F G 0 F G [] 0 hN0 lN0 [] [] := PQ.rf hg
  unfold mf_condition mb_condition_0
  refine PP.bind (mp_openSign 22 F G) ?_
  rintro r F1 G1 (⟨rfl, rfl, rfl, -, u, -⟩ | ⟨rfl, u, -⟩)
  · dsimp only
    unfold mb_condition_6 mb_condition_9
    rw [if_neg (by decide)]
    refine PP.bind ((h0.op u).expr (by decide)) ?_
    rintro r F2 G2 ⟨-, (⟨rfl, q⟩ | ⟨rfl, q⟩)⟩
    · dsimp only
      unfold mb_condition_13 mb_condition_16
      rw [if_neg (by decide)]
      refine PP.bind (mp_closeSign 23 F2 G2) ?_
      rintro r F3 G3 (⟨rfl, rfl, rfl, -, -⟩ | ⟨rfl, u, -⟩)
      · dsimp only
        unfold mb_condition_22 mb_condition_25 mb_condition_30
        rw [if_neg (by decide)]
        refine PP.bz (fun _ => PP.ret (Or.inl ⟨rfl, ?_⟩))
        exact q.cl hg (by decide)
      · dsimp only
        unfold mb_condition_22 mb_condition_29 mb_condition_30
        rw [if_pos rfl]
        exact PP.bz (fun _ => PP.ret (Or.inr ⟨rfl, q.flt u⟩))
    · dsimp only
      unfold mb_condition_13 mb_condition_29 mb_condition_30
      rw [if_pos rfl]
      exact PP.bz (fun _ => PP.ret (Or.inr ⟨rfl, q⟩))
  · dsimp only
    unfold mb_condition_6 mb_condition_29 mb_condition_30
    rw [if_pos rfl]
    exact PP.bz (fun _ => PP.ret (Or.inr ⟨rfl, h0.flt u⟩))
theorem PQ.ex2 {L : List Nat} {F0 F F1 : PF} {G0 G G1 : PG} {j : Int} {s : SH} {e : Nat} {hs : Nat → Nat → Nat → HLs} {ls : Nat → HLs} {LB LC : List Nat} {s1 : SH} {a b : List Nat} (h : PQ L F0 G0 j F G s e hs ls LB LC) (K : KX a b F G F1 G1) (e63 : a.contains 63 = false) (e64 : a.contains 64 = false) (q : GS F G 1 F1 G1) (t : ST L F0 G0 → ST L F G → F1 47 = 0 → ST L F1 G1 ∧ XS L F1 G1 = XS L F G ∧ ∀ (A : AN) (d : Nat), A (sN F) = (s, d, false) → EX (XS L F G) F G A F1 G1 s1 d []) : PQ L F0 G0 j F1 G1 s1 e hs ls LB LC := by
  obtain ⟨h1, h2, h3, h4, h5, h6, h7, h8⟩ := h
  have g1 := h1.gs q
  obtain ⟨q1, q2, q3, q4, q5, q6, q7⟩ := q
  obtain ⟨q8, q9, q10, q11, q12⟩ := q7 rfl
  refine ⟨g1, Nat.le_trans h2 q3, CB.tr h3 h2 q4, M7.tr h4 q5, by rw [q9]; exact h5, q11.trans h6, CK.lo h7 (K.1 63 e63) (K.1 64 e64) q3 (fun p hp => (q4 p (h7.2.2.1 p hp).2).2.1), ?_⟩
  refine TY.seq (hs1 := fun _ _ _ => []) h8 q5 (fun hS0 hS h47 => ?_)
  obtain ⟨t1, t2, t3⟩ := t hS0 hS h47
  refine ⟨t1, XL.of t2, fun A d dB dC _ _ hA _ => ?_⟩
  rw [t2]
  exact t3 A (d + e) hA
/-- within a simple statement -/
def PE (L : List Nat) (F0 : PF) (G0 : PG) (F : PF) (G : PG) (s : SH) : Prop := KX [42, 43, 44, 45, 47, 48, 49, 55, 60, 62, 70] [56, 57, 58, 59, 67, 68, 69] F0 G0 F G ∧ PQ L F0 G0 0 F G s 0 hN0 lN0 [] []
def shE (x : Int32) : SH := if x = 0 then [] else [1]
/-- where it stores -/
def TK (L : List Nat) (F0 : PF) (G0 : PG) (F : PF) (x4 x7 x8 : Int32) : Prop := ST L F0 G0 → F 47 = 0 → x4 = 0 → (¬ x7 = 0 → 0 ≤ x8.toInt ∧ x8.toInt < ((XS L F0 G0).2.2.2.2.1 : Int) ∧ icell (XS L F0 G0).2.2.2.2.2 x8.toInt.toNat) ∧ (x7 = 0 → 0 ≤ x8.toInt ∧ x8.toInt < ((XS L F0 G0).2.2.2.1 : Int))
theorem TK.mo {L : List Nat} {F0 F F1 : PF} {G0 : PG} {x4 x7 x8 : Int32} (h : TK L F0 G0 F x4 x7 x8) (hM : M7 F F1) : TK L F0 G0 F1 x4 x7 x8 := fun hS h47 => h hS (hM h47)
theorem PE.x {L : List Nat} {F0 F : PF} {G0 G : PG} {s : SH} (h : PE L F0 G0 F G s) : XS L F G = XS L F0 G0 := XS.kx h.1 rfl
theorem PE.step {fu : Nat} {L : List Nat} {F0 F : PF} {G0 G : PG} {s : SH} (h : PE L F0 G0 F G s) (w a b : Int32) (s1 : SH) (hl : s.length ≤ 600) (ho : ST L F0 G0 → F 47 = 0 → ∀ z, opI (XS L F0 G0) w a b z s s1) : PP (mf_step fu w a b F G) (fun _ F1 G1 => M7 F F1 ∧ PE L F0 G0 F1 G1 s1) := by
  refine PP.mono (PP.and (mw_step w a b F G) (h.2.stp (s1 := s1) (e1 := 0) (hs1 := hN0) w a b ?_)) ?_
  · intro F1 G1 e60 eg hn hS0 hS h47 A d dB dC _ _ hA _
    rw [h.x]
    exact EX.stp (EX.rf hA) hn e60 eg hl (ho hS0 h47)
  · rintro r F1 G1 ⟨K, -, -, -, -, q⟩
    exact ⟨M7.kx K rfl, KX.tr h.1 K rfl rfl, q⟩
theorem PE.good {L : List Nat} {F0 F : PF} {G0 G : PG} {s : SH} (h : PE L F0 G0 F G s) : XQ L s F0 G0 1 F G := Or.inl ⟨rfl, h.2⟩
theorem PE.bad {L : List Nat} {s1 : SH} {F0 F F1 : PF} {G0 G G1 : PG} {s : SH} (h : PE L F0 G0 F G s) (hf : FLT F F1 G G1) : XQ L s1 F0 G0 0 F1 G1 := Or.inr ⟨rfl, h.2.flt hf⟩
theorem PE.kx {a b : List Nat} {L : List Nat} {F0 F F1 : PF} {G0 G G1 : PG} {s : SH} (h : PE L F0 G0 F G s) (K : KX a b F G F1 G1) (hM : M7 F F1) (eq : qpo a b = true) (e44 : a.contains 44 = false) (e70 : a.contains 70 = false) (e43 : a.contains 43 = false) (ea : a.all [42, 43, 44, 45, 47, 48, 49, 55, 60, 62, 70].contains = true) (eb : b.all [56, 57, 58, 59, 67, 68, 69].contains = true) : PE L F0 G0 F1 G1 s := ⟨KX.tr h.1 K ea eb, h.2.kx K hM eq e44 e70 e43⟩
theorem PE.f42 {L : List Nat} {F0 F : PF} {G0 G : PG} {s : SH} {v : Int32} (h : PE L F0 G0 F G s) : PE L F0 G0 (fup F 42 v) G s := ⟨KX.f rfl h.1, h.2.f⟩
section SIMPLE
variable {fu : Nat} {L : List Nat} {F0 : PF} {G0 : PG}
theorem sm_584 (x4 x6 x7 x8 : Int32) (F : PF) (G : PG) (h : PE L F0 G0 F G (0 :: shE x4)) (hk : TK L F0 G0 F x4 x7 x8) : PP (mb_simple_584 fu x4 x6 x7 x8 F G) (fun r F1 G1 => XQ L [] F0 G0 r F1 G1) := by
  have fin : ∀ (F1 : PF) (G1 : PG), PE L F0 G0 F1 G1 [] → PP (mb_simple_628 fu F1 G1) (fun r F1 G1 => XQ L [] F0 G0 r F1 G1) := by
    intro F1 G1 q
    unfold mb_simple_628
    exact PP.ret q.good
  unfold mb_simple_584
  refine PP.ite (fun c => ?_) (fun c => ?_)
  · subst c
    have h : PE L F0 G0 F G [0] := h
    unfold mb_simple_610
    refine PP.ite (fun c7 => ?_) (fun c7 => ?_)
    · unfold mb_simple_620 mb_simple_621
      refine PP.bind (h.step 4 x8 0 [] (by decide) (fun hS h47 _ => ?_)) ?_
      · have q := (hk hS h47 rfl).2 c7
        exact Or.inr (Or.inr (Or.inr (Or.inr ⟨hS.m, Or.inr (Or.inr (Or.inr (Or.inl ⟨rfl, q.1, q.2, rfl⟩)))⟩)))
      · rintro r F1 G1 ⟨-, q⟩
        dsimp only
        unfold mb_simple_627
        exact fin F1 G1 q
    · unfold mb_simple_616 mb_simple_621
      refine PP.bind (h.step 2 x8 0 [] (by decide) (fun hS h47 _ => ?_)) ?_
      · have q := (hk hS h47 rfl).1 c7
        exact Or.inr (Or.inr (Or.inr (Or.inr ⟨hS.m, Or.inr (Or.inl ⟨rfl, q.1, q.2.1, q.2.2, rfl⟩)⟩)))
      · rintro r F1 G1 ⟨-, q⟩
        dsimp only
        unfold mb_simple_627
        exact fin F1 G1 q
  · have h : PE L F0 G0 F G [0, 1] := by
      unfold shE at h
      rw [if_neg c] at h
      exact h
    have put : ∀ z0 : Int32, PP (mb_simple_602 fu z0 8 F G) (fun r F1 G1 => XQ L [] F0 G0 r F1 G1) := by
      intro z0
      unfold mb_simple_602
      refine PP.bind (h.step 8 z0 0 [] (by decide) (fun hS h47 _ => ?_)) ?_
      · exact Or.inr (Or.inr (Or.inr (Or.inr ⟨hS.m, Or.inr (Or.inr (Or.inr (Or.inr (Or.inr (Or.inr (Or.inr (Or.inl ⟨rfl, rfl⟩)))))))⟩)))
      · rintro r F1 G1 ⟨-, q⟩
        dsimp only
        unfold mb_simple_606
        exact fin F1 G1 q
    unfold mb_simple_589 mb_simple_601 mb_simple_597
    exact PP.ite (fun _ => put 0) (fun _ => put 1)
theorem sm_579 (x4 x6 x7 x8 z0 : Int32) (F : PF) (G : PG) (h : PE L F0 G0 F G (0 :: 0 :: shE x4)) (hk : TK L F0 G0 F x4 x7 x8) : PP (mb_simple_579 fu x4 x6 x7 x8 z0 10 F G) (fun r F1 G1 => XQ L [] F0 G0 r F1 G1) := by
  have ll : (shE x4).length ≤ 1 := by unfold shE; split <;> decide
  unfold mb_simple_579
  refine PP.bind (h.step 10 z0 0 (0 :: shE x4) (by show (shE x4).length + 2 ≤ 600; omega) (fun _ _ _ => Or.inr (Or.inl ⟨rfl, shE x4, rfl, rfl⟩))) ?_
  rintro r F1 G1 ⟨hM, q⟩
  dsimp only
  unfold mb_simple_583
  exact sm_584 x4 x6 x7 x8 F1 G1 q (hk.mo hM)
theorem sm_438 (x4 x6 x7 x8 x9 : Int32) (F : PF) (G : PG) (h : PE L F0 G0 F G (0 :: (if x9 = 32 then shE x4 else 0 :: shE x4))) (hk : TK L F0 G0 F x4 x7 x8) : PP (mb_simple_438 fu x4 x6 x7 x8 x9 F G) (fun r F1 G1 => XQ L [] F0 G0 r F1 G1) := by
  unfold mb_simple_438
  refine PP.ite (fun c => ?_) (fun c => ?_)
  · rw [if_pos c] at h
    exact sm_584 x4 x6 x7 x8 F G h hk
  · rw [if_neg c] at h
    have go : ∀ z0 : Int32, PP (mb_simple_579 fu x4 x6 x7 x8 z0 10 F G) (fun r F1 G1 => XQ L [] F0 G0 r F1 G1) := fun z0 => sm_579 x4 x6 x7 x8 z0 F G h hk
    unfold mb_simple_445
    refine PP.ite (fun _ => go _) (fun _ => ?_)
    unfold mb_simple_455
    refine PP.ite (fun _ => go _) (fun _ => ?_)
    unfold mb_simple_466
    refine PP.ite (fun _ => go _) (fun _ => ?_)
    unfold mb_simple_473
    refine PP.ite (fun _ => go _) (fun _ => ?_)
    unfold mb_simple_484
    refine PP.ite (fun _ => go _) (fun _ => ?_)
    unfold mb_simple_496
    refine PP.ite (fun _ => go _) (fun _ => ?_)
    unfold mb_simple_508
    refine PP.ite (fun _ => go _) (fun _ => ?_)
    unfold mb_simple_520
    refine PP.ite (fun _ => go _) (fun _ => ?_)
    unfold mb_simple_532
    refine PP.ite (fun _ => go _) (fun _ => ?_)
    unfold mb_simple_544
    refine PP.ite (fun _ => go _) (fun _ => ?_)
    unfold mb_simple_556
    refine PP.ite (fun _ => go _) (fun _ => ?_)
    unfold mb_simple_567
    exact PP.ite (fun _ => go _) (fun _ => go _)
theorem sm_404 (x4 x6 x7 x8 x9 : Int32) (F : PF) (G : PG) (h : PE L F0 G0 F G (if x9 = 32 then shE x4 else 0 :: shE x4)) (hk : TK L F0 G0 F x4 x7 x8) : PP (mb_simple_404 fu x4 x6 x7 x8 x9 F G) (fun r F1 G1 => XQ L [] F0 G0 r F1 G1) := by
  have ll : (if x9 = 32 then shE x4 else 0 :: shE x4).length ≤ 2 := by
    unfold shE
    split <;> split <;> decide
  have one : PP (mb_simple_418 fu x4 x6 x7 x8 x9 F G) (fun r F1 G1 => XQ L [] F0 G0 r F1 G1) := by
    unfold mb_simple_418
    refine PP.bind (h.step 0 1 0 (0 :: (if x9 = 32 then shE x4 else 0 :: shE x4)) (by omega) (fun _ _ _ => Or.inl ⟨rfl, rfl⟩)) ?_
    rintro r F1 G1 ⟨hM, q⟩
    dsimp only
    unfold mb_simple_425
    exact sm_438 x4 x6 x7 x8 x9 F1 G1 q (hk.mo hM)
  unfold mb_simple_404
  refine PP.ite (fun _ => one) (fun _ => ?_)
  unfold mb_simple_411
  refine PP.ite (fun _ => one) (fun _ => ?_)
  unfold mb_simple_429
  refine PP.bind (PP.and (mn_expression F G) (h.2.expr (by omega))) ?_
  rintro r F1 G1 ⟨hM, K, (⟨rfl, q⟩ | ⟨rfl, q⟩)⟩
  · dsimp only
    unfold mb_simple_433
    rw [if_neg (by decide)]
    exact sm_438 x4 x6 x7 x8 x9 F1 G1 ⟨KX.tr h.1 K rfl rfl, q⟩ (hk.mo hM)
  · dsimp only
    unfold mb_simple_433 mb_simple_436
    rw [if_pos rfl]
    exact PP.ret (Or.inr ⟨rfl, q⟩)
theorem sm_353 (x4 x6 x7 x8 x9 : Int32) (F : PF) (G : PG) (h : PE L F0 G0 F G (shE x4)) (hk : TK L F0 G0 F x4 x7 x8) : PP (mb_simple_353 fu x4 x6 x7 x8 x9 F G) (fun r F1 G1 => XQ L [] F0 G0 r F1 G1) := by
  unfold mb_simple_353
  refine PP.ite (fun c => ?_) (fun c => ?_)
  · exact sm_404 x4 x6 x7 x8 x9 F G (by rw [if_pos c]; exact h) hk
  · have nx : ∀ (F1 : PF) (G1 : PG), M7 F F1 → PE L F0 G0 F1 G1 (0 :: shE x4) → PP (mb_simple_404 fu x4 x6 x7 x8 x9 F1 G1) (fun r F1 G1 => XQ L [] F0 G0 r F1 G1) := fun F1 G1 hM q => sm_404 x4 x6 x7 x8 x9 F1 G1 (by rw [if_neg c]; exact q) (hk.mo hM)
    unfold mb_simple_360
    refine PP.ite (fun c4 => ?_) (fun c4 => ?_)
    · have es : shE x4 = [] := if_pos c4
      rw [es] at h
      have nx : ∀ (F1 : PF) (G1 : PG), M7 F F1 → PE L F0 G0 F1 G1 [0] → PP (mb_simple_404 fu x4 x6 x7 x8 x9 F1 G1) (fun r F1 G1 => XQ L [] F0 G0 r F1 G1) := fun F1 G1 hM q => nx F1 G1 hM (by rw [es]; exact q)
      unfold mb_simple_386
      refine PP.ite (fun c7 => ?_) (fun c7 => ?_)
      · unfold mb_simple_396 mb_simple_397
        refine PP.bind (h.step 3 x8 0 [0] (by decide) (fun hS h47 _ => ?_)) ?_
        · have q := (hk hS h47 c4).2 c7
          exact Or.inr (Or.inr (Or.inr (Or.inr ⟨hS.m, Or.inr (Or.inr (Or.inl ⟨rfl, q.1, q.2, rfl⟩))⟩)))
        · rintro r F1 G1 ⟨hM, q⟩
          dsimp only
          unfold mb_simple_403
          exact nx F1 G1 hM q
      · unfold mb_simple_392 mb_simple_397
        refine PP.bind (h.step 1 x8 0 [0] (by decide) (fun hS h47 _ => ?_)) ?_
        · have q := (hk hS h47 c4).1 c7
          exact Or.inr (Or.inr (Or.inr (Or.inr ⟨hS.m, Or.inl ⟨rfl, q.1, q.2.1, rfl⟩⟩)))
        · rintro r F1 G1 ⟨hM, q⟩
          dsimp only
          unfold mb_simple_403
          exact nx F1 G1 hM q
    · have es : shE x4 = [1] := if_neg c4
      rw [es] at h
      unfold mb_simple_365
      refine PP.bind (h.step 9 0 0 [1, 1] (by decide) (fun hS h47 _ => ?_)) ?_
      · exact Or.inr (Or.inr (Or.inr (Or.inr ⟨hS.m, Or.inr (Or.inr (Or.inr (Or.inr (Or.inr (Or.inr (Or.inr (Or.inr (Or.inl ⟨rfl, [], rfl, rfl⟩))))))))⟩)))
      · rintro r F1 G1 ⟨hM, q⟩
        dsimp only
        unfold mb_simple_373
        refine PP.bind (q.step 7 0 0 [0, 1] (by decide) (fun hS h47 _ => ?_)) ?_
        · exact Or.inr (Or.inr (Or.inr (Or.inr ⟨hS.m, Or.inr (Or.inr (Or.inr (Or.inr (Or.inr (Or.inr (Or.inl ⟨rfl, [1], rfl, rfl⟩))))))⟩)))
        · rintro r F2 G2 ⟨hM2, q2⟩
          dsimp only
          unfold mb_simple_382
          exact nx F2 G2 (M7.tr hM hM2) (by rw [es]; exact q2)
theorem sm_246 (x4 x6 x7 x8 : Int32) (F : PF) (G : PG) (h : PE L F0 G0 F G (shE x4)) (hk : TK L F0 G0 F x4 x7 x8) : PP (mb_simple_246 fu x4 x6 x7 x8 F G) (fun r F1 G1 => XQ L [] F0 G0 r F1 G1) := by
  have yes : ∀ x9 : Int32, PP (mb_simple_330 fu x4 x6 x7 x8 x9 1 F G) (fun r F1 G1 => XQ L [] F0 G0 r F1 G1) := by
    intro x9
    unfold mb_simple_330
    rw [if_neg (by decide)]
    unfold mb_simple_343
    exact sm_353 x4 x6 x7 x8 x9 _ _ h.f42 (hk.mo (M7.f (by decide) M7.rf))
  have no : ∀ x9 : Int32, PP (mb_simple_330 fu x4 x6 x7 x8 x9 0 F G) (fun r F1 G1 => XQ L [] F0 G0 r F1 G1) := by
    intro x9
    unfold mb_simple_330
    rw [if_pos rfl]
    unfold mb_simple_337
    refine PP.bind (mp_fails 2 (by decide) F G) ?_
    rintro r F1 G1 ⟨rfl, u⟩
    dsimp only
    unfold mb_simple_342
    exact PP.bz (fun _ => PP.ret (h.bad u))
  have all : ∀ x9 : Int32, PP (mb_simple_272 fu x4 x6 x7 x8 x9 F G) (fun r F1 G1 => XQ L [] F0 G0 r F1 G1) := by
    intro x9
    unfold mb_simple_272
    refine PP.ite (fun _ => yes _) (fun _ => ?_)
    unfold mb_simple_281
    refine PP.ite (fun _ => yes _) (fun _ => ?_)
    unfold mb_simple_288
    refine PP.ite (fun _ => yes _) (fun _ => ?_)
    unfold mb_simple_295
    refine PP.ite (fun _ => yes _) (fun _ => ?_)
    unfold mb_simple_300
    refine PP.ite (fun _ => yes _) (fun _ => ?_)
    unfold mb_simple_306
    refine PP.ite (fun _ => yes _) (fun _ => ?_)
    unfold mb_simple_312
    refine PP.ite (fun _ => no _) (fun _ => ?_)
    unfold mb_simple_318
    exact PP.ite (fun _ => no _) (fun _ => yes _)
  unfold mb_simple_246
  refine PP.ix (fun _ => PP.ite (fun _ => ?_) (fun _ => all _))
  unfold mb_simple_259
  exact PP.ix (fun _ => all _)
/-- what the name means, where it is typed -/
def MT (L : List Nat) (F0 : PF) (G0 : PG) (F : PF) (x2 x4 : Int32) : Prop := ST L F0 G0 → F 47 = 0 → ¬ x2 = -1 ∧ mnR F0 x2 ∧ (x4 = 0 → G0 17 x2.toNatClampNeg = 1) ∧ (¬ x4 = 0 → G0 17 x2.toNatClampNeg = 2)
theorem sm_229 (hg : GP F0) (x2 x4 x6 x7 x8 : Int32) (F : PF) (G : PG) (h : PE L F0 G0 F G []) (hm : MT L F0 G0 F x2 x4) (hk : TK L F0 G0 F x4 x7 x8) : PP (mb_simple_229 fu x2 x4 x6 x7 x8 F G) (fun r F1 G1 => XQ L [] F0 G0 r F1 G1) := by
  unfold mb_simple_229
  refine PP.ite (fun c => ?_) (fun c => ?_)
  · exact sm_246 x4 x6 x7 x8 F G (by rw [show shE x4 = [] from if_pos c]; exact h) hk
  · unfold mb_simple_236
    refine PP.bind (mg_element x2 F G h.2.1) ?_
    rintro r F1 G1 ⟨K, q, t⟩
    dsimp only
    unfold mb_simple_241
    rcases q.1 with rfl | rfl
    · rw [if_pos rfl]
      unfold mb_simple_244
      exact PP.ret (Or.inr ⟨rfl, h.2.exB K rfl rfl q⟩)
    · rw [if_neg (by decide)]
      refine sm_246 x4 x6 x7 x8 F1 G1 ⟨KX.tr h.1 K rfl rfl, ?_⟩ (hk.mo q.2.2.2.2.1)
      rw [show shE x4 = [1] from if_neg c]
      have q7 := q.2.2.2.2.1
      refine h.2.ex2 K rfl rfl q (fun hS0 hS h47 => ?_)
      obtain ⟨t1, t2, t3⟩ := t rfl L hS h47
      obtain ⟨m1, m2, m3, m4⟩ := hm hS0 (q7 h47)
      have hE : EOK F G x2 := EOK.mk m2 m1 h.1 rfl (by rw [h.1.2 17 rfl]; exact m4 c)
      exact ⟨t1, t2, fun A d hA => t3 hE A [] d hA (bd_of h.2.1 (by decide))⟩
theorem sm_212 (hg : GP F0) (x2 x4 x6 x7 : Int32) (F : PF) (G : PG) (h : PE L F0 G0 F G []) (hm : MT L F0 G0 F x2 x4) (h7 : ¬ x2 = -1 → (x7 = 0 ↔ G0 23 x2.toNatClampNeg = 0)) : PP (mb_simple_212 fu x2 x4 x6 x7 F G) (fun r F1 G1 => XQ L [] F0 G0 r F1 G1) := by
  unfold mb_simple_212
  refine PP.ite (fun c => ?_) (fun c => ?_)
  · unfold mb_simple_219
    exact sm_229 hg x2 x4 x6 x7 0 F G h hm (fun hS h47 _ => absurd c (hm hS h47).1)
  · unfold mb_simple_223
    refine PP.ix (fun _ => sm_229 hg x2 x4 x6 x7 _ F G h hm (fun hS h47 c4 => ?_))
    obtain ⟨m1, m2, m3, m4⟩ := hm hS h47
    have k1 := m3 c4
    have hT := hS.tp hg
    have z := h.2.2.2.2.1 h47
    rw [h.1.2 20 rfl]
    have n0 : ¬ G0 17 x2.toNatClampNeg = 0 := by rw [k1]; decide
    have n2 : ¬ G0 17 x2.toNatClampNeg = 2 := by rw [k1]; decide
    refine ⟨fun c7 => ?_, fun c7 => ?_⟩
    · exact DI.ld1 hT hS.2.1 z (KX.rf (a := []) (b := [])) rfl m2 m1 n0 n2 (fun q => c7 ((h7 c).mpr q))
    · exact DI.ld3 hT hS.2.1 z (KX.rf (a := []) (b := [])) rfl m2 m1 n0 n2 ((h7 c).mp c7)
theorem sm_172 (hg : GP F0) (x2 x4 : Int32) (F : PF) (G : PG) (h : PE L F0 G0 F G []) (hm : MT L F0 G0 F x2 x4) : PP (mb_simple_172 fu x2 x4 F G) (fun r F1 G1 => XQ L [] F0 G0 r F1 G1) := by
  have nx : ∀ x6 : Int32, PP (mb_simple_191 fu x2 x4 x6 F G) (fun r F1 G1 => XQ L [] F0 G0 r F1 G1) := by
    intro x6
    unfold mb_simple_191 mb_simple_198 mb_simple_211 mb_simple_207
    refine PP.ite (fun c => ?_) (fun c => ?_)
    · exact sm_212 hg x2 x4 x6 0 F G h hm (fun q => absurd c q)
    · refine PP.ix (fun _ => PP.ite (fun c1 => ?_) (fun c1 => ?_))
      · rw [h.1.2 23 rfl] at c1
        exact sm_212 hg x2 x4 x6 0 F G h hm (fun _ => ⟨fun _ => c1, fun _ => rfl⟩)
      · rw [h.1.2 23 rfl] at c1
        exact sm_212 hg x2 x4 x6 1 F G h hm (fun _ => ⟨fun q => absurd q (by decide), fun q => absurd q c1⟩)
  unfold mb_simple_172 mb_simple_177 mb_simple_190 mb_simple_186
  exact PP.ite (fun _ => nx _) (fun _ => PP.ix (fun _ => PP.ite (fun _ => nx _) (fun _ => nx _)))
/-- a note: nothing is typed behind it -/
theorem PE.note {s : SH} {F : PF} {G : PG} (h : PE L F0 G0 F G s) (k p : Int32) (hk : 0 < k.toInt) : PP (mf_note fu k p F G) (fun _ F1 G1 => PE L F0 G0 F1 G1 s ∧ (ST L F0 G0 → ¬ F1 47 = 0)) := by
  refine PP.mono (PP.and (mp_note k p hk F G) (mm_note k p hk F G)) ?_
  rintro r F1 G1 ⟨⟨K, rfl, n1, -⟩, hM⟩
  refine ⟨h.kx K hM.1 rfl rfl rfl rfl rfl rfl, fun hS q => ?_⟩
  have := n1 (by rw [h.1.1 46 rfl]; exact hS.n0)
  rw [q] at this
  exact absurd this (by decide)
theorem sm_111 (hg : GP F0) (x1 x2 x3 x4 : Int32) (F : PF) (G : PG) (h : PE L F0 G0 F G []) (h3 : (ST L F0 G0 → ¬ F 47 = 0) ∨ x3 = 0) (hm : ST L F0 G0 → F 47 = 0 → mnR F0 x2) : PP (mb_simple_111 fu x1 x2 x3 x4 F G) (fun r F1 G1 => XQ L [] F0 G0 r F1 G1) := by
  have no : PP (mb_simple_149 fu x1 x2 x3 x4 0 F G) (fun r F1 G1 => XQ L [] F0 G0 r F1 G1) := by
    unfold mb_simple_149
    refine PP.ite (fun c => ?_) (fun c => ?_)
    · unfold mb_simple_155
      rw [if_pos rfl]
      unfold mb_simple_160
      refine PP.ix (fun _ => PP.bind (h.note 6 _ (by decide)) ?_)
      rintro r F1 G1 ⟨q, q1⟩
      dsimp only
      exact sm_172 hg x2 x4 F1 G1 q (fun hS z => absurd z (q1 hS))
    · rcases h3 with q | q
      · exact sm_172 hg x2 x4 F G h (fun hS z => absurd z (q hS))
      · exact absurd q c
  have yes : ¬ x2 = -1 → (x4 = 0 → G0 17 x2.toNatClampNeg = 1) → (¬ x4 = 0 → G0 17 x2.toNatClampNeg = 2) → PP (mb_simple_149 fu x1 x2 x3 x4 1 F G) (fun r F1 G1 => XQ L [] F0 G0 r F1 G1) := by
    intro c0 c1 c2
    have nx := sm_172 (fu := fu) hg x2 x4 F G h (fun hS z => ⟨c0, hm hS z, c1, c2⟩)
    unfold mb_simple_149
    refine PP.ite (fun c => ?_) (fun c => nx)
    unfold mb_simple_155
    rw [if_neg (by decide)]
    exact nx
  unfold mb_simple_111 mb_simple_116 mb_simple_134 mb_simple_121 mb_simple_148 mb_simple_131 mb_simple_144
  refine PP.ite (fun _ => no) (fun c => PP.ite (fun c4 => ?_) (fun c4 => ?_))
  · refine PP.ix (fun _ => PP.ite (fun c1 => ?_) (fun _ => no))
    rw [h.1.2 17 rfl] at c1
    exact yes c (fun _ => c1) (fun q => absurd c4 q)
  · refine PP.ix (fun _ => PP.ite (fun c1 => ?_) (fun _ => no))
    rw [h.1.2 17 rfl] at c1
    exact yes c (fun q => absurd q c4) (fun _ => c1)
theorem sm_87 (hg : GP F0) (x1 x2 x3 : Int32) (F : PF) (G : PG) (h : PE L F0 G0 F G []) (hm : ST L F0 G0 → F 47 = 0 → mnR F0 x2) : PP (mb_simple_87 fu x1 x2 x3 F G) (fun r F1 G1 => XQ L [] F0 G0 r F1 G1) := by
  unfold mb_simple_87
  refine PP.bind (mp_isSign 24 F G) ?_
  rintro x4 _ _ ⟨rfl, rfl, -⟩
  dsimp only
  unfold mb_simple_94
  refine PP.ite (fun c => sm_111 hg x1 x2 x3 x4 F G h (Or.inr c) hm) (fun c => ?_)
  unfold mb_simple_100
  refine PP.ix (fun _ => PP.bind (h.note 4 _ (by decide)) ?_)
  rintro r F1 G1 ⟨q, q1⟩
  dsimp only
  exact sm_111 hg x1 x2 x3 x4 F1 G1 q (Or.inl q1) (fun hS z => absurd z (q1 hS))
end SIMPLE
theorem mg_simple {fu : Nat} {L : List Nat} (F : PF) (G : PG) (hg : GP F) : PP (mf_simple fu F G) (fun r F1 G1 => XQ L [] F G r F1 G1) := by
  have h0 : PE L F G F G [] := ⟨KX.rf, PQ.rf hg⟩
  unfold mf_simple mb_simple_0
  refine PP.bind (mp_name F G) ?_
  rintro r F1 G1 (⟨rfl, rfl, rfl, -, -, -⟩ | ⟨rfl, u, -⟩)
  · dsimp only
    generalize F 42 + 1 - 1 = n
    have h1 : PE L F G (fup F 42 (F 42 + 1)) G [] := h0.f42
    generalize fup F 42 (F 42 + 1) = F1 at h1
    unfold mb_simple_4
    refine PP.ite (fun _ => ?_) (fun c => ?_)
    · unfold mb_simple_14
      refine PP.bind (mp_isSign 22 F1 G) ?_
      rintro z0 _ _ ⟨rfl, rfl, -⟩
      dsimp only
      unfold mb_simple_20
      refine PP.ite (fun _ => ?_) (fun _ => ?_)
      · unfold mb_simple_45
        refine PP.ite (fun c46 => ?_) (fun c46 => ?_)
        · unfold mb_simple_52 mb_simple_61
          refine PP.ite (fun _ => ?_) (fun c => ?_)
          · unfold mb_simple_86
            exact sm_87 hg n (-1) 0 F1 G h1 (fun hS _ => Or.inl rfl)
          · rw [c46] at c
            exact absurd (by decide) c
        · unfold mb_simple_56
          refine PP.bind (PP.and (mw_meaning n F1 G) (fun r F2 G2 e (hS : ST L F G) => mp_meaning n F1 G (by rw [h1.1.1 14 rfl]; exact hS.2.2.2.1) (by rw [h1.1.1 24 rfl]; exact hS.2.2.2.2.1) r F2 G2 e)) ?_
          rintro m F2 G2 ⟨K, t⟩
          dsimp only
          have h2 : PE L F G F2 G2 [] := h1.kx K (M7.kx K rfl) rfl rfl rfl rfl rfl rfl
          have hm : ST L F G → F2 47 = 0 → mnR F m := fun hS _ => mnR.e (t hS).2.2.1 (h1.1.1 14 rfl)
          have nx : ∀ x3 : Int32, PP (mb_simple_87 fu n m x3 F2 G2) (fun r F1 G1 => XQ L [] F G r F1 G1) := fun x3 => sm_87 hg n m x3 F2 G2 h2 hm
          unfold mb_simple_61 mb_simple_69 mb_simple_74 mb_simple_86 mb_simple_82
          exact PP.ite (fun _ => nx _) (fun _ => PP.ite (fun _ => PP.ite (fun _ => nx _) (fun _ => nx _)) (fun _ => nx _))
      · unfold mb_simple_23
        refine PP.bind (mg_call n 0 F1 G h1.2.1) ?_
        rintro r F2 G2 ⟨K, q, t⟩
        dsimp only
        unfold mb_simple_29
        rcases q.1 with rfl | rfl
        · rw [if_pos rfl]
          unfold mb_simple_32
          exact PP.ret (Or.inr ⟨rfl, h1.2.exB K rfl rfl q⟩)
        · rw [if_neg (by decide)]
          have h2 : PE L F G F2 G2 [0] := by
            refine ⟨KX.tr h1.1 K rfl rfl, h1.2.ex K rfl rfl q (fun hS h47 => ?_)⟩
            obtain ⟨t1, t2, t3⟩ := t rfl L hS h47
            exact ⟨t1, t2, fun A d hA => t3 A [] d hA (bd_of h1.2.1 (by decide))⟩
          unfold mb_simple_34
          refine PP.bind (h2.step 18 0 0 [] (by decide) (fun hS _ _ => ?_)) ?_
          · exact Or.inr (Or.inr (Or.inr (Or.inr ⟨hS.m, Or.inr (Or.inr (Or.inr (Or.inr (Or.inr (Or.inr (Or.inr (Or.inr (Or.inr (Or.inl ⟨rfl, rfl⟩)))))))))⟩)))
          · rintro r F3 G3 ⟨-, q3⟩
            dsimp only
            unfold mb_simple_42
            exact PP.ret q3.good
    · exact absurd (by rw [h1.2.1.2.1]; decide) c
  · dsimp only
    unfold mb_simple_4
    refine PP.ite (fun c => ?_) (fun _ => ?_)
    · have := u.1
      have := i_le.mp c
      have : (0 : Int32).toInt = 0 := rfl
      omega
    · unfold mb_simple_12
      exact PP.ret (h0.bad u)
