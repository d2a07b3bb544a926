/-- the typing of a text so far, where statements stand -/
def ST (L : List Nat) (F : PF) (G : PG) : Prop := F 46 = 1 ∧ F 54 = 0 ∧ FTb F G ∧ 0 ≤ (F 14).toInt ∧ 0 ≤ (F 24).toInt ∧ (F 47 = 0 → DI (XS L F G) F G ∧ cellsOf L ≤ 8 ∧ 0 ≤ (F 52).toInt ∧ (F 52).toInt ≤ 200 ∧ (cellsOf L : Int) ≤ (F 53).toInt ∧ (F 53).toInt ≤ (cellsOf L : Int) + 4 * (F 52).toInt)
theorem ST.n0 {L : List Nat} {F : PF} {G : PG} (h : ST L F G) : ¬ F 46 = 0 := by rw [h.1]; decide
/-- before a piece of a function's text -/
def GP (F : PF) : Prop := 0 ≤ (F 60).toInt ∧ F 44 = 0 ∧ F 70 = 0 ∧ F 54 = 0 ∧ 1 ≤ (F 43).toInt ∧ (F 43).toInt ≤ 40 ∧ 0 ≤ (F 51).toInt ∧ (F 51).toInt ≤ (F 43).toInt
/-- behind it -/
def GS (F : PF) (G : PG) (r : Int32) (F1 : PF) (G1 : PG) : Prop := (r = 0 ∨ r = 1) ∧ 0 ≤ (F1 60).toInt ∧ sN F ≤ sN F1 ∧ CB F G G1 ∧ M7 F F1 ∧ (r = 0 → 0 < (F1 44).toInt) ∧ (r = 1 → F1 44 = 0 ∧ F1 43 = F 43 ∧ F1 70 = F 70 ∧ F1 51 = F 51 ∧ F1 54 = F 54)
theorem GP.gs {F F1 : PF} {G G1 : PG} (h : GP F) (h1 : GS F G 1 F1 G1) : GP F1 := by
  obtain ⟨a, b, c, d, e, f, g, i⟩ := h
  obtain ⟨-, a1, -, -, -, -, q⟩ := h1
  obtain ⟨q1, q2, q3, q4, q5⟩ := q rfl
  unfold GP
  rw [q2, q3, q4, q5]
  exact ⟨a1, q1, c, d, e, f, g, i⟩
theorem GP.kx {a b : List Nat} {F F1 : PF} {G G1 : PG} (h : GP F) (K : KX a b F G F1 G1) (e60 : a.contains 60 = false) (e44 : a.contains 44 = false) (e70 : a.contains 70 = false) (e54 : a.contains 54 = false) (e43 : a.contains 43 = false) (e51 : a.contains 51 = false) : GP F1 := by
  unfold GP
  rw [K.1 60 e60, K.1 44 e44, K.1 70 e70, K.1 54 e54, K.1 43 e43, K.1 51 e51]
  exact h
theorem GS.rf {F : PF} {G : PG} (h : GP F) : GS F G 1 F G := ⟨Or.inr rfl, h.1, Nat.le_refl _, fun _ _ => cEq.rf, M7.rf, fun q => absurd q (by decide), fun _ => ⟨h.2.1, rfl, rfl, rfl, rfl⟩⟩
theorem GS.tr {F F1 F2 : PF} {G G1 G2 : PG} {r : Int32} (h : GS F G 1 F1 G1) (h1 : GS F1 G1 r F2 G2) : GS F G r F2 G2 := by
  obtain ⟨-, a1, a2, a3, a4, -, q⟩ := h
  obtain ⟨q1, q2, q3, q4, q5⟩ := q rfl
  obtain ⟨b0, b1, b2, b3, b4, b5, p⟩ := h1
  refine ⟨b0, b1, Nat.le_trans a2 b2, CB.tr a3 a2 b3, M7.tr a4 b4, b5, fun e => ?_⟩
  obtain ⟨p1, p2, p3, p4, p5⟩ := p e
  exact ⟨p1, p2.trans q2, p3.trans q3, p4.trans q4, p5.trans q5⟩
theorem ST.tp {L : List Nat} {F : PF} {G : PG} (h : ST L F G) (hg : GP F) : TP (XS L F G) L F G := by
  obtain ⟨h46, h54, hf, h14, h24, h47⟩ := h
  obtain ⟨a, b, c, d, e, f, -, -⟩ := hg
  refine ⟨rfl, fun _ q => (h47 q).1, fun _ => hf, h14, h24, by omega, f, ?_, a⟩
  rw [c]
  decide
theorem XS.kx {L : List Nat} {a b : List Nat} {F F1 : PF} {G G1 : PG} (hK : KX a b F G F1 G1) (e : tpo a b = true) : XS L F1 G1 = XS L F G := by
  obtain ⟨e14, e24, e37, e53, e54, g17, g20, g21, g23, g27, g31, g34⟩ := tpo.e e
  have hk : kindsOf G1 = kindsOf G := by
    funext f
    unfold kindsOf
    rw [hK.2 27 g27, hK.2 31 g31, hK.2 34 g34]
  unfold XS
  rw [hK.1 24 e24, hK.1 37 e37, hK.1 53 e53, hK.1 54 e54, hk]
theorem ST.kx {L : List Nat} {a b : List Nat} {F F1 : PF} {G G1 : PG} (h : ST L F G) (hK : KX a b F G F1 G1) (hM : M7 F F1) (e : tpo a b = true) (e46 : a.contains 46 = false) (e52 : a.contains 52 = false) : ST L F1 G1 := by
  have hX := XS.kx (L := L) hK e
  obtain ⟨e14, e24, e37, e53, e54, g17, g20, g21, g23, g27, g31, g34⟩ := tpo.e e
  obtain ⟨h46, h54, hf, h14, h24, h47⟩ := h
  refine ⟨by rw [hK.1 46 e46]; exact h46, by rw [hK.1 54 e54]; exact h54, FTb.kx hf hK e, by rw [hK.1 14 e14]; exact h14, by rw [hK.1 24 e24]; exact h24, fun q => ?_⟩
  have h47 := h47 (hM q)
  rw [hX, hK.1 52 e52, hK.1 53 e53]
  refine ⟨?_, h47.2⟩
  have := h47.1
  unfold DI at this ⊢
  rw [hK.1 14 e14, hK.2 17 g17, hK.2 20 g20, hK.2 21 g21, hK.2 23 g23]
  exact this
theorem ST.lv {L : List Nat} {F F1 : PF} {G G1 : PG} {a b : List Nat} (h : ST L F G) (hK : KX a b F G F1 G1) (e46 : a.contains 46 = false) (e54 : F1 54 = F 54) (h47 : F1 47 = 0) : LV F1 := by
  refine ⟨by rw [hK.1 46 e46]; exact h.n0, fun _ => h47, fun q => absurd ?_ q⟩
  rw [e54]
  exact h.2.1
/-- an expression, a call, an element: what it brings -/
theorem mg_S1 {fu : Nat} (i : Nat) (x y : Int32) (hi : i ≠ 5) (F : PF) (G : PG) (h : GP F) : PP (mS1 fu 300 i x y F G) (fun r F1 G1 => KX [42, 43, 44, 45, 47, 48, 49, 55, 60, 62, 70] [56, 57, 58, 59, 67, 68, 69] F G F1 G1 ∧ GS F G r F1 G1 ∧ (r = 1 → ∀ L, ST L F G → F1 47 = 0 → ST L F1 G1 ∧ XS L F1 G1 = XS L F G ∧ TS (XS L F G) i x y F G F1 G1)) := by
  intro r F1 G1 e
  have hK := mwS1 300 i x y F G r F1 G1 e
  have hM := mmS1 300 i x y F G r F1 G1 e
  have hC := mcS1 300 i x y F G h.1 (by rw [h.2.2.1]; decide) r F1 G1 e
  have hR := (mrS1 (K := G 4) (V := G 5) (fu := fu) 300).2.2.2 i x y F G rfl rfl h.2.1 (fun q => absurd q hi) r F1 G1 e
  obtain ⟨c0, c1, c2, c3, c4⟩ := hC
  refine ⟨hK, ⟨c0, c1, c2, c3, hM.1, ?_, ?_⟩, ?_⟩
  · intro q
    rcases hR with ⟨q1, -⟩ | ⟨-, q1, -⟩
    · rw [q] at q1
      exact absurd q1 (by decide)
    · exact q1
  · intro q
    rcases hR with ⟨-, q1, q2, -⟩ | ⟨q1, -, -⟩
    · exact ⟨q1, q2, (c4 q).1, hK.1 51 rfl, hK.1 54 rfl⟩
    · rw [q] at q1
      exact absurd q1 (by decide)
  · intro q L hS h47
    have hT := mtS1 (X := XS L F G) (L := L) 300 i x y F G (hS.tp h) r F1 G1 e
    exact ⟨hS.kx hK hM.1 rfl rfl rfl, XS.kx hK rfl, (hT.2 q).2.2.2.2 (hS.lv hK rfl (hK.1 54 rfl) h47)⟩
theorem mg_expression {fu : Nat} (F : PF) (G : PG) (h : GP F) : PP (mf_expression fu F G) (fun r F1 G1 => KX [42, 43, 44, 45, 47, 48, 49, 55, 60, 62, 70] [56, 57, 58, 59, 67, 68, 69] F G F1 G1 ∧ GS F G r F1 G1 ∧ (r = 1 → ∀ L, ST L F G → F1 47 = 0 → ST L F1 G1 ∧ XS L F1 G1 = XS L F G ∧ TE (XS L F G) F G F1 G1 0 (fun s => 0 :: s))) := mg_S1 4 0 0 (by decide) F G h
theorem mg_call {fu : Nat} (x y : Int32) (F : PF) (G : PG) (h : GP F) : PP (mf_call fu x y F G) (fun r F1 G1 => KX [42, 43, 44, 45, 47, 48, 49, 55, 60, 62, 70] [56, 57, 58, 59, 67, 68, 69] F G F1 G1 ∧ GS F G r F1 G1 ∧ (r = 1 → ∀ L, ST L F G → F1 47 = 0 → ST L F1 G1 ∧ XS L F1 G1 = XS L F G ∧ TE (XS L F G) F G F1 G1 8 (fun s => 0 :: s))) := PP.mono (mg_S1 1 x y (by decide) F G h) (fun r F1 G1 q => ⟨q.1, q.2.1, fun e L hS h47 => ⟨(q.2.2 e L hS h47).1, (q.2.2 e L hS h47).2.1, (show F 54 = 0 → _ from (q.2.2 e L hS h47).2.2) hS.2.1⟩⟩)
theorem mg_element {fu : Nat} (x : Int32) (F : PF) (G : PG) (h : GP F) : PP (mf_element fu x F G) (fun r F1 G1 => KX [42, 43, 44, 45, 47, 48, 49, 55, 60, 62, 70] [56, 57, 58, 59, 67, 68, 69] F G F1 G1 ∧ GS F G r F1 G1 ∧ (r = 1 → ∀ L, ST L F G → F1 47 = 0 → ST L F1 G1 ∧ XS L F1 G1 = XS L F G ∧ (EOK F G x → TE (XS L F G) F G F1 G1 8 (fun s => 1 :: s)))) := PP.mono (mg_S1 3 x 0 (by decide) F G h) (fun r F1 G1 q => ⟨q.1, q.2.1, fun e L hS h47 => ⟨(q.2.2 e L hS h47).1, (q.2.2 e L hS h47).2.1, (show F 54 = 0 → EOK F G x → _ from (q.2.2 e L hS h47).2.2) hS.2.1⟩⟩)
/-- a constant's value: the code stands as it was -/
def VP (F : PF) : Prop := 0 ≤ (F 60).toInt ∧ F 44 = 0 ∧ 0 ≤ (F 70).toInt
def VQ (F : PF) (G : PG) (F1 : PF) (G1 : PG) : Prop := KX [42, 43, 44, 45, 47, 48, 49, 54, 55, 60, 62, 70, 72] [56, 57, 58, 59, 67, 68, 69, 71] F G F1 G1 ∧ F1 60 = F 60 ∧ F1 54 = F 54 ∧ CB F G G1 ∧ M7 F F1 ∧ ((F1 44 = 0 ∧ F1 43 = F 43 ∧ F1 70 = F 70) ∨ 0 < (F1 44).toInt) ∧ (DC F G → HN F1)
theorem mg_value {fu : Nat} (F : PF) (G : PG) (h : VP F) : PP (mf_value fu F G) (fun _ F1 G1 => VQ F G F1 G1) := by
  intro r F1 G1 e
  have hR := mr_value (K := G 4) (V := G 5) F G rfl rfl h.2.1 r F1 G1 e
  have hW := mw_value F G r F1 G1 e
  have hN := mn_value F G r F1 G1 e
  have key : PP (mf_value fu F G) (fun _ F1 G1 => F1 60 = F 60 ∧ F1 54 = F 54 ∧ CB F G G1 ∧ (DC F G → HN F1) ∧ (0 < (F1 44).toInt ∨ F1 70 = F 70)) := by
    unfold mf_value mb_value_0 mb_value_10 mb_value_15
    have e44 : (fup (fup F 54 1) 55 0) 44 = 0 := h.2.1
    refine PP.bind (PP.and (PP.and (mwS1 300 4 0 0 (fup (fup F 54 1) 55 0) G) (mcS1 300 4 0 0 (fup (fup F 54 1) 55 0) G h.1 h.2.2)) (PP.and ((mrS1 (K := G 4) (V := G 5) (fu := fu) 300).2.2.2 4 0 0 (fup (fup F 54 1) 55 0) G rfl rfl e44 (fun q => absurd q (by decide))) (fun r2 F2 G2 e2 (hd : DC F G) => mhS1 300 4 0 0 (fup (fup F 54 1) 55 0) G hd (Or.inl rfl) r2 F2 G2 e2))) ?_
    rintro r2 F2 G2 ⟨⟨hK, c0, c1, c2, c3, c4⟩, hR2, hH⟩
    dsimp only
    unfold mb_value_24
    refine PP.bz (fun _ => ?_)
    have h70 : 0 < (F2 44).toInt ∨ F2 70 = F 70 := by
      rcases hR2 with ⟨q, -⟩ | ⟨-, q, -⟩
      · exact Or.inr (c4 q).1
      · exact Or.inl q
    have fin : ∀ (v : Int32) (F3 : PF) (G3 : PG), KX [72] [71] (fup F2 54 (F 54)) G2 F3 G3 → PP (mb_value_60 fu (F 60) v F3 G3) (fun _ F1 G1 => F1 60 = F 60 ∧ F1 54 = F 54 ∧ CB F G G1 ∧ (DC F G → HN F1) ∧ (0 < (F1 44).toInt ∨ F1 70 = F 70)) := by
      intro v F3 G3 K
      unfold mb_value_60 mb_value_66
      refine PP.ret ⟨rfl, K.1 54 rfl, CB.kx c3 K rfl rfl rfl rfl, fun hd => ?_, ?_⟩
      · have q := hH hd
        unfold HN at q ⊢
        show F3 55 = 0 ∨ ¬ F3 47 = 0
        rw [K.1 55 rfl, K.1 47 rfl]
        exact q
      · show 0 < (F3 44).toInt ∨ F3 70 = F 70
        rw [K.1 44 rfl, K.1 70 rfl]
        exact h70
    have no : PP (mb_value_51 fu (F 60) (fup F2 54 (F 54)) G2) (fun _ F1 G1 => F1 60 = F 60 ∧ F1 54 = F 54 ∧ CB F G G1 ∧ (DC F G → HN F1) ∧ (0 < (F1 44).toInt ∨ F1 70 = F 70)) := fin 0 _ _ KX.rf
    unfold mb_value_30
    refine PP.ite (fun _ => no) (fun _ => ?_)
    unfold mb_value_37
    refine PP.ite (fun _ => no) (fun _ => ?_)
    unfold mb_value_44
    refine PP.ite (fun _ => ?_) (fun _ => no)
    unfold mb_value_55
    refine PP.bind (mw_reckon (F 60) (fup F2 54 (F 54)) G2) ?_
    intro r3 F3 G3 K
    dsimp only
    exact fin r3 F3 G3 K
  obtain ⟨k1, k2, k3, k4, k5⟩ := key r F1 G1 e
  refine ⟨hW, k1, k2, k3, hN, ?_, k4⟩
  rcases hR with ⟨-, q1, q2, -⟩ | ⟨-, q, -⟩
  · rcases k5 with k | k
    · rw [q1] at k
      exact absurd k (by decide)
    · exact Or.inl ⟨q1, q2, k⟩
  · exact Or.inr q
/-- a size -/
theorem mg_sizeHere {fu : Nat} (F : PF) (G : PG) (h : VP F) : PP (mf_sizeHere fu F G) (fun r F1 G1 => VQ F G F1 G1 ∧ (r = -1 ∨ (1 ≤ r.toInt ∧ r.toInt ≤ 500)) ∧ (DC F G → F1 47 = 0 → ¬ r = -1)) := by
  unfold mf_sizeHere mb_sizeHere_0
  refine PP.ix (fun _ => ?_)
  refine PP.bind (mg_value F G h) ?_
  intro r F1 G1 hV
  dsimp only
  have l1 : (1 : Int32).toInt = 1 := rfl
  have l5 : (500 : Int32).toInt = 500 := rfl
  have one : PP (mb_sizeHere_29 fu F1 G1) (fun r F1 G1 => VQ F G F1 G1 ∧ (r = -1 ∨ (1 ≤ r.toInt ∧ r.toInt ≤ 500)) ∧ (DC F G → F1 47 = 0 → ¬ r = -1)) := by
    unfold mb_sizeHere_29
    exact PP.ret ⟨hV, Or.inr ⟨by decide, by decide⟩, fun _ _ => by decide⟩
  unfold mb_sizeHere_14
  refine PP.ite (fun _ => one) (fun _ => ?_)
  unfold mb_sizeHere_22
  refine PP.ite (fun _ => one) (fun h46 => ?_)
  unfold mb_sizeHere_31
  refine PP.ite (fun _ => ?_) (fun h55 => ?_)
  · have nt : PP (mb_sizeHere_54 fu (G 6 (F 42).toNatClampNeg) F1 G1) (fun r F1 G1 => VQ F G F1 G1 ∧ (r = -1 ∨ (1 ≤ r.toInt ∧ r.toInt ≤ 500)) ∧ (DC F G → F1 47 = 0 → ¬ r = -1)) := by
      unfold mb_sizeHere_54
      refine PP.bind (PP.and (mp_note 10 _ (by decide) F1 G1) (mm_note 10 _ (by decide) F1 G1)) ?_
      rintro _ F2 G2 ⟨⟨K, rfl, n1, -⟩, hM⟩
      dsimp only
      unfold mb_sizeHere_61
      obtain ⟨v1, v2, v3, v4, v5, v6, v7⟩ := hV
      refine PP.ret ⟨⟨KX.tr v1 K rfl rfl, (K.1 60 rfl).trans v2, (K.1 54 rfl).trans v3, v4, M7.tr v5 hM.1, ?_, fun hd => ?_⟩, Or.inl rfl, fun _ q => ?_⟩
      · rw [K.1 44 rfl, K.1 43 rfl, K.1 70 rfl]
        exact v6
      · exact HN.mo (v7 hd) K hM rfl
      · have := n1 h46
        rw [q] at this
        exact absurd this (by decide)
    unfold mb_sizeHere_40
    refine PP.ite (fun _ => nt) (fun c1 => ?_)
    unfold mb_sizeHere_45
    refine PP.ite (fun _ => nt) (fun c2 => ?_)
    unfold mb_sizeHere_52
    have d1 := mt i_lt.mpr c1
    have d2 := mt i_lt.mpr c2
    refine PP.ret ⟨hV, Or.inr ⟨by omega, by omega⟩, fun _ _ q => ?_⟩
    rw [q] at d1
    exact d1 (by decide)
  · unfold mb_sizeHere_38
    refine PP.ret ⟨hV, Or.inl rfl, fun hd q => ?_⟩
    rcases hV.2.2.2.2.2.2 hd with q1 | q1
    · exact absurd q1 h55
    · exact absurd q q1
