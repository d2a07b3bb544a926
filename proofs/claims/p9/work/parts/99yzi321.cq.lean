def CFS (F F1 : PF) : Prop := ((¬ F 14 = 0 ∧ F 11 = -2) → (¬ F1 14 = 0 ∧ F1 11 = -2)) ∧ ((F 43).toInt ≤ 4000 → (F1 43).toInt ≤ 4000)
theorem CFS.rf {F : PF} : CFS F F := ⟨id, id⟩
theorem CFS.tr {F F1 F2 : PF} (h : CFS F F1) (h1 : CFS F1 F2) : CFS F F2 := ⟨fun q => h1.1 (h.1 q), fun q => h1.2 (h.2 q)⟩
theorem CFS.f {F F1 : PF} {k : Nat} {x : Int32} (e : (k == 11 || k == 14 || k == 43) = false) (h : CFS F F1) : CFS F (fup F1 k x) := by
  have e1 : 11 ≠ k := fun q => by rw [← q] at e; cases e
  have e2 : 14 ≠ k := fun q => by rw [← q] at e; cases e
  have e3 : 43 ≠ k := fun q => by rw [← q] at e; cases e
  unfold CFS
  rw [fup_n e1, fup_n e2, fup_n e3]
  exact h
theorem CFS.k {F F1 : PF} {G G1 : PG} {a b : List Nat} (h : KX a b F G F1 G1) (e1 : a.contains 11 = false) (e2 : a.contains 14 = false) (e3 : a.contains 43 = false) : CFS F F1 := by
  unfold CFS
  rw [h.1 11 e1, h.1 14 e2, h.1 43 e3]
  exact ⟨id, id⟩
theorem kq_X2_fail {fu : Nat} (x1 : Int32) (F : PF) (G : PG) : PP (cf_X2_fail fu x1 F G) (fun _ F' _ => CFS F F') := by
  unfold cf_X2_fail cb_X2_fail_0 cb_X2_fail_7 cb_X2_fail_20 cb_X2_fail_26
  refine PP.ite (fun c => PP.ret ⟨fun q => absurd c q.1, fun q => ?_⟩) (fun c => PP.ret ⟨fun q => ⟨?_, fup_s⟩, fun q => ?_⟩)
  · rw [fup_n (by decide), fup_n (by decide)]
    exact q
  · rw [fup_n (by decide)]
    exact q.1
  · rw [fup_n (by decide)]
    exact q
theorem kq_X2_next {fu : Nat} (F : PF) (G : PG) : PP (cf_X2_next fu F G) (fun _ F' _ => CFS F F') := by
  unfold cf_X2_next cb_X2_next_0 cb_X2_next_7 cb_X2_next_17
  exact PP.ite (fun c => PP.bind (cw_X2_comeTo _ F G) (fun r F1 G1 k => PP.ret ⟨fun q => absurd c q.1, fun q => by show (F1 43).toInt ≤ 4000; rw [k.1 43 rfl]; exact q⟩)) (fun c => PP.ret CFS.rf)
theorem kq_X2_expect {fu : Nat} (x1 : Int32) (hx : ¬ x1 = -2) (F : PF) (G : PG) : PP (cf_X2_expect fu x1 F G) (fun _ F' _ => CFS F F') := by
  unfold cf_X2_expect cb_X2_expect_0 cb_X2_expect_8 cb_X2_expect_18 cb_X2_expect_21 cb_X2_expect_26
  exact PP.ite (fun c => PP.bind (cw_X2_comeTo _ F G) (fun r F1 G1 k => PP.ret ⟨fun q => absurd (c.symm.trans q.2) hx, fun q => by show (F1 43).toInt ≤ 4000; rw [k.1 43 rfl]; exact q⟩)) (fun c => PP.bind (kq_X2_fail 2 F G) (fun r F1 G1 k => PP.ret k))
theorem kq_X2_opens {fu : Nat} (x1 : Int32) (hx : ¬ x1 = -2) (F : PF) (G : PG) : PP (cf_X2_opens fu x1 F G) (fun _ F' _ => CFS F F') := by
  unfold cf_X2_opens cb_X2_opens_0 cb_X2_opens_8 cb_X2_opens_13 cb_X2_opens_15 cb_X2_opens_24 cb_X2_opens_29 cb_X2_opens_31 cb_X2_opens_41 cb_X2_opens_51
  exact PP.ite (fun c => PP.ite (fun _ => PP.bind (cw_X2_comeTo _ _ G) (fun r F1 G1 k => PP.ret ⟨fun q => absurd (c.symm.trans q.2) hx, fun q => by show (F1 43).toInt ≤ 4000; rw [k.1 43 rfl, fup_n (by decide)]; exact q⟩)) (fun _ => PP.bind (kq_X2_fail 3 F G) (fun r F1 G1 k => PP.ret k))) (fun c => PP.bind (kq_X2_fail 2 F G) (fun r F1 G1 k => PP.ret k))
theorem kq_X2_closesWith {fu : Nat} (x1 : Int32) (hx : ¬ x1 = -2) (F : PF) (G : PG) : PP (cf_X2_closesWith fu x1 F G) (fun _ F' _ => CFS F F') := by
  unfold cf_X2_closesWith cb_X2_closesWith_0 cb_X2_closesWith_10 cb_X2_closesWith_18 cb_X2_closesWith_28 cb_X2_closesWith_31 cb_X2_closesWith_36
  refine PP.ite (fun c => PP.bind (cw_X2_comeTo _ _ G) (fun r F1 G1 k => PP.ret ⟨fun q => ?_, fun q => ?_⟩)) (fun c => PP.bind (kq_X2_fail 2 _ G) (fun r F1 G1 k => PP.ret (CFS.tr (CFS.f (k := 10) rfl CFS.rf) k)))
  · rw [fup_n (by decide)] at c
    exact absurd (c.symm.trans q.2) hx
  · show (F1 43).toInt ≤ 4000
    rw [k.1 43 rfl, fup_n (by decide)]
    exact q
theorem kq_X5_note {fu : Nat} (x1 x2 : Int32) (F : PF) (G : PG) : PP (cf_X5_note fu x1 x2 F G) (fun _ F' _ => CFS F F') := by
  unfold cf_X5_note cb_X5_note_0 cb_X5_note_7 cb_X5_note_11 cb_X5_note_19 cb_X5_note_20
  refine PP.ite (fun _ => PP.ret CFS.rf) (fun _ => PP.ite (fun _ => PP.ret CFS.rf) (fun _ => PP.ite (fun _ => ?_) (fun _ => PP.ret CFS.rf)))
  have h0 : CFS F (fup F 47 0) := CFS.f (k := 47) rfl CFS.rf
  have h49 : x2.toInt ≤ ((fup F 47 0) 43).toInt → PP (cb_X5_note_49 fu x1 x2 (fup F 47 0) G) (fun _ F' _ => CFS F F') := by
    intro c
    unfold cb_X5_note_49 cb_X5_note_54 cb_X5_note_59
    refine PP.ret (CFS.f (k := 44) rfl ⟨fun q => ?_, fun q => ?_⟩)
    · rw [fup_n (by decide), fup_n (by decide)]
      exact h0.1 q
    · rw [fup_s]
      have := h0.2 q
      omega
  unfold cb_X5_note_25 cb_X5_note_33 cb_X5_note_41 cb_X5_note_59
  refine PP.ite (fun c => h49 ?_) (fun _ => PP.ite (fun c => PP.ite (fun _ => PP.ret h0) (fun _ => h49 ?_)) (fun _ => PP.ret h0))
  · have := i_lt.mp c
    omega
  · rw [c]
    omega
theorem kqj_X5_wantArray_15 {fu : Nat} {F0 : PF} (F : PF) (G : PG) (hK : CFS F0 F) : PP (cb_X5_wantArray_15 fu F G) (fun _ F' _ => CFS F0 F') := by
  unfold cb_X5_wantArray_15
  refine PP.ret ?_
  exact hK
theorem kqj_X5_wantArray_9 {fu : Nat} {F0 : PF} (x2 : Int32) (F : PF) (G : PG) (hK : CFS F0 F) : PP (cb_X5_wantArray_9 fu x2 F G) (fun _ F' _ => CFS F0 F') := by
  unfold cb_X5_wantArray_9
  refine PP.bind (kq_X5_note (2 : Int32) x2 F G) ?_
  intro r1 F1 G1 hK1
  dsimp only
  exact kqj_X5_wantArray_15 F1 G1 (CFS.tr hK hK1)
theorem kqj_X5_wantArray_5 {fu : Nat} {F0 : PF} (x2 : Int32) (x3 : Int32) (z0 : Int32) (F : PF) (G : PG) (hK : CFS F0 F) : PP (cb_X5_wantArray_5 fu x2 x3 z0 F G) (fun _ F' _ => CFS F0 F') := by
  unfold cb_X5_wantArray_5
  refine PP.ite (fun c_1 => ?_) (fun c_1 => ?_)
  · skip
    exact kqj_X5_wantArray_15 F G hK
  · skip
    exact kqj_X5_wantArray_9 x2 F G hK
theorem kq_X5_wantArray {fu : Nat} (x1 : Int32) (x2 : Int32) (x3 : Int32) (F : PF) (G : PG) : PP (cf_X5_wantArray fu x1 x2 x3 F G) (fun _ F' _ => CFS F F') := by
  unfold cf_X5_wantArray
  unfold cb_X5_wantArray_0
  refine PP.bind (cw_X5_kind x1 F G) ?_
  intro r1 F1 G1 hK1
  dsimp only
  exact kqj_X5_wantArray_5 x2 x3 r1 F1 G1 (CFS.tr CFS.rf (CFS.k hK1 rfl rfl rfl))
theorem kqj_X5_meant_7 {fu : Nat} {F0 : PF} (F : PF) (G : PG) (hK : CFS F0 F) : PP (cb_X5_meant_7 fu F G) (fun _ F' _ => CFS F0 F') := by
  unfold cb_X5_meant_7
  refine PP.ret ?_
  exact hK
theorem kqj_X5_meant_26 {fu : Nat} {F0 : PF} (x3 : Int32) (F : PF) (G : PG) (hK : CFS F0 F) : PP (cb_X5_meant_26 fu x3 F G) (fun _ F' _ => CFS F0 F') := by
  unfold cb_X5_meant_26
  refine PP.ret ?_
  exact hK
theorem kqj_X5_meant_20 {fu : Nat} {F0 : PF} (x2 : Int32) (x3 : Int32) (F : PF) (G : PG) (hK : CFS F0 F) : PP (cb_X5_meant_20 fu x2 x3 F G) (fun _ F' _ => CFS F0 F') := by
  unfold cb_X5_meant_20
  refine PP.bind (kq_X5_note (0 : Int32) x2 F G) ?_
  intro r1 F1 G1 hK1
  dsimp only
  exact kqj_X5_meant_26 x3 F1 G1 (CFS.tr hK hK1)
theorem kqj_X5_meant_14 {fu : Nat} {F0 : PF} (x2 : Int32) (z0 : Int32) (F : PF) (G : PG) (hK : CFS F0 F) : PP (cb_X5_meant_14 fu x2 z0 F G) (fun _ F' _ => CFS F0 F') := by
  unfold cb_X5_meant_14
  refine PP.ite (fun c_1 => ?_) (fun c_1 => ?_)
  · skip
    exact kqj_X5_meant_20 x2 z0 F G hK
  · skip
    exact kqj_X5_meant_26 z0 F G hK
theorem kqj_X5_meant_9 {fu : Nat} {F0 : PF} (x1 : Int32) (x2 : Int32) (F : PF) (G : PG) (hK : CFS F0 F) : PP (cb_X5_meant_9 fu x1 x2 F G) (fun _ F' _ => CFS F0 F') := by
  unfold cb_X5_meant_9
  refine PP.bind (cw_X5_known x1 F G) ?_
  intro r1 F1 G1 hK1
  dsimp only
  exact kqj_X5_meant_14 x2 r1 F1 G1 (CFS.tr hK (CFS.k hK1 rfl rfl rfl))
theorem kq_X5_meant {fu : Nat} (x1 : Int32) (x2 : Int32) (F : PF) (G : PG) : PP (cf_X5_meant fu x1 x2 F G) (fun _ F' _ => CFS F F') := by
  unfold cf_X5_meant
  unfold cb_X5_meant_0
  refine PP.ite (fun c_1 => ?_) (fun c_1 => ?_)
  · skip
    exact kqj_X5_meant_7 F G CFS.rf
  · skip
    exact kqj_X5_meant_9 x1 x2 F G CFS.rf
theorem kqj_X5_wantValue_13 {fu : Nat} {F0 : PF} (F : PF) (G : PG) (hK : CFS F0 F) : PP (cb_X5_wantValue_13 fu F G) (fun _ F' _ => CFS F0 F') := by
  unfold cb_X5_wantValue_13
  refine PP.ret ?_
  exact hK
theorem kqj_X5_wantValue_104 {fu : Nat} {F0 : PF} (F : PF) (G : PG) (hK : CFS F0 F) : PP (cb_X5_wantValue_104 fu F G) (fun _ F' _ => CFS F0 F') := by
  unfold cb_X5_wantValue_104
  refine PP.ret ?_
  exact hK
theorem kqj_X5_wantValue_98 {fu : Nat} {F0 : PF} (x2 : Int32) (F : PF) (G : PG) (hK : CFS F0 F) : PP (cb_X5_wantValue_98 fu x2 F G) (fun _ F' _ => CFS F0 F') := by
  unfold cb_X5_wantValue_98
  refine PP.bind (kq_X5_note (5 : Int32) x2 F G) ?_
  intro r1 F1 G1 hK1
  dsimp only
  exact kqj_X5_wantValue_104 F1 G1 (CFS.tr hK hK1)
theorem kqj_X5_wantValue_95 {fu : Nat} {F0 : PF} (x2 : Int32) (z0 : Int32) (F : PF) (G : PG) (hK : CFS F0 F) : PP (cb_X5_wantValue_95 fu x2 z0 F G) (fun _ F' _ => CFS F0 F') := by
  unfold cb_X5_wantValue_95
  refine PP.ite (fun c_1 => ?_) (fun c_1 => ?_)
  · skip
    exact kqj_X5_wantValue_98 x2 F G hK
  · skip
    exact kqj_X5_wantValue_104 F G hK
theorem kqj_X5_wantValue_82 {fu : Nat} {F0 : PF} (x1 : Int32) (x2 : Int32) (F : PF) (G : PG) (hK : CFS F0 F) : PP (cb_X5_wantValue_82 fu x1 x2 F G) (fun _ F' _ => CFS F0 F') := by
  unfold cb_X5_wantValue_82
  refine PP.ix (fun _ => ?_)
  refine PP.bind (cw_X8_gives (G 37 x1.toNatClampNeg) F G) ?_
  intro r1 F1 G1 hK1
  dsimp only
  exact kqj_X5_wantValue_95 x2 r1 F1 G1 (CFS.tr hK (CFS.k hK1 rfl rfl rfl))
theorem kqj_X5_wantValue_76 {fu : Nat} {F0 : PF} (x1 : Int32) (x2 : Int32) (x4 : Int32) (F : PF) (G : PG) (hK : CFS F0 F) : PP (cb_X5_wantValue_76 fu x1 x2 x4 F G) (fun _ F' _ => CFS F0 F') := by
  unfold cb_X5_wantValue_76
  refine PP.ite (fun c_1 => ?_) (fun c_1 => ?_)
  · skip
    exact kqj_X5_wantValue_82 x1 x2 F G hK
  · skip
    exact kqj_X5_wantValue_104 F G hK
theorem kqj_X5_wantValue_70 {fu : Nat} {F0 : PF} (x1 : Int32) (x2 : Int32) (x4 : Int32) (F : PF) (G : PG) (hK : CFS F0 F) : PP (cb_X5_wantValue_70 fu x1 x2 x4 F G) (fun _ F' _ => CFS F0 F') := by
  unfold cb_X5_wantValue_70
  refine PP.bind (kq_X5_note (4 : Int32) x2 F G) ?_
  intro r1 F1 G1 hK1
  dsimp only
  exact kqj_X5_wantValue_76 x1 x2 x4 F1 G1 (CFS.tr hK hK1)
theorem kqj_X5_wantValue_67 {fu : Nat} {F0 : PF} (x1 : Int32) (x2 : Int32) (x4 : Int32) (z0 : Int32) (F : PF) (G : PG) (hK : CFS F0 F) : PP (cb_X5_wantValue_67 fu x1 x2 x4 z0 F G) (fun _ F' _ => CFS F0 F') := by
  unfold cb_X5_wantValue_67
  refine PP.ite (fun c_1 => ?_) (fun c_1 => ?_)
  · skip
    exact kqj_X5_wantValue_70 x1 x2 x4 F G hK
  · skip
    exact kqj_X5_wantValue_76 x1 x2 x4 F G hK
theorem kqj_X5_wantValue_63 {fu : Nat} {F0 : PF} (x1 : Int32) (x2 : Int32) (x3 : Int32) (x4 : Int32) (z0 : Int32) (F : PF) (G : PG) (hK : CFS F0 F) : PP (cb_X5_wantValue_63 fu x1 x2 x3 x4 z0 F G) (fun _ F' _ => CFS F0 F') := by
  unfold cb_X5_wantValue_63
  refine PP.bind (cw_X5_fits z0 x3 F G) ?_
  intro r1 F1 G1 hK1
  dsimp only
  exact kqj_X5_wantValue_67 x1 x2 x4 r1 F1 G1 (CFS.tr hK (CFS.k hK1 rfl rfl rfl))
theorem kqj_X5_wantValue_57 {fu : Nat} {F0 : PF} (x1 : Int32) (x2 : Int32) (x3 : Int32) (x4 : Int32) (F : PF) (G : PG) (hK : CFS F0 F) : PP (cb_X5_wantValue_57 fu x1 x2 x3 x4 F G) (fun _ F' _ => CFS F0 F') := by
  unfold cb_X5_wantValue_57
  exact kqj_X5_wantValue_63 x1 x2 x3 x4 (1 : Int32) F G hK
theorem kqj_X5_wantValue_61 {fu : Nat} {F0 : PF} (x1 : Int32) (x2 : Int32) (x3 : Int32) (x4 : Int32) (F : PF) (G : PG) (hK : CFS F0 F) : PP (cb_X5_wantValue_61 fu x1 x2 x3 x4 F G) (fun _ F' _ => CFS F0 F') := by
  unfold cb_X5_wantValue_61
  exact kqj_X5_wantValue_63 x1 x2 x3 x4 x4 F G hK
theorem kqj_X5_wantValue_52 {fu : Nat} {F0 : PF} (x1 : Int32) (x2 : Int32) (x3 : Int32) (x4 : Int32) (F : PF) (G : PG) (hK : CFS F0 F) : PP (cb_X5_wantValue_52 fu x1 x2 x3 x4 F G) (fun _ F' _ => CFS F0 F') := by
  unfold cb_X5_wantValue_52
  refine PP.ite (fun c_1 => ?_) (fun c_1 => ?_)
  · skip
    exact kqj_X5_wantValue_57 x1 x2 x3 x4 F G hK
  · skip
    exact kqj_X5_wantValue_61 x1 x2 x3 x4 F G hK
theorem kqj_X5_wantValue_45 {fu : Nat} {F0 : PF} (x1 : Int32) (x2 : Int32) (x3 : Int32) (x4 : Int32) (F : PF) (G : PG) (hK : CFS F0 F) : PP (cb_X5_wantValue_45 fu x1 x2 x3 x4 F G) (fun _ F' _ => CFS F0 F') := by
  unfold cb_X5_wantValue_45
  refine PP.ite (fun c_1 => ?_) (fun c_1 => ?_)
  · skip
    exact kqj_X5_wantValue_52 x1 x2 x3 x4 F G hK
  · skip
    exact kqj_X5_wantValue_76 x1 x2 x4 F G hK
theorem kqj_X5_wantValue_38 {fu : Nat} {F0 : PF} (x1 : Int32) (x2 : Int32) (x3 : Int32) (x4 : Int32) (F : PF) (G : PG) (hK : CFS F0 F) : PP (cb_X5_wantValue_38 fu x1 x2 x3 x4 F G) (fun _ F' _ => CFS F0 F') := by
  unfold cb_X5_wantValue_38
  refine PP.bind (kq_X5_note (7 : Int32) x2 F G) ?_
  intro r1 F1 G1 hK1
  dsimp only
  exact kqj_X5_wantValue_45 x1 x2 x3 x4 F1 G1 (CFS.tr hK hK1)
theorem kqj_X5_wantValue_32 {fu : Nat} {F0 : PF} (x1 : Int32) (x2 : Int32) (x3 : Int32) (x4 : Int32) (F : PF) (G : PG) (hK : CFS F0 F) : PP (cb_X5_wantValue_32 fu x1 x2 x3 x4 F G) (fun _ F' _ => CFS F0 F') := by
  unfold cb_X5_wantValue_32
  refine PP.ite (fun c_1 => ?_) (fun c_1 => ?_)
  · skip
    exact kqj_X5_wantValue_38 x1 x2 x3 x4 F G hK
  · skip
    exact kqj_X5_wantValue_45 x1 x2 x3 x4 F G hK
theorem kqj_X5_wantValue_26 {fu : Nat} {F0 : PF} (x1 : Int32) (x2 : Int32) (x3 : Int32) (x4 : Int32) (F : PF) (G : PG) (hK : CFS F0 F) : PP (cb_X5_wantValue_26 fu x1 x2 x3 x4 F G) (fun _ F' _ => CFS F0 F') := by
  unfold cb_X5_wantValue_26
  refine PP.ite (fun c_1 => ?_) (fun c_1 => ?_)
  · skip
    exact kqj_X5_wantValue_38 x1 x2 x3 x4 F G hK
  · skip
    exact kqj_X5_wantValue_32 x1 x2 x3 x4 F G hK
theorem kqj_X5_wantValue_21 {fu : Nat} {F0 : PF} (x1 : Int32) (x2 : Int32) (x3 : Int32) (x4 : Int32) (F : PF) (G : PG) (hK : CFS F0 F) : PP (cb_X5_wantValue_21 fu x1 x2 x3 x4 F G) (fun _ F' _ => CFS F0 F') := by
  unfold cb_X5_wantValue_21
  refine PP.ite (fun c_1 => ?_) (fun c_1 => ?_)
  · skip
    exact kqj_X5_wantValue_26 x1 x2 x3 x4 F G hK
  · skip
    exact kqj_X5_wantValue_38 x1 x2 x3 x4 F G hK
theorem kqj_X5_wantValue_14 {fu : Nat} {F0 : PF} (x1 : Int32) (x2 : Int32) (x3 : Int32) (x4 : Int32) (F : PF) (G : PG) (hK : CFS F0 F) : PP (cb_X5_wantValue_14 fu x1 x2 x3 x4 F G) (fun _ F' _ => CFS F0 F') := by
  unfold cb_X5_wantValue_14
  refine PP.ite (fun c_1 => ?_) (fun c_1 => ?_)
  · skip
    exact kqj_X5_wantValue_45 x1 x2 x3 x4 F G hK
  · skip
    exact kqj_X5_wantValue_21 x1 x2 x3 x4 F G hK
theorem kqj_X5_wantValue_5 {fu : Nat} {F0 : PF} (x1 : Int32) (x2 : Int32) (x3 : Int32) (z0 : Int32) (F : PF) (G : PG) (hK : CFS F0 F) : PP (cb_X5_wantValue_5 fu x1 x2 x3 z0 F G) (fun _ F' _ => CFS F0 F') := by
  unfold cb_X5_wantValue_5
  refine PP.ite (fun c_1 => ?_) (fun c_1 => ?_)
  · skip
    exact kqj_X5_wantValue_13 F G hK
  · skip
    exact kqj_X5_wantValue_14 x1 x2 x3 z0 F G hK
theorem kq_X5_wantValue {fu : Nat} (x1 : Int32) (x2 : Int32) (x3 : Int32) (F : PF) (G : PG) : PP (cf_X5_wantValue fu x1 x2 x3 F G) (fun _ F' _ => CFS F F') := by
  unfold cf_X5_wantValue
  unfold cb_X5_wantValue_0
  refine PP.bind (cw_X5_kind x1 F G) ?_
  intro r1 F1 G1 hK1
  dsimp only
  exact kqj_X5_wantValue_5 x1 x2 x3 r1 F1 G1 (CFS.tr CFS.rf (CFS.k hK1 rfl rfl rfl))
def kQI1 (rc : RC) : Prop := ∀ (i : Nat) (x y : Int32) (F : PF) (G : PG), PP (rc i x y F G) (fun _ F' _ => CFS F F')
theorem kqj_X3_call_48 {fu : Nat} (rc : RC) (ih : kQI1 rc) {F0 : PF} (F : PF) (G : PG) (hK : CFS F0 F) : PP (cb_X3_call_48 fu rc F G) (fun _ F' _ => CFS F0 F') := by
  unfold cb_X3_call_48
  refine PP.ret ?_
  exact hK
theorem kqj_X3_call_308 {fu : Nat} (rc : RC) (ih : kQI1 rc) {F0 : PF} (F : PF) (G : PG) (hK : CFS F0 F) : PP (cb_X3_call_308 fu rc F G) (fun _ F' _ => CFS F0 F') := by
  unfold cb_X3_call_308
  refine PP.ret ?_
  exact hK
theorem kqj_X3_call_300 {fu : Nat} (rc : RC) (ih : kQI1 rc) {F0 : PF} (x2 : Int32) (F : PF) (G : PG) (hK : CFS F0 F) : PP (cb_X3_call_300 fu rc x2 F G) (fun _ F' _ => CFS F0 F') := by
  unfold cb_X3_call_300
  refine PP.bind (cw_X1_add x2 F G) ?_
  intro r1 F1 G1 hK1
  dsimp only
  exact kqj_X3_call_308 rc ih F1 G1 (CFS.tr hK (CFS.k hK1 rfl rfl rfl))
theorem kqj_X3_call_289 {fu : Nat} (rc : RC) (ih : kQI1 rc) {F0 : PF} (x2 : Int32) (x4 : Int32) (F : PF) (G : PG) (hK : CFS F0 F) : PP (cb_X3_call_289 fu rc x2 x4 F G) (fun _ F' _ => CFS F0 F') := by
  unfold cb_X3_call_289
  refine PP.bind (cw_X1_addPair (90 : Int32) x4 F G) ?_
  intro r1 F1 G1 hK1
  dsimp only
  exact kqj_X3_call_300 rc ih x2 F1 G1 (CFS.tr hK (CFS.k hK1 rfl rfl rfl))
theorem kqj_X3_call_280 {fu : Nat} (rc : RC) (ih : kQI1 rc) {F0 : PF} (x2 : Int32) (x4 : Int32) (F : PF) (G : PG) (hK : CFS F0 F) : PP (cb_X3_call_280 fu rc x2 x4 F G) (fun _ F' _ => CFS F0 F') := by
  unfold cb_X3_call_280
  refine PP.bind (kq_X2_closesWith (20 : Int32) (by decide) F G) ?_
  intro r1 F1 G1 hK1
  dsimp only
  exact kqj_X3_call_289 rc ih x2 x4 F1 G1 (CFS.tr hK hK1)
theorem kqj_X3_call_265 {fu : Nat} (rc : RC) (ih : kQI1 rc) {F0 : PF} (x2 : Int32) (x4 : Int32) (F : PF) (G : PG) (hK : CFS F0 F) : PP (cb_X3_call_265 fu rc x2 x4 F G) (fun _ F' _ => CFS F0 F') := by
  unfold cb_X3_call_265
  refine PP.bind (kq_X5_note (2 : Int32) (F 13) F G) ?_
  intro r1 F1 G1 hK1
  dsimp only
  exact kqj_X3_call_280 rc ih x2 x4 F1 G1 (CFS.tr hK hK1)
theorem kqj_X3_call_261 {fu : Nat} (rc : RC) (ih : kQI1 rc) {F0 : PF} (x2 : Int32) (x4 : Int32) (z0 : Int32) (F : PF) (G : PG) (hK : CFS F0 F) : PP (cb_X3_call_261 fu rc x2 x4 z0 F G) (fun _ F' _ => CFS F0 F') := by
  unfold cb_X3_call_261
  refine PP.ite (fun c_1 => ?_) (fun c_1 => ?_)
  · skip
    exact kqj_X3_call_280 rc ih x2 x4 F G hK
  · skip
    exact kqj_X3_call_265 rc ih x2 x4 F G hK
theorem kqj_X3_call_250 {fu : Nat} (rc : RC) (ih : kQI1 rc) {F0 : PF} (x2 : Int32) (x4 : Int32) (x5 : Int32) (F : PF) (G : PG) (hK : CFS F0 F) : PP (cb_X3_call_250 fu rc x2 x4 x5 F G) (fun _ F' _ => CFS F0 F') := by
  unfold cb_X3_call_250
  refine PP.bind (cw_X8_formalKind x4 x5 F G) ?_
  intro r1 F1 G1 hK1
  dsimp only
  exact kqj_X3_call_261 rc ih x2 x4 r1 F1 G1 (CFS.tr hK (CFS.k hK1 rfl rfl rfl))
theorem kqj_X3_call_246 {fu : Nat} (rc : RC) (ih : kQI1 rc) {F0 : PF} (x2 : Int32) (x3 : Int32) (x4 : Int32) (x5 : Int32) (F : PF) (G : PG) (hK : CFS F0 F) : PP (cb_X3_call_246 fu rc x2 x3 x4 x5 F G) (fun _ F' _ => CFS F0 F') := by
  unfold cb_X3_call_246
  refine PP.ite (fun c_1 => ?_) (fun c_1 => ?_)
  · skip
    exact kqj_X3_call_280 rc ih x2 x4 F G hK
  · skip
    exact kqj_X3_call_250 rc ih x2 x4 x5 F G hK
theorem kqj_X3_call_240 {fu : Nat} (rc : RC) (ih : kQI1 rc) {F0 : PF} (ag_74 : Int32 → Int32 → Int32 → Int32 → Int32 → Int32 → PF → PG → PR) (hag_74 : ∀ (x2 : Int32) (x3 : Int32) (x4 : Int32) (x5 : Int32) (x6 : Int32) (x7 : Int32) (F : PF) (G : PG) (hK : CFS F0 F), PP (ag_74 x2 x3 x4 x5 x6 x7 F G) (fun _ F' _ => CFS F0 F')) (x2 : Int32) (x3 : Int32) (x4 : Int32) (x5 : Int32) (x6 : Int32) (x7 : Int32) (F : PF) (G : PG) (hK : CFS F0 F) : PP (cb_X3_call_240 fu rc ag_74 x2 x3 x4 x5 x6 x7 F G) (fun _ F' _ => CFS F0 F') := by
  unfold cb_X3_call_240
  exact hag_74 x2 x3 x4 x5 x6 (x7 + (1 : Int32)) F G hK
theorem kqj_X3_call_233 {fu : Nat} (rc : RC) (ih : kQI1 rc) {F0 : PF} (ag_74 : Int32 → Int32 → Int32 → Int32 → Int32 → Int32 → PF → PG → PR) (hag_74 : ∀ (x2 : Int32) (x3 : Int32) (x4 : Int32) (x5 : Int32) (x6 : Int32) (x7 : Int32) (F : PF) (G : PG) (hK : CFS F0 F), PP (ag_74 x2 x3 x4 x5 x6 x7 F G) (fun _ F' _ => CFS F0 F')) (x2 : Int32) (x3 : Int32) (x4 : Int32) (x5 : Int32) (x6 : Int32) (x7 : Int32) (F : PF) (G : PG) (hK : CFS F0 F) : PP (cb_X3_call_233 fu rc ag_74 x2 x3 x4 x5 x6 x7 F G) (fun _ F' _ => CFS F0 F') := by
  unfold cb_X3_call_233
  refine PP.bind (kq_X2_next F G) ?_
  intro r1 F1 G1 hK1
  dsimp only
  exact kqj_X3_call_240 rc ih ag_74 hag_74 x2 x3 x4 x5 x6 x7 F1 G1 (CFS.tr hK hK1)
theorem kqj_X3_call_226 {fu : Nat} (rc : RC) (ih : kQI1 rc) {F0 : PF} (ag_74 : Int32 → Int32 → Int32 → Int32 → Int32 → Int32 → PF → PG → PR) (hag_74 : ∀ (x2 : Int32) (x3 : Int32) (x4 : Int32) (x5 : Int32) (x6 : Int32) (x7 : Int32) (F : PF) (G : PG) (hK : CFS F0 F), PP (ag_74 x2 x3 x4 x5 x6 x7 F G) (fun _ F' _ => CFS F0 F')) (x2 : Int32) (x3 : Int32) (x4 : Int32) (x5 : Int32) (x7 : Int32) (z0 : Int32) (F : PF) (G : PG) (hK : CFS F0 F) : PP (cb_X3_call_226 fu rc ag_74 x2 x3 x4 x5 x7 z0 F G) (fun _ F' _ => CFS F0 F') := by
  unfold cb_X3_call_226
  refine PP.ite (fun c_1 => ?_) (fun c_1 => ?_)
  · skip
    exact kqj_X3_call_240 rc ih ag_74 hag_74 x2 x3 x4 x5 z0 x7 F G hK
  · skip
    exact kqj_X3_call_233 rc ih ag_74 hag_74 x2 x3 x4 x5 z0 x7 F G hK
theorem kqj_X3_call_221 {fu : Nat} (rc : RC) (ih : kQI1 rc) {F0 : PF} (ag_74 : Int32 → Int32 → Int32 → Int32 → Int32 → Int32 → PF → PG → PR) (hag_74 : ∀ (x2 : Int32) (x3 : Int32) (x4 : Int32) (x5 : Int32) (x6 : Int32) (x7 : Int32) (F : PF) (G : PG) (hK : CFS F0 F), PP (ag_74 x2 x3 x4 x5 x6 x7 F G) (fun _ F' _ => CFS F0 F')) (x2 : Int32) (x3 : Int32) (x4 : Int32) (x5 : Int32) (x7 : Int32) (F : PF) (G : PG) (hK : CFS F0 F) : PP (cb_X3_call_221 fu rc ag_74 x2 x3 x4 x5 x7 F G) (fun _ F' _ => CFS F0 F') := by
  unfold cb_X3_call_221
  exact kqj_X3_call_226 rc ih ag_74 hag_74 x2 x3 x4 x5 x7 (1 : Int32) F G hK
theorem kqj_X3_call_225 {fu : Nat} (rc : RC) (ih : kQI1 rc) {F0 : PF} (ag_74 : Int32 → Int32 → Int32 → Int32 → Int32 → Int32 → PF → PG → PR) (hag_74 : ∀ (x2 : Int32) (x3 : Int32) (x4 : Int32) (x5 : Int32) (x6 : Int32) (x7 : Int32) (F : PF) (G : PG) (hK : CFS F0 F), PP (ag_74 x2 x3 x4 x5 x6 x7 F G) (fun _ F' _ => CFS F0 F')) (x2 : Int32) (x3 : Int32) (x4 : Int32) (x5 : Int32) (x7 : Int32) (F : PF) (G : PG) (hK : CFS F0 F) : PP (cb_X3_call_225 fu rc ag_74 x2 x3 x4 x5 x7 F G) (fun _ F' _ => CFS F0 F') := by
  unfold cb_X3_call_225
  exact kqj_X3_call_226 rc ih ag_74 hag_74 x2 x3 x4 x5 x7 (0 : Int32) F G hK
theorem kqj_X3_call_206 {fu : Nat} (rc : RC) (ih : kQI1 rc) {F0 : PF} (ag_74 : Int32 → Int32 → Int32 → Int32 → Int32 → Int32 → PF → PG → PR) (hag_74 : ∀ (x2 : Int32) (x3 : Int32) (x4 : Int32) (x5 : Int32) (x6 : Int32) (x7 : Int32) (F : PF) (G : PG) (hK : CFS F0 F), PP (ag_74 x2 x3 x4 x5 x6 x7 F G) (fun _ F' _ => CFS F0 F')) (x2 : Int32) (x3 : Int32) (x4 : Int32) (x5 : Int32) (x7 : Int32) (F : PF) (G : PG) (hK : CFS F0 F) : PP (cb_X3_call_206 fu rc ag_74 x2 x3 x4 x5 x7 F G) (fun _ F' _ => CFS F0 F') := by
  unfold cb_X3_call_206
  refine PP.ite (fun c_1 => ?_) (fun c_1 => ?_)
  · skip
    exact kqj_X3_call_221 rc ih ag_74 hag_74 x2 x3 x4 (x5 + (1 : Int32)) x7 F G hK
  · skip
    exact kqj_X3_call_225 rc ih ag_74 hag_74 x2 x3 x4 (x5 + (1 : Int32)) x7 F G hK
theorem kqj_X3_call_202 {fu : Nat} (rc : RC) (ih : kQI1 rc) {F0 : PF} (ag_74 : Int32 → Int32 → Int32 → Int32 → Int32 → Int32 → PF → PG → PR) (hag_74 : ∀ (x2 : Int32) (x3 : Int32) (x4 : Int32) (x5 : Int32) (x6 : Int32) (x7 : Int32) (F : PF) (G : PG) (hK : CFS F0 F), PP (ag_74 x2 x3 x4 x5 x6 x7 F G) (fun _ F' _ => CFS F0 F')) (x2 : Int32) (x3 : Int32) (x4 : Int32) (x5 : Int32) (x7 : Int32) (F : PF) (G : PG) (hK : CFS F0 F) : PP (cb_X3_call_202 fu rc ag_74 x2 x3 x4 x5 x7 F G) (fun _ F' _ => CFS F0 F') := by
  unfold cb_X3_call_202
  refine PP.bind (ih 1 0 0 F G) ?_
  intro r1 F1 G1 hK1
  dsimp only
  exact kqj_X3_call_206 rc ih ag_74 hag_74 x2 x3 x4 x5 x7 F1 G1 (CFS.tr hK hK1)
theorem kqj_X3_call_187 {fu : Nat} (rc : RC) (ih : kQI1 rc) {F0 : PF} (ag_74 : Int32 → Int32 → Int32 → Int32 → Int32 → Int32 → PF → PG → PR) (hag_74 : ∀ (x2 : Int32) (x3 : Int32) (x4 : Int32) (x5 : Int32) (x6 : Int32) (x7 : Int32) (F : PF) (G : PG) (hK : CFS F0 F), PP (ag_74 x2 x3 x4 x5 x6 x7 F G) (fun _ F' _ => CFS F0 F')) (x2 : Int32) (x3 : Int32) (x4 : Int32) (x5 : Int32) (x7 : Int32) (F : PF) (G : PG) (hK : CFS F0 F) : PP (cb_X3_call_187 fu rc ag_74 x2 x3 x4 x5 x7 F G) (fun _ F' _ => CFS F0 F') := by
  unfold cb_X3_call_187
  refine PP.bind (kq_X5_note (2 : Int32) (F 13) F G) ?_
  intro r1 F1 G1 hK1
  dsimp only
  exact kqj_X3_call_202 rc ih ag_74 hag_74 x2 x3 x4 x5 x7 F1 G1 (CFS.tr hK hK1)
theorem kqj_X3_call_181 {fu : Nat} (rc : RC) (ih : kQI1 rc) {F0 : PF} (ag_74 : Int32 → Int32 → Int32 → Int32 → Int32 → Int32 → PF → PG → PR) (hag_74 : ∀ (x2 : Int32) (x3 : Int32) (x4 : Int32) (x5 : Int32) (x6 : Int32) (x7 : Int32) (F : PF) (G : PG) (hK : CFS F0 F), PP (ag_74 x2 x3 x4 x5 x6 x7 F G) (fun _ F' _ => CFS F0 F')) (x2 : Int32) (x3 : Int32) (x4 : Int32) (x5 : Int32) (x7 : Int32) (x8 : Int32) (F : PF) (G : PG) (hK : CFS F0 F) : PP (cb_X3_call_181 fu rc ag_74 x2 x3 x4 x5 x7 x8 F G) (fun _ F' _ => CFS F0 F') := by
  unfold cb_X3_call_181
  refine PP.ite (fun c_1 => ?_) (fun c_1 => ?_)
  · skip
    exact kqj_X3_call_202 rc ih ag_74 hag_74 x2 x3 x4 x5 x7 F G hK
  · skip
    exact kqj_X3_call_187 rc ih ag_74 hag_74 x2 x3 x4 x5 x7 F G hK
theorem kqj_X3_call_178 {fu : Nat} (rc : RC) (ih : kQI1 rc) {F0 : PF} (ag_74 : Int32 → Int32 → Int32 → Int32 → Int32 → Int32 → PF → PG → PR) (hag_74 : ∀ (x2 : Int32) (x3 : Int32) (x4 : Int32) (x5 : Int32) (x6 : Int32) (x7 : Int32) (F : PF) (G : PG) (hK : CFS F0 F), PP (ag_74 x2 x3 x4 x5 x6 x7 F G) (fun _ F' _ => CFS F0 F')) (x2 : Int32) (x3 : Int32) (x4 : Int32) (x5 : Int32) (x7 : Int32) (F : PF) (G : PG) (hK : CFS F0 F) : PP (cb_X3_call_178 fu rc ag_74 x2 x3 x4 x5 x7 F G) (fun _ F' _ => CFS F0 F') := by
  unfold cb_X3_call_178
  exact kqj_X3_call_206 rc ih ag_74 hag_74 x2 x3 x4 x5 x7 F G hK
theorem kqj_X3_call_171 {fu : Nat} (rc : RC) (ih : kQI1 rc) {F0 : PF} (ag_74 : Int32 → Int32 → Int32 → Int32 → Int32 → Int32 → PF → PG → PR) (hag_74 : ∀ (x2 : Int32) (x3 : Int32) (x4 : Int32) (x5 : Int32) (x6 : Int32) (x7 : Int32) (F : PF) (G : PG) (hK : CFS F0 F), PP (ag_74 x2 x3 x4 x5 x6 x7 F G) (fun _ F' _ => CFS F0 F')) (x2 : Int32) (x3 : Int32) (x4 : Int32) (x5 : Int32) (x7 : Int32) (F : PF) (G : PG) (hK : CFS F0 F) : PP (cb_X3_call_171 fu rc ag_74 x2 x3 x4 x5 x7 F G) (fun _ F' _ => CFS F0 F') := by
  unfold cb_X3_call_171
  refine PP.bind (kq_X2_next F G) ?_
  intro r1 F1 G1 hK1
  dsimp only
  exact kqj_X3_call_178 rc ih ag_74 hag_74 x2 x3 x4 x5 x7 F1 G1 (CFS.tr hK hK1)
theorem kqj_X3_call_165 {fu : Nat} (rc : RC) (ih : kQI1 rc) {F0 : PF} (ag_74 : Int32 → Int32 → Int32 → Int32 → Int32 → Int32 → PF → PG → PR) (hag_74 : ∀ (x2 : Int32) (x3 : Int32) (x4 : Int32) (x5 : Int32) (x6 : Int32) (x7 : Int32) (F : PF) (G : PG) (hK : CFS F0 F), PP (ag_74 x2 x3 x4 x5 x6 x7 F G) (fun _ F' _ => CFS F0 F')) (x2 : Int32) (x3 : Int32) (x4 : Int32) (x5 : Int32) (x7 : Int32) (x9 : Int32) (F : PF) (G : PG) (hK : CFS F0 F) : PP (cb_X3_call_165 fu rc ag_74 x2 x3 x4 x5 x7 x9 F G) (fun _ F' _ => CFS F0 F') := by
  unfold cb_X3_call_165
  refine PP.bind (cw_X3_pass x9 F G) ?_
  intro r1 F1 G1 hK1
  dsimp only
  exact kqj_X3_call_171 rc ih ag_74 hag_74 x2 x3 x4 x5 x7 F1 G1 (CFS.tr hK (CFS.k hK1 rfl rfl rfl))
theorem kqj_X3_call_145 {fu : Nat} (rc : RC) (ih : kQI1 rc) {F0 : PF} (ag_74 : Int32 → Int32 → Int32 → Int32 → Int32 → Int32 → PF → PG → PR) (hag_74 : ∀ (x2 : Int32) (x3 : Int32) (x4 : Int32) (x5 : Int32) (x6 : Int32) (x7 : Int32) (F : PF) (G : PG) (hK : CFS F0 F), PP (ag_74 x2 x3 x4 x5 x6 x7 F G) (fun _ F' _ => CFS F0 F')) (x2 : Int32) (x3 : Int32) (x4 : Int32) (x5 : Int32) (x7 : Int32) (x8 : Int32) (z0 : Int32) (F : PF) (G : PG) (hK : CFS F0 F) : PP (cb_X3_call_145 fu rc ag_74 x2 x3 x4 x5 x7 x8 z0 F G) (fun _ F' _ => CFS F0 F') := by
  unfold cb_X3_call_145
  refine PP.bind (kq_X5_wantArray z0 (F 13) x8 F G) ?_
  intro r1 F1 G1 hK1
  dsimp only
  exact kqj_X3_call_165 rc ih ag_74 hag_74 x2 x3 x4 x5 x7 z0 F1 G1 (CFS.tr hK hK1)
theorem kqj_X3_call_124 {fu : Nat} (rc : RC) (ih : kQI1 rc) {F0 : PF} (ag_74 : Int32 → Int32 → Int32 → Int32 → Int32 → Int32 → PF → PG → PR) (hag_74 : ∀ (x2 : Int32) (x3 : Int32) (x4 : Int32) (x5 : Int32) (x6 : Int32) (x7 : Int32) (F : PF) (G : PG) (hK : CFS F0 F), PP (ag_74 x2 x3 x4 x5 x6 x7 F G) (fun _ F' _ => CFS F0 F')) (x2 : Int32) (x3 : Int32) (x4 : Int32) (x5 : Int32) (x7 : Int32) (x8 : Int32) (F : PF) (G : PG) (hK : CFS F0 F) : PP (cb_X3_call_124 fu rc ag_74 x2 x3 x4 x5 x7 x8 F G) (fun _ F' _ => CFS F0 F') := by
  unfold cb_X3_call_124
  refine PP.bind (kq_X5_meant (F 12) (F 13) F G) ?_
  intro r1 F1 G1 hK1
  dsimp only
  exact kqj_X3_call_145 rc ih ag_74 hag_74 x2 x3 x4 x5 x7 x8 r1 F1 G1 (CFS.tr hK hK1)
theorem kqj_X3_call_121 {fu : Nat} (rc : RC) (ih : kQI1 rc) {F0 : PF} (ag_74 : Int32 → Int32 → Int32 → Int32 → Int32 → Int32 → PF → PG → PR) (hag_74 : ∀ (x2 : Int32) (x3 : Int32) (x4 : Int32) (x5 : Int32) (x6 : Int32) (x7 : Int32) (F : PF) (G : PG) (hK : CFS F0 F), PP (ag_74 x2 x3 x4 x5 x6 x7 F G) (fun _ F' _ => CFS F0 F')) (x2 : Int32) (x3 : Int32) (x4 : Int32) (x5 : Int32) (x7 : Int32) (x8 : Int32) (z0 : Int32) (F : PF) (G : PG) (hK : CFS F0 F) : PP (cb_X3_call_121 fu rc ag_74 x2 x3 x4 x5 x7 x8 z0 F G) (fun _ F' _ => CFS F0 F') := by
  unfold cb_X3_call_121
  refine PP.ite (fun c_1 => ?_) (fun c_1 => ?_)
  · skip
    exact kqj_X3_call_181 rc ih ag_74 hag_74 x2 x3 x4 x5 x7 x8 F G hK
  · skip
    exact kqj_X3_call_124 rc ih ag_74 hag_74 x2 x3 x4 x5 x7 x8 F G hK
theorem kqj_X3_call_114 {fu : Nat} (rc : RC) (ih : kQI1 rc) {F0 : PF} (ag_74 : Int32 → Int32 → Int32 → Int32 → Int32 → Int32 → PF → PG → PR) (hag_74 : ∀ (x2 : Int32) (x3 : Int32) (x4 : Int32) (x5 : Int32) (x6 : Int32) (x7 : Int32) (F : PF) (G : PG) (hK : CFS F0 F), PP (ag_74 x2 x3 x4 x5 x6 x7 F G) (fun _ F' _ => CFS F0 F')) (x2 : Int32) (x3 : Int32) (x4 : Int32) (x5 : Int32) (x7 : Int32) (x8 : Int32) (F : PF) (G : PG) (hK : CFS F0 F) : PP (cb_X3_call_114 fu rc ag_74 x2 x3 x4 x5 x7 x8 F G) (fun _ F' _ => CFS F0 F') := by
  unfold cb_X3_call_114
  refine PP.bind (cw_X2_isNameAlone F G) ?_
  intro r1 F1 G1 hK1
  dsimp only
  exact kqj_X3_call_121 rc ih ag_74 hag_74 x2 x3 x4 x5 x7 x8 r1 F1 G1 (CFS.tr hK (CFS.k hK1 rfl rfl rfl))
theorem kqj_X3_call_106 {fu : Nat} (rc : RC) (ih : kQI1 rc) {F0 : PF} (ag_74 : Int32 → Int32 → Int32 → Int32 → Int32 → Int32 → PF → PG → PR) (hag_74 : ∀ (x2 : Int32) (x3 : Int32) (x4 : Int32) (x5 : Int32) (x6 : Int32) (x7 : Int32) (F : PF) (G : PG) (hK : CFS F0 F), PP (ag_74 x2 x3 x4 x5 x6 x7 F G) (fun _ F' _ => CFS F0 F')) (x2 : Int32) (x3 : Int32) (x4 : Int32) (x5 : Int32) (x7 : Int32) (z0 : Int32) (F : PF) (G : PG) (hK : CFS F0 F) : PP (cb_X3_call_106 fu rc ag_74 x2 x3 x4 x5 x7 z0 F G) (fun _ F' _ => CFS F0 F') := by
  unfold cb_X3_call_106
  refine PP.ite (fun c_1 => ?_) (fun c_1 => ?_)
  · skip
    exact kqj_X3_call_181 rc ih ag_74 hag_74 x2 x3 x4 x5 x7 z0 F G hK
  · skip
    exact kqj_X3_call_114 rc ih ag_74 hag_74 x2 x3 x4 x5 x7 z0 F G hK
theorem kqj_X3_call_105 {fu : Nat} (rc : RC) (ih : kQI1 rc) {F0 : PF} (ag_74 : Int32 → Int32 → Int32 → Int32 → Int32 → Int32 → PF → PG → PR) (hag_74 : ∀ (x2 : Int32) (x3 : Int32) (x4 : Int32) (x5 : Int32) (x6 : Int32) (x7 : Int32) (F : PF) (G : PG) (hK : CFS F0 F), PP (ag_74 x2 x3 x4 x5 x6 x7 F G) (fun _ F' _ => CFS F0 F')) (x2 : Int32) (x3 : Int32) (x4 : Int32) (x5 : Int32) (x7 : Int32) (F : PF) (G : PG) (hK : CFS F0 F) : PP (cb_X3_call_105 fu rc ag_74 x2 x3 x4 x5 x7 F G) (fun _ F' _ => CFS F0 F') := by
  unfold cb_X3_call_105
  exact kqj_X3_call_106 rc ih ag_74 hag_74 x2 x3 x4 x5 x7 (1 : Int32) F G hK
theorem kqj_X3_call_102 {fu : Nat} (rc : RC) (ih : kQI1 rc) {F0 : PF} (ag_74 : Int32 → Int32 → Int32 → Int32 → Int32 → Int32 → PF → PG → PR) (hag_74 : ∀ (x2 : Int32) (x3 : Int32) (x4 : Int32) (x5 : Int32) (x6 : Int32) (x7 : Int32) (F : PF) (G : PG) (hK : CFS F0 F), PP (ag_74 x2 x3 x4 x5 x6 x7 F G) (fun _ F' _ => CFS F0 F')) (x2 : Int32) (x3 : Int32) (x4 : Int32) (x5 : Int32) (x7 : Int32) (z0 : Int32) (F : PF) (G : PG) (hK : CFS F0 F) : PP (cb_X3_call_102 fu rc ag_74 x2 x3 x4 x5 x7 z0 F G) (fun _ F' _ => CFS F0 F') := by
  unfold cb_X3_call_102
  exact kqj_X3_call_106 rc ih ag_74 hag_74 x2 x3 x4 x5 x7 z0 F G hK
theorem kqj_X3_call_91 {fu : Nat} (rc : RC) (ih : kQI1 rc) {F0 : PF} (ag_74 : Int32 → Int32 → Int32 → Int32 → Int32 → Int32 → PF → PG → PR) (hag_74 : ∀ (x2 : Int32) (x3 : Int32) (x4 : Int32) (x5 : Int32) (x6 : Int32) (x7 : Int32) (F : PF) (G : PG) (hK : CFS F0 F), PP (ag_74 x2 x3 x4 x5 x6 x7 F G) (fun _ F' _ => CFS F0 F')) (x2 : Int32) (x3 : Int32) (x4 : Int32) (x5 : Int32) (x7 : Int32) (F : PF) (G : PG) (hK : CFS F0 F) : PP (cb_X3_call_91 fu rc ag_74 x2 x3 x4 x5 x7 F G) (fun _ F' _ => CFS F0 F') := by
  unfold cb_X3_call_91
  refine PP.bind (cw_X8_formalKind x4 x7 F G) ?_
  intro r1 F1 G1 hK1
  dsimp only
  exact kqj_X3_call_102 rc ih ag_74 hag_74 x2 x3 x4 x5 x7 r1 F1 G1 (CFS.tr hK (CFS.k hK1 rfl rfl rfl))
theorem kqj_X3_call_87 {fu : Nat} (rc : RC) (ih : kQI1 rc) {F0 : PF} (ag_74 : Int32 → Int32 → Int32 → Int32 → Int32 → Int32 → PF → PG → PR) (hag_74 : ∀ (x2 : Int32) (x3 : Int32) (x4 : Int32) (x5 : Int32) (x6 : Int32) (x7 : Int32) (F : PF) (G : PG) (hK : CFS F0 F), PP (ag_74 x2 x3 x4 x5 x6 x7 F G) (fun _ F' _ => CFS F0 F')) (x2 : Int32) (x3 : Int32) (x4 : Int32) (x5 : Int32) (x7 : Int32) (F : PF) (G : PG) (hK : CFS F0 F) : PP (cb_X3_call_87 fu rc ag_74 x2 x3 x4 x5 x7 F G) (fun _ F' _ => CFS F0 F') := by
  unfold cb_X3_call_87
  refine PP.ite (fun c_1 => ?_) (fun c_1 => ?_)
  · skip
    exact kqj_X3_call_105 rc ih ag_74 hag_74 x2 x3 x4 x5 x7 F G hK
  · skip
    exact kqj_X3_call_91 rc ih ag_74 hag_74 x2 x3 x4 x5 x7 F G hK
theorem kqj_X3_call_82 {fu : Nat} (rc : RC) (ih : kQI1 rc) {F0 : PF} (ag_74 : Int32 → Int32 → Int32 → Int32 → Int32 → Int32 → PF → PG → PR) (hag_74 : ∀ (x2 : Int32) (x3 : Int32) (x4 : Int32) (x5 : Int32) (x6 : Int32) (x7 : Int32) (F : PF) (G : PG) (hK : CFS F0 F), PP (ag_74 x2 x3 x4 x5 x6 x7 F G) (fun _ F' _ => CFS F0 F')) (x2 : Int32) (x3 : Int32) (x4 : Int32) (x5 : Int32) (x6 : Int32) (x7 : Int32) (F : PF) (G : PG) (hK : CFS F0 F) : PP (cb_X3_call_82 fu rc ag_74 x2 x3 x4 x5 x6 x7 F G) (fun _ F' _ => CFS F0 F') := by
  unfold cb_X3_call_82
  refine PP.ite (fun c_1 => ?_) (fun c_1 => ?_)
  · skip
    exact kqj_X3_call_246 rc ih x2 x3 x4 x5 F G hK
  · skip
    exact kqj_X3_call_87 rc ih ag_74 hag_74 x2 x3 x4 x5 x7 F G hK
theorem kqz_X3_call_74 {fu : Nat} (rc : RC) (ih : kQI1 rc) {F0 : PF} : ∀ (n : Nat) (x2 : Int32) (x3 : Int32) (x4 : Int32) (x5 : Int32) (x6 : Int32) (x7 : Int32) (F : PF) (G : PG) (hK : CFS F0 F), PP (cl_X3_call_74 fu rc n x2 x3 x4 x5 x6 x7 F G) (fun _ F' _ => CFS F0 F') := by
  intro n
  induction n with
  | zero =>
    intro x2 x3 x4 x5 x6 x7 F G hK
    exact PP.no
  | succ n ihn =>
    intro x2 x3 x4 x5 x6 x7 F G hK
    show PP (cb_X3_call_74 fu rc (cl_X3_call_74 fu rc n) x2 x3 x4 x5 x6 x7 F G) _
    unfold cb_X3_call_74
    refine PP.ite (fun c_1 => ?_) (fun c_1 => ?_)
    · skip
      exact kqj_X3_call_246 rc ih x2 x3 x4 x5 F G hK
    · skip
      exact kqj_X3_call_82 rc ih (cl_X3_call_74 fu rc n) ihn x2 x3 x4 x5 x6 x7 F G hK
theorem kqj_X3_call_69 {fu : Nat} (rc : RC) (ih : kQI1 rc) {F0 : PF} (x2 : Int32) (x3 : Int32) (x4 : Int32) (x5 : Int32) (z0 : Int32) (F : PF) (G : PG) (hK : CFS F0 F) : PP (cb_X3_call_69 fu rc x2 x3 x4 x5 z0 F G) (fun _ F' _ => CFS F0 F') := by
  unfold cb_X3_call_69
  exact kqz_X3_call_74 rc ih fu x2 x3 x4 x5 z0 (0 : Int32) F G hK
theorem kqj_X3_call_68 {fu : Nat} (rc : RC) (ih : kQI1 rc) {F0 : PF} (x2 : Int32) (x3 : Int32) (x4 : Int32) (x5 : Int32) (F : PF) (G : PG) (hK : CFS F0 F) : PP (cb_X3_call_68 fu rc x2 x3 x4 x5 F G) (fun _ F' _ => CFS F0 F') := by
  unfold cb_X3_call_68
  exact kqj_X3_call_69 rc ih x2 x3 x4 x5 (0 : Int32) F G hK
theorem kqj_X3_call_64 {fu : Nat} (rc : RC) (ih : kQI1 rc) {F0 : PF} (x2 : Int32) (x3 : Int32) (x4 : Int32) (x5 : Int32) (F : PF) (G : PG) (hK : CFS F0 F) : PP (cb_X3_call_64 fu rc x2 x3 x4 x5 F G) (fun _ F' _ => CFS F0 F') := by
  unfold cb_X3_call_64
  exact kqj_X3_call_69 rc ih x2 x3 x4 x5 (1 : Int32) F G hK
theorem kqj_X3_call_49 {fu : Nat} (rc : RC) (ih : kQI1 rc) {F0 : PF} (x2 : Int32) (x3 : Int32) (x4 : Int32) (F : PF) (G : PG) (hK : CFS F0 F) : PP (cb_X3_call_49 fu rc x2 x3 x4 F G) (fun _ F' _ => CFS F0 F') := by
  unfold cb_X3_call_49
  refine PP.ite (fun c_1 => ?_) (fun c_1 => ?_)
  · skip
    exact kqj_X3_call_68 rc ih x2 x3 x4 (0 : Int32) F G hK
  · skip
    exact kqj_X3_call_64 rc ih x2 x3 x4 (0 : Int32) F G hK
theorem kqj_X3_call_45 {fu : Nat} (rc : RC) (ih : kQI1 rc) {F0 : PF} (x2 : Int32) (x3 : Int32) (x4 : Int32) (z0 : Int32) (F : PF) (G : PG) (hK : CFS F0 F) : PP (cb_X3_call_45 fu rc x2 x3 x4 z0 F G) (fun _ F' _ => CFS F0 F') := by
  unfold cb_X3_call_45
  refine PP.ite (fun c_1 => ?_) (fun c_1 => ?_)
  · skip
    exact kqj_X3_call_48 rc ih F G hK
  · skip
    exact kqj_X3_call_49 rc ih x2 x3 x4 F G hK
theorem kqj_X3_call_34 {fu : Nat} (rc : RC) (ih : kQI1 rc) {F0 : PF} (x2 : Int32) (x3 : Int32) (z0 : Int32) (F : PF) (G : PG) (hK : CFS F0 F) : PP (cb_X3_call_34 fu rc x2 x3 z0 F G) (fun _ F' _ => CFS F0 F') := by
  unfold cb_X3_call_34
  refine PP.bind (kq_X2_opens (19 : Int32) (by decide) F G) ?_
  intro r1 F1 G1 hK1
  dsimp only
  exact kqj_X3_call_45 rc ih x2 x3 z0 r1 F1 G1 (CFS.tr hK hK1)
theorem kqj_X3_call_33 {fu : Nat} (rc : RC) (ih : kQI1 rc) {F0 : PF} (x2 : Int32) (x3 : Int32) (F : PF) (G : PG) (hK : CFS F0 F) : PP (cb_X3_call_33 fu rc x2 x3 F G) (fun _ F' _ => CFS F0 F') := by
  unfold cb_X3_call_33
  exact kqj_X3_call_34 rc ih x2 x3 (-1 : Int32) F G hK
theorem kqj_X3_call_30 {fu : Nat} (rc : RC) (ih : kQI1 rc) {F0 : PF} (x2 : Int32) (x3 : Int32) (z0 : Int32) (F : PF) (G : PG) (hK : CFS F0 F) : PP (cb_X3_call_30 fu rc x2 x3 z0 F G) (fun _ F' _ => CFS F0 F') := by
  unfold cb_X3_call_30
  exact kqj_X3_call_34 rc ih x2 x3 z0 F G hK
theorem kqj_X3_call_22 {fu : Nat} (rc : RC) (ih : kQI1 rc) {F0 : PF} (x1 : Int32) (x2 : Int32) (x3 : Int32) (F : PF) (G : PG) (hK : CFS F0 F) : PP (cb_X3_call_22 fu rc x1 x2 x3 F G) (fun _ F' _ => CFS F0 F') := by
  unfold cb_X3_call_22
  refine PP.bind (cw_X5_value x1 F G) ?_
  intro r1 F1 G1 hK1
  dsimp only
  exact kqj_X3_call_30 rc ih x2 x3 r1 F1 G1 (CFS.tr hK (CFS.k hK1 rfl rfl rfl))
theorem kqj_X3_call_17 {fu : Nat} (rc : RC) (ih : kQI1 rc) {F0 : PF} (x1 : Int32) (x2 : Int32) (z0 : Int32) (F : PF) (G : PG) (hK : CFS F0 F) : PP (cb_X3_call_17 fu rc x1 x2 z0 F G) (fun _ F' _ => CFS F0 F') := by
  unfold cb_X3_call_17
  refine PP.ite (fun c_1 => ?_) (fun c_1 => ?_)
  · skip
    exact kqj_X3_call_33 rc ih x2 z0 F G hK
  · skip
    exact kqj_X3_call_22 rc ih x1 x2 z0 F G hK
theorem kqj_X3_call_12 {fu : Nat} (rc : RC) (ih : kQI1 rc) {F0 : PF} (x1 : Int32) (x2 : Int32) (F : PF) (G : PG) (hK : CFS F0 F) : PP (cb_X3_call_12 fu rc x1 x2 F G) (fun _ F' _ => CFS F0 F') := by
  unfold cb_X3_call_12
  exact kqj_X3_call_17 rc ih x1 x2 (1 : Int32) F G hK
theorem kqj_X3_call_16 {fu : Nat} (rc : RC) (ih : kQI1 rc) {F0 : PF} (x1 : Int32) (x2 : Int32) (F : PF) (G : PG) (hK : CFS F0 F) : PP (cb_X3_call_16 fu rc x1 x2 F G) (fun _ F' _ => CFS F0 F') := by
  unfold cb_X3_call_16
  exact kqj_X3_call_17 rc ih x1 x2 (0 : Int32) F G hK
theorem kqj_X3_call_8 {fu : Nat} (rc : RC) (ih : kQI1 rc) {F0 : PF} (x1 : Int32) (x2 : Int32) (z0 : Int32) (F : PF) (G : PG) (hK : CFS F0 F) : PP (cb_X3_call_8 fu rc x1 x2 z0 F G) (fun _ F' _ => CFS F0 F') := by
  unfold cb_X3_call_8
  refine PP.ite (fun c_1 => ?_) (fun c_1 => ?_)
  · skip
    exact kqj_X3_call_12 rc ih x1 x2 F G hK
  · skip
    exact kqj_X3_call_16 rc ih x1 x2 F G hK
theorem kqt_X3_call {fu : Nat} (rc : RC) (ih : kQI1 rc) (x1 : Int32) (x2 : Int32) (F : PF) (G : PG) : PP (ch_X3_call fu rc x1 x2 F G) (fun _ F' _ => CFS F F') := by
  unfold ch_X3_call
  unfold cb_X3_call_0
  refine PP.bind (cw_X5_kind x1 F G) ?_
  intro r1 F1 G1 hK1
  dsimp only
  exact kqj_X3_call_8 rc ih x1 x2 r1 F1 G1 (CFS.tr CFS.rf (CFS.k hK1 rfl rfl rfl))
theorem kqj_X3_expression_28 {fu : Nat} (rc : RC) (ih : kQI1 rc) {F0 : PF} (F : PF) (G : PG) (hK : CFS F0 F) : PP (cb_X3_expression_28 fu rc F G) (fun _ F' _ => CFS F0 F') := by
  unfold cb_X3_expression_28
  refine PP.ret ?_
  exact hK
theorem kqj_X3_expression_105 {fu : Nat} (rc : RC) (ih : kQI1 rc) {F0 : PF} (F : PF) (G : PG) (hK : CFS F0 F) : PP (cb_X3_expression_105 fu rc F G) (fun _ F' _ => CFS F0 F') := by
  unfold cb_X3_expression_105
  refine PP.ret ?_
  exact hK
theorem kqj_X3_expression_98 {fu : Nat} (rc : RC) (ih : kQI1 rc) {F0 : PF} (F : PF) (G : PG) (hK : CFS F0 F) : PP (cb_X3_expression_98 fu rc F G) (fun _ F' _ => CFS F0 F') := by
  unfold cb_X3_expression_98
  refine PP.bind (cw_X2_closes F G) ?_
  intro r1 F1 G1 hK1
  dsimp only
  exact kqj_X3_expression_105 rc ih F1 G1 (CFS.tr hK (CFS.k hK1 rfl rfl rfl))
theorem kqj_X3_expression_83 {fu : Nat} (rc : RC) (ih : kQI1 rc) {F0 : PF} (x2 : Int32) (F : PF) (G : PG) (hK : CFS F0 F) : PP (cb_X3_expression_83 fu rc x2 F G) (fun _ F' _ => CFS F0 F') := by
  unfold cb_X3_expression_83
  refine PP.bind (cw_X1_aim x2 (F 6) F G) ?_
  intro r1 F1 G1 hK1
  dsimp only
  exact kqj_X3_expression_98 rc ih F1 G1 (CFS.tr hK (CFS.k hK1 rfl rfl rfl))
theorem kqj_X3_expression_79 {fu : Nat} (rc : RC) (ih : kQI1 rc) {F0 : PF} (x2 : Int32) (F : PF) (G : PG) (hK : CFS F0 F) : PP (cb_X3_expression_79 fu rc x2 F G) (fun _ F' _ => CFS F0 F') := by
  unfold cb_X3_expression_79
  refine PP.bind (ih 1 0 0 F G) ?_
  intro r1 F1 G1 hK1
  dsimp only
  exact kqj_X3_expression_83 rc ih x2 F1 G1 (CFS.tr hK hK1)
theorem kqj_X3_expression_63 {fu : Nat} (rc : RC) (ih : kQI1 rc) {F0 : PF} (x1 : Int32) (z0 : Int32) (F : PF) (G : PG) (hK : CFS F0 F) : PP (cb_X3_expression_63 fu rc x1 z0 F G) (fun _ F' _ => CFS F0 F') := by
  unfold cb_X3_expression_63
  refine PP.bind (cw_X1_aim x1 (F 6) F G) ?_
  intro r1 F1 G1 hK1
  dsimp only
  exact kqj_X3_expression_79 rc ih z0 F1 G1 (CFS.tr hK (CFS.k hK1 rfl rfl rfl))
theorem kqj_X3_expression_53 {fu : Nat} (rc : RC) (ih : kQI1 rc) {F0 : PF} (x1 : Int32) (F : PF) (G : PG) (hK : CFS F0 F) : PP (cb_X3_expression_53 fu rc x1 F G) (fun _ F' _ => CFS F0 F') := by
  unfold cb_X3_expression_53
  refine PP.bind (cw_X1_addJump (84 : Int32) (-1 : Int32) F G) ?_
  intro r1 F1 G1 hK1
  dsimp only
  exact kqj_X3_expression_63 rc ih x1 r1 F1 G1 (CFS.tr hK (CFS.k hK1 rfl rfl rfl))
theorem kqj_X3_expression_44 {fu : Nat} (rc : RC) (ih : kQI1 rc) {F0 : PF} (x1 : Int32) (F : PF) (G : PG) (hK : CFS F0 F) : PP (cb_X3_expression_44 fu rc x1 F G) (fun _ F' _ => CFS F0 F') := by
  unfold cb_X3_expression_44
  refine PP.bind (kq_X2_expect (28 : Int32) (by decide) F G) ?_
  intro r1 F1 G1 hK1
  dsimp only
  exact kqj_X3_expression_53 rc ih x1 F1 G1 (CFS.tr hK hK1)
theorem kqj_X3_expression_39 {fu : Nat} (rc : RC) (ih : kQI1 rc) {F0 : PF} (z0 : Int32) (F : PF) (G : PG) (hK : CFS F0 F) : PP (cb_X3_expression_39 fu rc z0 F G) (fun _ F' _ => CFS F0 F') := by
  unfold cb_X3_expression_39
  refine PP.bind (ih 1 0 0 F G) ?_
  intro r1 F1 G1 hK1
  dsimp only
  exact kqj_X3_expression_44 rc ih z0 F1 G1 (CFS.tr hK hK1)
theorem kqj_X3_expression_29 {fu : Nat} (rc : RC) (ih : kQI1 rc) {F0 : PF} (F : PF) (G : PG) (hK : CFS F0 F) : PP (cb_X3_expression_29 fu rc F G) (fun _ F' _ => CFS F0 F') := by
  unfold cb_X3_expression_29
  refine PP.bind (cw_X1_addJump (86 : Int32) (-1 : Int32) F G) ?_
  intro r1 F1 G1 hK1
  dsimp only
  exact kqj_X3_expression_39 rc ih r1 F1 G1 (CFS.tr hK (CFS.k hK1 rfl rfl rfl))
theorem kqj_X3_expression_25 {fu : Nat} (rc : RC) (ih : kQI1 rc) {F0 : PF} (z0 : Int32) (F : PF) (G : PG) (hK : CFS F0 F) : PP (cb_X3_expression_25 fu rc z0 F G) (fun _ F' _ => CFS F0 F') := by
  unfold cb_X3_expression_25
  refine PP.ite (fun c_1 => ?_) (fun c_1 => ?_)
  · skip
    exact kqj_X3_expression_28 rc ih F G hK
  · skip
    exact kqj_X3_expression_29 rc ih F G hK
theorem kqj_X3_expression_16 {fu : Nat} (rc : RC) (ih : kQI1 rc) {F0 : PF} (F : PF) (G : PG) (hK : CFS F0 F) : PP (cb_X3_expression_16 fu rc F G) (fun _ F' _ => CFS F0 F') := by
  unfold cb_X3_expression_16
  refine PP.bind (kq_X2_opens (27 : Int32) (by decide) F G) ?_
  intro r1 F1 G1 hK1
  dsimp only
  exact kqj_X3_expression_25 rc ih r1 F1 G1 (CFS.tr hK hK1)
theorem kqj_X3_expression_4 {fu : Nat} (rc : RC) (ih : kQI1 rc) {F0 : PF} (F : PF) (G : PG) (hK : CFS F0 F) : PP (cb_X3_expression_4 fu rc F G) (fun _ F' _ => CFS F0 F') := by
  unfold cb_X3_expression_4
  refine PP.ite (fun c_1 => ?_) (fun c_1 => ?_)
  · skip
    exact kqj_X3_expression_16 rc ih F G hK
  · skip
    exact kqj_X3_expression_28 rc ih F G hK
theorem kqt_X3_expression {fu : Nat} (rc : RC) (ih : kQI1 rc) (F : PF) (G : PG) : PP (ch_X3_expression fu rc F G) (fun _ F' _ => CFS F F') := by
  unfold ch_X3_expression
  unfold cb_X3_expression_0
  refine PP.bind (ih 3 0 0 F G) ?_
  intro r1 F1 G1 hK1
  dsimp only
  exact kqj_X3_expression_4 rc ih F1 G1 (CFS.tr CFS.rf hK1)
theorem kqj_X3_index_20 {fu : Nat} (rc : RC) (ih : kQI1 rc) {F0 : PF} (F : PF) (G : PG) (hK : CFS F0 F) : PP (cb_X3_index_20 fu rc F G) (fun _ F' _ => CFS F0 F') := by
  unfold cb_X3_index_20
  refine PP.ret ?_
  exact hK
theorem kqj_X3_index_140 {fu : Nat} (rc : RC) (ih : kQI1 rc) {F0 : PF} (F : PF) (G : PG) (hK : CFS F0 F) : PP (cb_X3_index_140 fu rc F G) (fun _ F' _ => CFS F0 F') := by
  unfold cb_X3_index_140
  refine PP.ret ?_
  exact hK
theorem kqj_X3_index_132 {fu : Nat} (rc : RC) (ih : kQI1 rc) {F0 : PF} (x2 : Int32) (F : PF) (G : PG) (hK : CFS F0 F) : PP (cb_X3_index_132 fu rc x2 F G) (fun _ F' _ => CFS F0 F') := by
  unfold cb_X3_index_132
  refine PP.bind (cw_X1_add x2 F G) ?_
  intro r1 F1 G1 hK1
  dsimp only
  exact kqj_X3_index_140 rc ih F1 G1 (CFS.tr hK (CFS.k hK1 rfl rfl rfl))
theorem kqj_X3_index_129 {fu : Nat} (rc : RC) (ih : kQI1 rc) {F0 : PF} (x2 : Int32) (z0 : Int32) (F : PF) (G : PG) (hK : CFS F0 F) : PP (cb_X3_index_129 fu rc x2 z0 F G) (fun _ F' _ => CFS F0 F') := by
  unfold cb_X3_index_129
  refine PP.bind (cw_X1_add z0 F G) ?_
  intro r1 F1 G1 hK1
  dsimp only
  exact kqj_X3_index_132 rc ih x2 F1 G1 (CFS.tr hK (CFS.k hK1 rfl rfl rfl))
theorem kqj_X3_index_124 {fu : Nat} (rc : RC) (ih : kQI1 rc) {F0 : PF} (x2 : Int32) (F : PF) (G : PG) (hK : CFS F0 F) : PP (cb_X3_index_124 fu rc x2 F G) (fun _ F' _ => CFS F0 F') := by
  unfold cb_X3_index_124
  exact kqj_X3_index_129 rc ih x2 (2 : Int32) F G hK
theorem kqj_X3_index_128 {fu : Nat} (rc : RC) (ih : kQI1 rc) {F0 : PF} (x2 : Int32) (F : PF) (G : PG) (hK : CFS F0 F) : PP (cb_X3_index_128 fu rc x2 F G) (fun _ F' _ => CFS F0 F') := by
  unfold cb_X3_index_128
  exact kqj_X3_index_129 rc ih x2 (0 : Int32) F G hK
theorem kqj_X3_index_120 {fu : Nat} (rc : RC) (ih : kQI1 rc) {F0 : PF} (x2 : Int32) (z0 : Int32) (F : PF) (G : PG) (hK : CFS F0 F) : PP (cb_X3_index_120 fu rc x2 z0 F G) (fun _ F' _ => CFS F0 F') := by
  unfold cb_X3_index_120
  refine PP.ite (fun c_1 => ?_) (fun c_1 => ?_)
  · skip
    exact kqj_X3_index_124 rc ih x2 F G hK
  · skip
    exact kqj_X3_index_128 rc ih x2 F G hK
theorem kqj_X3_index_108 {fu : Nat} (rc : RC) (ih : kQI1 rc) {F0 : PF} (x1 : Int32) (x2 : Int32) (F : PF) (G : PG) (hK : CFS F0 F) : PP (cb_X3_index_108 fu rc x1 x2 F G) (fun _ F' _ => CFS F0 F') := by
  unfold cb_X3_index_108
  refine PP.bind (cw_X5_kind x1 F G) ?_
  intro r1 F1 G1 hK1
  dsimp only
  exact kqj_X3_index_120 rc ih x2 r1 F1 G1 (CFS.tr hK (CFS.k hK1 rfl rfl rfl))
theorem kqj_X3_index_105 {fu : Nat} (rc : RC) (ih : kQI1 rc) {F0 : PF} (x1 : Int32) (x2 : Int32) (z0 : Int32) (F : PF) (G : PG) (hK : CFS F0 F) : PP (cb_X3_index_105 fu rc x1 x2 z0 F G) (fun _ F' _ => CFS F0 F') := by
  unfold cb_X3_index_105
  refine PP.bind (cw_X1_add z0 F G) ?_
  intro r1 F1 G1 hK1
  dsimp only
  exact kqj_X3_index_108 rc ih x1 x2 F1 G1 (CFS.tr hK (CFS.k hK1 rfl rfl rfl))
theorem kqj_X3_index_93 {fu : Nat} (rc : RC) (ih : kQI1 rc) {F0 : PF} (x1 : Int32) (x2 : Int32) (F : PF) (G : PG) (hK : CFS F0 F) : PP (cb_X3_index_93 fu rc x1 x2 F G) (fun _ F' _ => CFS F0 F') := by
  unfold cb_X3_index_93
  refine PP.bind (cw_X5_size x1 F G) ?_
  intro r1 F1 G1 hK1
  dsimp only
  exact kqj_X3_index_105 rc ih x1 x2 r1 F1 G1 (CFS.tr hK (CFS.k hK1 rfl rfl rfl))
theorem kqj_X3_index_90 {fu : Nat} (rc : RC) (ih : kQI1 rc) {F0 : PF} (x1 : Int32) (x2 : Int32) (z0 : Int32) (z1 : Int32) (F : PF) (G : PG) (hK : CFS F0 F) : PP (cb_X3_index_90 fu rc x1 x2 z0 z1 F G) (fun _ F' _ => CFS F0 F') := by
  unfold cb_X3_index_90
  refine PP.bind (cw_X1_addPair z1 z0 F G) ?_
  intro r1 F1 G1 hK1
  dsimp only
  exact kqj_X3_index_93 rc ih x1 x2 F1 G1 (CFS.tr hK (CFS.k hK1 rfl rfl rfl))
theorem kqj_X3_index_82 {fu : Nat} (rc : RC) (ih : kQI1 rc) {F0 : PF} (x1 : Int32) (x2 : Int32) (z0 : Int32) (F : PF) (G : PG) (hK : CFS F0 F) : PP (cb_X3_index_82 fu rc x1 x2 z0 F G) (fun _ F' _ => CFS F0 F') := by
  unfold cb_X3_index_82
  refine PP.bind (cw_X5_value x1 F G) ?_
  intro r1 F1 G1 hK1
  dsimp only
  exact kqj_X3_index_90 rc ih x1 x2 r1 z0 F1 G1 (CFS.tr hK (CFS.k hK1 rfl rfl rfl))
theorem kqj_X3_index_80 {fu : Nat} (rc : RC) (ih : kQI1 rc) {F0 : PF} (x1 : Int32) (x2 : Int32) (F : PF) (G : PG) (hK : CFS F0 F) : PP (cb_X3_index_80 fu rc x1 x2 F G) (fun _ F' _ => CFS F0 F') := by
  unfold cb_X3_index_80
  exact kqj_X3_index_82 rc ih x1 x2 (75 : Int32) F G hK
theorem kqj_X3_index_75 {fu : Nat} (rc : RC) (ih : kQI1 rc) {F0 : PF} (x1 : Int32) (x2 : Int32) (F : PF) (G : PG) (hK : CFS F0 F) : PP (cb_X3_index_75 fu rc x1 x2 F G) (fun _ F' _ => CFS F0 F') := by
  unfold cb_X3_index_75
  exact kqj_X3_index_82 rc ih x1 x2 (74 : Int32) F G hK
theorem kqj_X3_index_72 {fu : Nat} (rc : RC) (ih : kQI1 rc) {F0 : PF} (x1 : Int32) (x2 : Int32) (z0 : Int32) (F : PF) (G : PG) (hK : CFS F0 F) : PP (cb_X3_index_72 fu rc x1 x2 z0 F G) (fun _ F' _ => CFS F0 F') := by
  unfold cb_X3_index_72
  refine PP.ite (fun c_1 => ?_) (fun c_1 => ?_)
  · skip
    exact kqj_X3_index_80 rc ih x1 x2 F G hK
  · skip
    exact kqj_X3_index_75 rc ih x1 x2 F G hK
theorem kqj_X3_index_64 {fu : Nat} (rc : RC) (ih : kQI1 rc) {F0 : PF} (x1 : Int32) (x2 : Int32) (F : PF) (G : PG) (hK : CFS F0 F) : PP (cb_X3_index_64 fu rc x1 x2 F G) (fun _ F' _ => CFS F0 F') := by
  unfold cb_X3_index_64
  refine PP.bind (cw_X5_isGlobal x1 F G) ?_
  intro r1 F1 G1 hK1
  dsimp only
  exact kqj_X3_index_72 rc ih x1 x2 r1 F1 G1 (CFS.tr hK (CFS.k hK1 rfl rfl rfl))
theorem kqj_X3_index_59 {fu : Nat} (rc : RC) (ih : kQI1 rc) {F0 : PF} (x1 : Int32) (x2 : Int32) (F : PF) (G : PG) (hK : CFS F0 F) : PP (cb_X3_index_59 fu rc x1 x2 F G) (fun _ F' _ => CFS F0 F') := by
  unfold cb_X3_index_59
  exact kqj_X3_index_82 rc ih x1 x2 (76 : Int32) F G hK
theorem kqj_X3_index_50 {fu : Nat} (rc : RC) (ih : kQI1 rc) {F0 : PF} (x1 : Int32) (x2 : Int32) (z0 : Int32) (F : PF) (G : PG) (hK : CFS F0 F) : PP (cb_X3_index_50 fu rc x1 x2 z0 F G) (fun _ F' _ => CFS F0 F') := by
  unfold cb_X3_index_50
  refine PP.ite (fun c_1 => ?_) (fun c_1 => ?_)
  · skip
    exact kqj_X3_index_64 rc ih x1 x2 F G hK
  · skip
    exact kqj_X3_index_59 rc ih x1 x2 F G hK
theorem kqj_X3_index_45 {fu : Nat} (rc : RC) (ih : kQI1 rc) {F0 : PF} (x1 : Int32) (x2 : Int32) (F : PF) (G : PG) (hK : CFS F0 F) : PP (cb_X3_index_45 fu rc x1 x2 F G) (fun _ F' _ => CFS F0 F') := by
  unfold cb_X3_index_45
  exact kqj_X3_index_50 rc ih x1 x2 (1 : Int32) F G hK
theorem kqj_X3_index_49 {fu : Nat} (rc : RC) (ih : kQI1 rc) {F0 : PF} (x1 : Int32) (x2 : Int32) (F : PF) (G : PG) (hK : CFS F0 F) : PP (cb_X3_index_49 fu rc x1 x2 F G) (fun _ F' _ => CFS F0 F') := by
  unfold cb_X3_index_49
  exact kqj_X3_index_50 rc ih x1 x2 (0 : Int32) F G hK
theorem kqj_X3_index_42 {fu : Nat} (rc : RC) (ih : kQI1 rc) {F0 : PF} (x1 : Int32) (x2 : Int32) (z0 : Int32) (F : PF) (G : PG) (hK : CFS F0 F) : PP (cb_X3_index_42 fu rc x1 x2 z0 F G) (fun _ F' _ => CFS F0 F') := by
  unfold cb_X3_index_42
  refine PP.ite (fun c_1 => ?_) (fun c_1 => ?_)
  · skip
    exact kqj_X3_index_45 rc ih x1 x2 F G hK
  · skip
    exact kqj_X3_index_49 rc ih x1 x2 F G hK
theorem kqj_X3_index_34 {fu : Nat} (rc : RC) (ih : kQI1 rc) {F0 : PF} (x1 : Int32) (x2 : Int32) (F : PF) (G : PG) (hK : CFS F0 F) : PP (cb_X3_index_34 fu rc x1 x2 F G) (fun _ F' _ => CFS F0 F') := by
  unfold cb_X3_index_34
  refine PP.bind (cw_X5_size x1 F G) ?_
  intro r1 F1 G1 hK1
  dsimp only
  exact kqj_X3_index_42 rc ih x1 x2 r1 F1 G1 (CFS.tr hK (CFS.k hK1 rfl rfl rfl))
theorem kqj_X3_index_25 {fu : Nat} (rc : RC) (ih : kQI1 rc) {F0 : PF} (x1 : Int32) (x2 : Int32) (F : PF) (G : PG) (hK : CFS F0 F) : PP (cb_X3_index_25 fu rc x1 x2 F G) (fun _ F' _ => CFS F0 F') := by
  unfold cb_X3_index_25
  refine PP.bind (kq_X2_closesWith (22 : Int32) (by decide) F G) ?_
  intro r1 F1 G1 hK1
  dsimp only
  exact kqj_X3_index_34 rc ih x1 x2 F1 G1 (CFS.tr hK hK1)
theorem kqj_X3_index_21 {fu : Nat} (rc : RC) (ih : kQI1 rc) {F0 : PF} (x1 : Int32) (x2 : Int32) (F : PF) (G : PG) (hK : CFS F0 F) : PP (cb_X3_index_21 fu rc x1 x2 F G) (fun _ F' _ => CFS F0 F') := by
  unfold cb_X3_index_21
  refine PP.bind (ih 1 0 0 F G) ?_
  intro r1 F1 G1 hK1
  dsimp only
  exact kqj_X3_index_25 rc ih x1 x2 F1 G1 (CFS.tr hK hK1)
theorem kqj_X3_index_17 {fu : Nat} (rc : RC) (ih : kQI1 rc) {F0 : PF} (x1 : Int32) (x2 : Int32) (z0 : Int32) (F : PF) (G : PG) (hK : CFS F0 F) : PP (cb_X3_index_17 fu rc x1 x2 z0 F G) (fun _ F' _ => CFS F0 F') := by
  unfold cb_X3_index_17
  refine PP.ite (fun c_1 => ?_) (fun c_1 => ?_)
  · skip
    exact kqj_X3_index_20 rc ih F G hK
  · skip
    exact kqj_X3_index_21 rc ih x1 x2 F G hK
theorem kqt_X3_index {fu : Nat} (rc : RC) (ih : kQI1 rc) (x1 : Int32) (F : PF) (G : PG) : PP (ch_X3_index fu rc x1 F G) (fun _ F' _ => CFS F F') := by
  unfold ch_X3_index
  unfold cb_X3_index_0
  refine PP.bind (kq_X2_opens (21 : Int32) (by decide) F G) ?_
  intro r1 F1 G1 hK1
  dsimp only
  exact kqj_X3_index_17 rc ih x1 (F 13) r1 F1 G1 (CFS.tr CFS.rf hK1)
theorem kqj_X3_joinedOperands_168 {fu : Nat} (rc : RC) (ih : kQI1 rc) {F0 : PF} (F : PF) (G : PG) (hK : CFS F0 F) : PP (cb_X3_joinedOperands_168 fu rc F G) (fun _ F' _ => CFS F0 F') := by
  unfold cb_X3_joinedOperands_168
  refine PP.ret ?_
  exact hK
theorem kqj_X3_joinedOperands_162 {fu : Nat} (rc : RC) (ih : kQI1 rc) {F0 : PF} (x1 : Int32) (F : PF) (G : PG) (hK : CFS F0 F) : PP (cb_X3_joinedOperands_162 fu rc x1 F G) (fun _ F' _ => CFS F0 F') := by
  unfold cb_X3_joinedOperands_162
  refine PP.bind (cw_X3_settle x1 (0 : Int32) F G) ?_
  intro r1 F1 G1 hK1
  dsimp only
  exact kqj_X3_joinedOperands_168 rc ih F1 G1 (CFS.tr hK (CFS.k hK1 rfl rfl rfl))
theorem kqj_X3_joinedOperands_156 {fu : Nat} (rc : RC) (ih : kQI1 rc) {F0 : PF} (ag_9 : Int32 → Int32 → Int32 → PF → PG → PR) (hag_9 : ∀ (x1 : Int32) (x2 : Int32) (x3 : Int32) (F : PF) (G : PG) (hK : CFS F0 F), PP (ag_9 x1 x2 x3 F G) (fun _ F' _ => CFS F0 F')) (x1 : Int32) (x2 : Int32) (x3 : Int32) (F : PF) (G : PG) (hK : CFS F0 F) : PP (cb_X3_joinedOperands_156 fu rc ag_9 x1 x2 x3 F G) (fun _ F' _ => CFS F0 F') := by
  unfold cb_X3_joinedOperands_156
  exact hag_9 x1 x2 (x3 + (1 : Int32)) F G hK
theorem kqj_X3_joinedOperands_149 {fu : Nat} (rc : RC) (ih : kQI1 rc) {F0 : PF} (ag_9 : Int32 → Int32 → Int32 → PF → PG → PR) (hag_9 : ∀ (x1 : Int32) (x2 : Int32) (x3 : Int32) (F : PF) (G : PG) (hK : CFS F0 F), PP (ag_9 x1 x2 x3 F G) (fun _ F' _ => CFS F0 F')) (x1 : Int32) (x2 : Int32) (x3 : Int32) (F : PF) (G : PG) (hK : CFS F0 F) : PP (cb_X3_joinedOperands_149 fu rc ag_9 x1 x2 x3 F G) (fun _ F' _ => CFS F0 F') := by
  unfold cb_X3_joinedOperands_149
  refine PP.bind (kq_X2_next F G) ?_
  intro r1 F1 G1 hK1
  dsimp only
  exact kqj_X3_joinedOperands_156 rc ih ag_9 hag_9 x1 x2 x3 F1 G1 (CFS.tr hK hK1)
theorem kqj_X3_joinedOperands_138 {fu : Nat} (rc : RC) (ih : kQI1 rc) {F0 : PF} (ag_9 : Int32 → Int32 → Int32 → PF → PG → PR) (hag_9 : ∀ (x1 : Int32) (x2 : Int32) (x3 : Int32) (F : PF) (G : PG) (hK : CFS F0 F), PP (ag_9 x1 x2 x3 F G) (fun _ F' _ => CFS F0 F')) (x1 : Int32) (x2 : Int32) (x3 : Int32) (F : PF) (G : PG) (hK : CFS F0 F) : PP (cb_X3_joinedOperands_138 fu rc ag_9 x1 x2 x3 F G) (fun _ F' _ => CFS F0 F') := by
  unfold cb_X3_joinedOperands_138
  refine PP.bind (cw_X3_waits (F 11) F G) ?_
  intro r1 F1 G1 hK1
  dsimp only
  exact kqj_X3_joinedOperands_149 rc ih ag_9 hag_9 x1 x2 x3 F1 G1 (CFS.tr hK (CFS.k hK1 rfl rfl rfl))
theorem kqj_X3_joinedOperands_135 {fu : Nat} (rc : RC) (ih : kQI1 rc) {F0 : PF} (ag_9 : Int32 → Int32 → Int32 → PF → PG → PR) (hag_9 : ∀ (x1 : Int32) (x2 : Int32) (x3 : Int32) (F : PF) (G : PG) (hK : CFS F0 F), PP (ag_9 x1 x2 x3 F G) (fun _ F' _ => CFS F0 F')) (x1 : Int32) (x2 : Int32) (x3 : Int32) (z0 : Int32) (z1 : Int32) (F : PF) (G : PG) (hK : CFS F0 F) : PP (cb_X3_joinedOperands_135 fu rc ag_9 x1 x2 x3 z0 z1 F G) (fun _ F' _ => CFS F0 F') := by
  unfold cb_X3_joinedOperands_135
  refine PP.bind (cw_X3_settle z1 z0 F G) ?_
  intro r1 F1 G1 hK1
  dsimp only
  exact kqj_X3_joinedOperands_138 rc ih ag_9 hag_9 x1 x2 x3 F1 G1 (CFS.tr hK (CFS.k hK1 rfl rfl rfl))
theorem kqj_X3_joinedOperands_123 {fu : Nat} (rc : RC) (ih : kQI1 rc) {F0 : PF} (ag_9 : Int32 → Int32 → Int32 → PF → PG → PR) (hag_9 : ∀ (x1 : Int32) (x2 : Int32) (x3 : Int32) (F : PF) (G : PG) (hK : CFS F0 F), PP (ag_9 x1 x2 x3 F G) (fun _ F' _ => CFS F0 F')) (x1 : Int32) (x2 : Int32) (x3 : Int32) (F : PF) (G : PG) (hK : CFS F0 F) : PP (cb_X3_joinedOperands_123 fu rc ag_9 x1 x2 x3 F G) (fun _ F' _ => CFS F0 F') := by
  unfold cb_X3_joinedOperands_123
  refine PP.bind (cw_X3_strength (F 11) F G) ?_
  intro r1 F1 G1 hK1
  dsimp only
  exact kqj_X3_joinedOperands_135 rc ih ag_9 hag_9 x1 x2 x3 r1 x1 F1 G1 (CFS.tr hK (CFS.k hK1 rfl rfl rfl))
theorem kqj_X3_joinedOperands_118 {fu : Nat} (rc : RC) (ih : kQI1 rc) {F0 : PF} (ag_9 : Int32 → Int32 → Int32 → PF → PG → PR) (hag_9 : ∀ (x1 : Int32) (x2 : Int32) (x3 : Int32) (F : PF) (G : PG) (hK : CFS F0 F), PP (ag_9 x1 x2 x3 F G) (fun _ F' _ => CFS F0 F')) (x1 : Int32) (x3 : Int32) (z0 : Int32) (F : PF) (G : PG) (hK : CFS F0 F) : PP (cb_X3_joinedOperands_118 fu rc ag_9 x1 x3 z0 F G) (fun _ F' _ => CFS F0 F') := by
  unfold cb_X3_joinedOperands_118
  refine PP.ite (fun c_1 => ?_) (fun c_1 => ?_)
  · skip
    exact kqj_X3_joinedOperands_156 rc ih ag_9 hag_9 x1 z0 x3 F G hK
  · skip
    exact kqj_X3_joinedOperands_123 rc ih ag_9 hag_9 x1 z0 x3 F G hK
theorem kqj_X3_joinedOperands_117 {fu : Nat} (rc : RC) (ih : kQI1 rc) {F0 : PF} (ag_9 : Int32 → Int32 → Int32 → PF → PG → PR) (hag_9 : ∀ (x1 : Int32) (x2 : Int32) (x3 : Int32) (F : PF) (G : PG) (hK : CFS F0 F), PP (ag_9 x1 x2 x3 F G) (fun _ F' _ => CFS F0 F')) (x1 : Int32) (x3 : Int32) (F : PF) (G : PG) (hK : CFS F0 F) : PP (cb_X3_joinedOperands_117 fu rc ag_9 x1 x3 F G) (fun _ F' _ => CFS F0 F') := by
  unfold cb_X3_joinedOperands_117
  exact kqj_X3_joinedOperands_118 rc ih ag_9 hag_9 x1 x3 (0 : Int32) F G hK
theorem kqj_X3_joinedOperands_113 {fu : Nat} (rc : RC) (ih : kQI1 rc) {F0 : PF} (ag_9 : Int32 → Int32 → Int32 → PF → PG → PR) (hag_9 : ∀ (x1 : Int32) (x2 : Int32) (x3 : Int32) (F : PF) (G : PG) (hK : CFS F0 F), PP (ag_9 x1 x2 x3 F G) (fun _ F' _ => CFS F0 F')) (x1 : Int32) (x3 : Int32) (F : PF) (G : PG) (hK : CFS F0 F) : PP (cb_X3_joinedOperands_113 fu rc ag_9 x1 x3 F G) (fun _ F' _ => CFS F0 F') := by
  unfold cb_X3_joinedOperands_113
  exact kqj_X3_joinedOperands_118 rc ih ag_9 hag_9 x1 x3 (1 : Int32) F G hK
theorem kqj_X3_joinedOperands_101 {fu : Nat} (rc : RC) (ih : kQI1 rc) {F0 : PF} (ag_9 : Int32 → Int32 → Int32 → PF → PG → PR) (hag_9 : ∀ (x1 : Int32) (x2 : Int32) (x3 : Int32) (F : PF) (G : PG) (hK : CFS F0 F), PP (ag_9 x1 x2 x3 F G) (fun _ F' _ => CFS F0 F')) (x1 : Int32) (x3 : Int32) (F : PF) (G : PG) (hK : CFS F0 F) : PP (cb_X3_joinedOperands_101 fu rc ag_9 x1 x3 F G) (fun _ F' _ => CFS F0 F') := by
  unfold cb_X3_joinedOperands_101
  refine PP.ite (fun c_1 => ?_) (fun c_1 => ?_)
  · skip
    exact kqj_X3_joinedOperands_117 rc ih ag_9 hag_9 x1 x3 F G hK
  · skip
    exact kqj_X3_joinedOperands_113 rc ih ag_9 hag_9 x1 x3 F G hK
theorem kqj_X3_joinedOperands_89 {fu : Nat} (rc : RC) (ih : kQI1 rc) {F0 : PF} (ag_9 : Int32 → Int32 → Int32 → PF → PG → PR) (hag_9 : ∀ (x1 : Int32) (x2 : Int32) (x3 : Int32) (F : PF) (G : PG) (hK : CFS F0 F), PP (ag_9 x1 x2 x3 F G) (fun _ F' _ => CFS F0 F')) (x1 : Int32) (x3 : Int32) (F : PF) (G : PG) (hK : CFS F0 F) : PP (cb_X3_joinedOperands_89 fu rc ag_9 x1 x3 F G) (fun _ F' _ => CFS F0 F') := by
  unfold cb_X3_joinedOperands_89
  refine PP.ite (fun c_1 => ?_) (fun c_1 => ?_)
  · skip
    exact kqj_X3_joinedOperands_117 rc ih ag_9 hag_9 x1 x3 F G hK
  · skip
    exact kqj_X3_joinedOperands_101 rc ih ag_9 hag_9 x1 x3 F G hK
theorem kqj_X3_joinedOperands_85 {fu : Nat} (rc : RC) (ih : kQI1 rc) {F0 : PF} (ag_9 : Int32 → Int32 → Int32 → PF → PG → PR) (hag_9 : ∀ (x1 : Int32) (x2 : Int32) (x3 : Int32) (F : PF) (G : PG) (hK : CFS F0 F), PP (ag_9 x1 x2 x3 F G) (fun _ F' _ => CFS F0 F')) (x1 : Int32) (x3 : Int32) (F : PF) (G : PG) (hK : CFS F0 F) : PP (cb_X3_joinedOperands_85 fu rc ag_9 x1 x3 F G) (fun _ F' _ => CFS F0 F') := by
  unfold cb_X3_joinedOperands_85
  refine PP.bind (ih 5 0 0 F G) ?_
  intro r1 F1 G1 hK1
  dsimp only
  exact kqj_X3_joinedOperands_89 rc ih ag_9 hag_9 x1 x3 F1 G1 (CFS.tr hK hK1)
theorem kqj_X3_joinedOperands_79 {fu : Nat} (rc : RC) (ih : kQI1 rc) {F0 : PF} (ag_9 : Int32 → Int32 → Int32 → PF → PG → PR) (hag_9 : ∀ (x1 : Int32) (x2 : Int32) (x3 : Int32) (F : PF) (G : PG) (hK : CFS F0 F), PP (ag_9 x1 x2 x3 F G) (fun _ F' _ => CFS F0 F')) (ag_23 : Int32 → Int32 → Int32 → PF → PG → PR) (hag_23 : ∀ (x1 : Int32) (x3 : Int32) (x4 : Int32) (F : PF) (G : PG) (hK : CFS F0 F), PP (ag_23 x1 x3 x4 F G) (fun _ F' _ => CFS F0 F')) (x1 : Int32) (x3 : Int32) (x4 : Int32) (F : PF) (G : PG) (hK : CFS F0 F) : PP (cb_X3_joinedOperands_79 fu rc ag_9 ag_23 x1 x3 x4 F G) (fun _ F' _ => CFS F0 F') := by
  unfold cb_X3_joinedOperands_79
  exact hag_23 x1 x3 (x4 + (1 : Int32)) F G hK
theorem kqj_X3_joinedOperands_72 {fu : Nat} (rc : RC) (ih : kQI1 rc) {F0 : PF} (ag_9 : Int32 → Int32 → Int32 → PF → PG → PR) (hag_9 : ∀ (x1 : Int32) (x2 : Int32) (x3 : Int32) (F : PF) (G : PG) (hK : CFS F0 F), PP (ag_9 x1 x2 x3 F G) (fun _ F' _ => CFS F0 F')) (ag_23 : Int32 → Int32 → Int32 → PF → PG → PR) (hag_23 : ∀ (x1 : Int32) (x3 : Int32) (x4 : Int32) (F : PF) (G : PG) (hK : CFS F0 F), PP (ag_23 x1 x3 x4 F G) (fun _ F' _ => CFS F0 F')) (x1 : Int32) (x3 : Int32) (x4 : Int32) (F : PF) (G : PG) (hK : CFS F0 F) : PP (cb_X3_joinedOperands_72 fu rc ag_9 ag_23 x1 x3 x4 F G) (fun _ F' _ => CFS F0 F') := by
  unfold cb_X3_joinedOperands_72
  refine PP.bind (kq_X2_next F G) ?_
  intro r1 F1 G1 hK1
  dsimp only
  exact kqj_X3_joinedOperands_79 rc ih ag_9 hag_9 ag_23 hag_23 x1 x3 x4 F1 G1 (CFS.tr hK hK1)
theorem kqj_X3_joinedOperands_69 {fu : Nat} (rc : RC) (ih : kQI1 rc) {F0 : PF} (ag_9 : Int32 → Int32 → Int32 → PF → PG → PR) (hag_9 : ∀ (x1 : Int32) (x2 : Int32) (x3 : Int32) (F : PF) (G : PG) (hK : CFS F0 F), PP (ag_9 x1 x2 x3 F G) (fun _ F' _ => CFS F0 F')) (ag_23 : Int32 → Int32 → Int32 → PF → PG → PR) (hag_23 : ∀ (x1 : Int32) (x3 : Int32) (x4 : Int32) (F : PF) (G : PG) (hK : CFS F0 F), PP (ag_23 x1 x3 x4 F G) (fun _ F' _ => CFS F0 F')) (x1 : Int32) (x3 : Int32) (x4 : Int32) (z0 : Int32) (F : PF) (G : PG) (hK : CFS F0 F) : PP (cb_X3_joinedOperands_69 fu rc ag_9 ag_23 x1 x3 x4 z0 F G) (fun _ F' _ => CFS F0 F') := by
  unfold cb_X3_joinedOperands_69
  refine PP.bind (cw_X3_waits z0 F G) ?_
  intro r1 F1 G1 hK1
  dsimp only
  exact kqj_X3_joinedOperands_72 rc ih ag_9 hag_9 ag_23 hag_23 x1 x3 x4 F1 G1 (CFS.tr hK (CFS.k hK1 rfl rfl rfl))
theorem kqj_X3_joinedOperands_57 {fu : Nat} (rc : RC) (ih : kQI1 rc) {F0 : PF} (ag_9 : Int32 → Int32 → Int32 → PF → PG → PR) (hag_9 : ∀ (x1 : Int32) (x2 : Int32) (x3 : Int32) (F : PF) (G : PG) (hK : CFS F0 F), PP (ag_9 x1 x2 x3 F G) (fun _ F' _ => CFS F0 F')) (ag_23 : Int32 → Int32 → Int32 → PF → PG → PR) (hag_23 : ∀ (x1 : Int32) (x3 : Int32) (x4 : Int32) (F : PF) (G : PG) (hK : CFS F0 F), PP (ag_23 x1 x3 x4 F G) (fun _ F' _ => CFS F0 F')) (x1 : Int32) (x3 : Int32) (x4 : Int32) (F : PF) (G : PG) (hK : CFS F0 F) : PP (cb_X3_joinedOperands_57 fu rc ag_9 ag_23 x1 x3 x4 F G) (fun _ F' _ => CFS F0 F') := by
  unfold cb_X3_joinedOperands_57
  exact kqj_X3_joinedOperands_69 rc ih ag_9 hag_9 ag_23 hag_23 x1 x3 x4 (64 : Int32) F G hK
theorem kqj_X3_joinedOperands_62 {fu : Nat} (rc : RC) (ih : kQI1 rc) {F0 : PF} (ag_9 : Int32 → Int32 → Int32 → PF → PG → PR) (hag_9 : ∀ (x1 : Int32) (x2 : Int32) (x3 : Int32) (F : PF) (G : PG) (hK : CFS F0 F), PP (ag_9 x1 x2 x3 F G) (fun _ F' _ => CFS F0 F')) (ag_23 : Int32 → Int32 → Int32 → PF → PG → PR) (hag_23 : ∀ (x1 : Int32) (x3 : Int32) (x4 : Int32) (F : PF) (G : PG) (hK : CFS F0 F), PP (ag_23 x1 x3 x4 F G) (fun _ F' _ => CFS F0 F')) (x1 : Int32) (x3 : Int32) (x4 : Int32) (F : PF) (G : PG) (hK : CFS F0 F) : PP (cb_X3_joinedOperands_62 fu rc ag_9 ag_23 x1 x3 x4 F G) (fun _ F' _ => CFS F0 F') := by
  unfold cb_X3_joinedOperands_62
  exact kqj_X3_joinedOperands_69 rc ih ag_9 hag_9 ag_23 hag_23 x1 x3 x4 (F 11) F G hK
theorem kqj_X3_joinedOperands_44 {fu : Nat} (rc : RC) (ih : kQI1 rc) {F0 : PF} (ag_9 : Int32 → Int32 → Int32 → PF → PG → PR) (hag_9 : ∀ (x1 : Int32) (x2 : Int32) (x3 : Int32) (F : PF) (G : PG) (hK : CFS F0 F), PP (ag_9 x1 x2 x3 F G) (fun _ F' _ => CFS F0 F')) (ag_23 : Int32 → Int32 → Int32 → PF → PG → PR) (hag_23 : ∀ (x1 : Int32) (x3 : Int32) (x4 : Int32) (F : PF) (G : PG) (hK : CFS F0 F), PP (ag_23 x1 x3 x4 F G) (fun _ F' _ => CFS F0 F')) (x1 : Int32) (x3 : Int32) (x4 : Int32) (F : PF) (G : PG) (hK : CFS F0 F) : PP (cb_X3_joinedOperands_44 fu rc ag_9 ag_23 x1 x3 x4 F G) (fun _ F' _ => CFS F0 F') := by
  unfold cb_X3_joinedOperands_44
  refine PP.ite (fun c_1 => ?_) (fun c_1 => ?_)
  · skip
    exact kqj_X3_joinedOperands_57 rc ih ag_9 hag_9 ag_23 hag_23 x1 x3 x4 F G hK
  · skip
    exact kqj_X3_joinedOperands_62 rc ih ag_9 hag_9 ag_23 hag_23 x1 x3 x4 F G hK
theorem kqj_X3_joinedOperands_41 {fu : Nat} (rc : RC) (ih : kQI1 rc) {F0 : PF} (ag_9 : Int32 → Int32 → Int32 → PF → PG → PR) (hag_9 : ∀ (x1 : Int32) (x2 : Int32) (x3 : Int32) (F : PF) (G : PG) (hK : CFS F0 F), PP (ag_9 x1 x2 x3 F G) (fun _ F' _ => CFS F0 F')) (ag_23 : Int32 → Int32 → Int32 → PF → PG → PR) (hag_23 : ∀ (x1 : Int32) (x3 : Int32) (x4 : Int32) (F : PF) (G : PG) (hK : CFS F0 F), PP (ag_23 x1 x3 x4 F G) (fun _ F' _ => CFS F0 F')) (x1 : Int32) (x3 : Int32) (x4 : Int32) (z0 : Int32) (F : PF) (G : PG) (hK : CFS F0 F) : PP (cb_X3_joinedOperands_41 fu rc ag_9 ag_23 x1 x3 x4 z0 F G) (fun _ F' _ => CFS F0 F') := by
  unfold cb_X3_joinedOperands_41
  refine PP.ite (fun c_1 => ?_) (fun c_1 => ?_)
  · skip
    exact kqj_X3_joinedOperands_85 rc ih ag_9 hag_9 x1 x3 F G hK
  · skip
    exact kqj_X3_joinedOperands_44 rc ih ag_9 hag_9 ag_23 hag_23 x1 x3 x4 F G hK
theorem kqj_X3_joinedOperands_31 {fu : Nat} (rc : RC) (ih : kQI1 rc) {F0 : PF} (ag_9 : Int32 → Int32 → Int32 → PF → PG → PR) (hag_9 : ∀ (x1 : Int32) (x2 : Int32) (x3 : Int32) (F : PF) (G : PG) (hK : CFS F0 F), PP (ag_9 x1 x2 x3 F G) (fun _ F' _ => CFS F0 F')) (ag_23 : Int32 → Int32 → Int32 → PF → PG → PR) (hag_23 : ∀ (x1 : Int32) (x3 : Int32) (x4 : Int32) (F : PF) (G : PG) (hK : CFS F0 F), PP (ag_23 x1 x3 x4 F G) (fun _ F' _ => CFS F0 F')) (x1 : Int32) (x3 : Int32) (x4 : Int32) (F : PF) (G : PG) (hK : CFS F0 F) : PP (cb_X3_joinedOperands_31 fu rc ag_9 ag_23 x1 x3 x4 F G) (fun _ F' _ => CFS F0 F') := by
  unfold cb_X3_joinedOperands_31
  refine PP.bind (cw_X3_isAhead (F 11) F G) ?_
  intro r1 F1 G1 hK1
  dsimp only
  exact kqj_X3_joinedOperands_41 rc ih ag_9 hag_9 ag_23 hag_23 x1 x3 x4 r1 F1 G1 (CFS.tr hK (CFS.k hK1 rfl rfl rfl))
theorem kqz_X3_joinedOperands_23 {fu : Nat} (rc : RC) (ih : kQI1 rc) {F0 : PF} (ag_9 : Int32 → Int32 → Int32 → PF → PG → PR) (hag_9 : ∀ (x1 : Int32) (x2 : Int32) (x3 : Int32) (F : PF) (G : PG) (hK : CFS F0 F), PP (ag_9 x1 x2 x3 F G) (fun _ F' _ => CFS F0 F')) : ∀ (n : Nat) (x1 : Int32) (x3 : Int32) (x4 : Int32) (F : PF) (G : PG) (hK : CFS F0 F), PP (cl_X3_joinedOperands_23 fu rc ag_9 n x1 x3 x4 F G) (fun _ F' _ => CFS F0 F') := by
  intro n
  induction n with
  | zero =>
    intro x1 x3 x4 F G hK
    exact PP.no
  | succ n ihn =>
    intro x1 x3 x4 F G hK
    show PP (cb_X3_joinedOperands_23 fu rc ag_9 (cl_X3_joinedOperands_23 fu rc ag_9 n) x1 x3 x4 F G) _
    unfold cb_X3_joinedOperands_23
    refine PP.ite (fun c_1 => ?_) (fun c_1 => ?_)
    · skip
      exact kqj_X3_joinedOperands_85 rc ih ag_9 hag_9 x1 x3 F G hK
    · skip
      exact kqj_X3_joinedOperands_31 rc ih ag_9 hag_9 (cl_X3_joinedOperands_23 fu rc ag_9 n) ihn x1 x3 x4 F G hK
theorem kqj_X3_joinedOperands_20 {fu : Nat} (rc : RC) (ih : kQI1 rc) {F0 : PF} (ag_9 : Int32 → Int32 → Int32 → PF → PG → PR) (hag_9 : ∀ (x1 : Int32) (x2 : Int32) (x3 : Int32) (F : PF) (G : PG) (hK : CFS F0 F), PP (ag_9 x1 x2 x3 F G) (fun _ F' _ => CFS F0 F')) (x1 : Int32) (x3 : Int32) (F : PF) (G : PG) (hK : CFS F0 F) : PP (cb_X3_joinedOperands_20 fu rc ag_9 x1 x3 F G) (fun _ F' _ => CFS F0 F') := by
  unfold cb_X3_joinedOperands_20
  exact kqz_X3_joinedOperands_23 rc ih ag_9 hag_9 fu x1 x3 (0 : Int32) F G hK
theorem kqj_X3_joinedOperands_16 {fu : Nat} (rc : RC) (ih : kQI1 rc) {F0 : PF} (ag_9 : Int32 → Int32 → Int32 → PF → PG → PR) (hag_9 : ∀ (x1 : Int32) (x2 : Int32) (x3 : Int32) (F : PF) (G : PG) (hK : CFS F0 F), PP (ag_9 x1 x2 x3 F G) (fun _ F' _ => CFS F0 F')) (x1 : Int32) (x2 : Int32) (x3 : Int32) (F : PF) (G : PG) (hK : CFS F0 F) : PP (cb_X3_joinedOperands_16 fu rc ag_9 x1 x2 x3 F G) (fun _ F' _ => CFS F0 F') := by
  unfold cb_X3_joinedOperands_16
  refine PP.ite (fun c_1 => ?_) (fun c_1 => ?_)
  · skip
    exact kqj_X3_joinedOperands_162 rc ih x1 F G hK
  · skip
    exact kqj_X3_joinedOperands_20 rc ih ag_9 hag_9 x1 x3 F G hK
theorem kqz_X3_joinedOperands_9 {fu : Nat} (rc : RC) (ih : kQI1 rc) {F0 : PF} : ∀ (n : Nat) (x1 : Int32) (x2 : Int32) (x3 : Int32) (F : PF) (G : PG) (hK : CFS F0 F), PP (cl_X3_joinedOperands_9 fu rc n x1 x2 x3 F G) (fun _ F' _ => CFS F0 F') := by
  intro n
  induction n with
  | zero =>
    intro x1 x2 x3 F G hK
    exact PP.no
  | succ n ihn =>
    intro x1 x2 x3 F G hK
    show PP (cb_X3_joinedOperands_9 fu rc (cl_X3_joinedOperands_9 fu rc n) x1 x2 x3 F G) _
    unfold cb_X3_joinedOperands_9
    refine PP.ite (fun c_1 => ?_) (fun c_1 => ?_)
    · skip
      exact kqj_X3_joinedOperands_162 rc ih x1 F G hK
    · skip
      exact kqj_X3_joinedOperands_16 rc ih (cl_X3_joinedOperands_9 fu rc n) ihn x1 x2 x3 F G hK
theorem kqt_X3_joinedOperands {fu : Nat} (rc : RC) (ih : kQI1 rc) (F : PF) (G : PG) : PP (ch_X3_joinedOperands fu rc F G) (fun _ F' _ => CFS F F') := by
  unfold ch_X3_joinedOperands
  unfold cb_X3_joinedOperands_0
  exact kqz_X3_joinedOperands_9 rc ih fu (F 21) (1 : Int32) (0 : Int32) F G CFS.rf
theorem kqj_X3_named_98 {fu : Nat} (rc : RC) (ih : kQI1 rc) {F0 : PF} (F : PF) (G : PG) (hK : CFS F0 F) : PP (cb_X3_named_98 fu rc F G) (fun _ F' _ => CFS F0 F') := by
  unfold cb_X3_named_98
  refine PP.ret ?_
  exact hK
theorem kqj_X3_named_65 {fu : Nat} (rc : RC) (ih : kQI1 rc) {F0 : PF} (F : PF) (G : PG) (hK : CFS F0 F) : PP (cb_X3_named_65 fu rc F G) (fun _ F' _ => CFS F0 F') := by
  unfold cb_X3_named_65
  exact kqj_X3_named_98 rc ih F G hK
theorem kqj_X3_named_59 {fu : Nat} (rc : RC) (ih : kQI1 rc) {F0 : PF} (x1 : Int32) (x2 : Int32) (F : PF) (G : PG) (hK : CFS F0 F) : PP (cb_X3_named_59 fu rc x1 x2 F G) (fun _ F' _ => CFS F0 F') := by
  unfold cb_X3_named_59
  refine PP.bind (ih 0 x2 x1 F G) ?_
  intro r1 F1 G1 hK1
  dsimp only
  exact kqj_X3_named_65 rc ih F1 G1 (CFS.tr hK hK1)
theorem kqj_X3_named_90 {fu : Nat} (rc : RC) (ih : kQI1 rc) {F0 : PF} (F : PF) (G : PG) (hK : CFS F0 F) : PP (cb_X3_named_90 fu rc F G) (fun _ F' _ => CFS F0 F') := by
  unfold cb_X3_named_90
  exact kqj_X3_named_98 rc ih F G hK
theorem kqj_X3_named_85 {fu : Nat} (rc : RC) (ih : kQI1 rc) {F0 : PF} (x2 : Int32) (F : PF) (G : PG) (hK : CFS F0 F) : PP (cb_X3_named_85 fu rc x2 F G) (fun _ F' _ => CFS F0 F') := by
  unfold cb_X3_named_85
  refine PP.bind (cw_X3_fetch x2 F G) ?_
  intro r1 F1 G1 hK1
  dsimp only
  exact kqj_X3_named_90 rc ih F1 G1 (CFS.tr hK (CFS.k hK1 rfl rfl rfl))
theorem kqj_X3_named_80 {fu : Nat} (rc : RC) (ih : kQI1 rc) {F0 : PF} (x2 : Int32) (F : PF) (G : PG) (hK : CFS F0 F) : PP (cb_X3_named_80 fu rc x2 F G) (fun _ F' _ => CFS F0 F') := by
  unfold cb_X3_named_80
  refine PP.bind (ih 2 x2 0 F G) ?_
  intro r1 F1 G1 hK1
  dsimp only
  exact kqj_X3_named_85 rc ih x2 F1 G1 (CFS.tr hK hK1)
theorem kqj_X3_named_93 {fu : Nat} (rc : RC) (ih : kQI1 rc) {F0 : PF} (x2 : Int32) (F : PF) (G : PG) (hK : CFS F0 F) : PP (cb_X3_named_93 fu rc x2 F G) (fun _ F' _ => CFS F0 F') := by
  unfold cb_X3_named_93
  refine PP.bind (cw_X3_load x2 F G) ?_
  intro r1 F1 G1 hK1
  dsimp only
  exact kqj_X3_named_98 rc ih F1 G1 (CFS.tr hK (CFS.k hK1 rfl rfl rfl))
theorem kqj_X3_named_68 {fu : Nat} (rc : RC) (ih : kQI1 rc) {F0 : PF} (x2 : Int32) (F : PF) (G : PG) (hK : CFS F0 F) : PP (cb_X3_named_68 fu rc x2 F G) (fun _ F' _ => CFS F0 F') := by
  unfold cb_X3_named_68
  refine PP.ite (fun c_1 => ?_) (fun c_1 => ?_)
  · skip
    exact kqj_X3_named_80 rc ih x2 F G hK
  · skip
    exact kqj_X3_named_93 rc ih x2 F G hK
theorem kqj_X3_named_47 {fu : Nat} (rc : RC) (ih : kQI1 rc) {F0 : PF} (x1 : Int32) (x2 : Int32) (F : PF) (G : PG) (hK : CFS F0 F) : PP (cb_X3_named_47 fu rc x1 x2 F G) (fun _ F' _ => CFS F0 F') := by
  unfold cb_X3_named_47
  refine PP.ite (fun c_1 => ?_) (fun c_1 => ?_)
  · skip
    exact kqj_X3_named_59 rc ih x1 x2 F G hK
  · skip
    exact kqj_X3_named_68 rc ih x2 F G hK
theorem kqj_X3_named_31 {fu : Nat} (rc : RC) (ih : kQI1 rc) {F0 : PF} (x1 : Int32) (x2 : Int32) (F : PF) (G : PG) (hK : CFS F0 F) : PP (cb_X3_named_31 fu rc x1 x2 F G) (fun _ F' _ => CFS F0 F') := by
  unfold cb_X3_named_31
  refine PP.bind (kq_X5_wantValue x2 x1 (F 11) F G) ?_
  intro r1 F1 G1 hK1
  dsimp only
  exact kqj_X3_named_47 rc ih x1 x2 F1 G1 (CFS.tr hK hK1)
theorem kqj_X3_named_23 {fu : Nat} (rc : RC) (ih : kQI1 rc) {F0 : PF} (x1 : Int32) (z0 : Int32) (F : PF) (G : PG) (hK : CFS F0 F) : PP (cb_X3_named_23 fu rc x1 z0 F G) (fun _ F' _ => CFS F0 F') := by
  unfold cb_X3_named_23
  refine PP.bind (kq_X2_next F G) ?_
  intro r1 F1 G1 hK1
  dsimp only
  exact kqj_X3_named_31 rc ih x1 z0 F1 G1 (CFS.tr hK hK1)
theorem kqt_X3_named {fu : Nat} (rc : RC) (ih : kQI1 rc) (F : PF) (G : PG) : PP (ch_X3_named fu rc F G) (fun _ F' _ => CFS F F') := by
  unfold ch_X3_named
  unfold cb_X3_named_0
  refine PP.bind (kq_X5_meant (F 12) (F 13) F G) ?_
  intro r1 F1 G1 hK1
  dsimp only
  exact kqj_X3_named_23 rc ih (F 13) r1 F1 G1 (CFS.tr CFS.rf hK1)
theorem kqj_X3_operand_183 {fu : Nat} (rc : RC) (ih : kQI1 rc) {F0 : PF} (F : PF) (G : PG) (hK : CFS F0 F) : PP (cb_X3_operand_183 fu rc F G) (fun _ F' _ => CFS F0 F') := by
  unfold cb_X3_operand_183
  refine PP.ret ?_
  exact hK
theorem kqj_X3_operand_78 {fu : Nat} (rc : RC) (ih : kQI1 rc) {F0 : PF} (F : PF) (G : PG) (hK : CFS F0 F) : PP (cb_X3_operand_78 fu rc F G) (fun _ F' _ => CFS F0 F') := by
  unfold cb_X3_operand_78
  exact kqj_X3_operand_183 rc ih F G hK
theorem kqj_X3_operand_74 {fu : Nat} (rc : RC) (ih : kQI1 rc) {F0 : PF} (F : PF) (G : PG) (hK : CFS F0 F) : PP (cb_X3_operand_74 fu rc F G) (fun _ F' _ => CFS F0 F') := by
  unfold cb_X3_operand_74
  refine PP.bind (ih 4 0 0 F G) ?_
  intro r1 F1 G1 hK1
  dsimp only
  exact kqj_X3_operand_78 rc ih F1 G1 (CFS.tr hK hK1)
theorem kqj_X3_operand_71 {fu : Nat} (rc : RC) (ih : kQI1 rc) {F0 : PF} (F : PF) (G : PG) (hK : CFS F0 F) : PP (cb_X3_operand_71 fu rc F G) (fun _ F' _ => CFS F0 F') := by
  unfold cb_X3_operand_71
  exact kqj_X3_operand_183 rc ih F G hK
theorem kqj_X3_operand_64 {fu : Nat} (rc : RC) (ih : kQI1 rc) {F0 : PF} (F : PF) (G : PG) (hK : CFS F0 F) : PP (cb_X3_operand_64 fu rc F G) (fun _ F' _ => CFS F0 F') := by
  unfold cb_X3_operand_64
  refine PP.bind (kq_X2_next F G) ?_
  intro r1 F1 G1 hK1
  dsimp only
  exact kqj_X3_operand_71 rc ih F1 G1 (CFS.tr hK hK1)
theorem kqj_X3_operand_48 {fu : Nat} (rc : RC) (ih : kQI1 rc) {F0 : PF} (F : PF) (G : PG) (hK : CFS F0 F) : PP (cb_X3_operand_48 fu rc F G) (fun _ F' _ => CFS F0 F') := by
  unfold cb_X3_operand_48
  refine PP.bind (cw_X1_addPair (66 : Int32) (F 12) F G) ?_
  intro r1 F1 G1 hK1
  dsimp only
  exact kqj_X3_operand_64 rc ih F1 G1 (CFS.tr hK (CFS.k hK1 rfl rfl rfl))
theorem kqj_X3_operand_144 {fu : Nat} (rc : RC) (ih : kQI1 rc) {F0 : PF} (F : PF) (G : PG) (hK : CFS F0 F) : PP (cb_X3_operand_144 fu rc F G) (fun _ F' _ => CFS F0 F') := by
  unfold cb_X3_operand_144
  exact kqj_X3_operand_183 rc ih F G hK
theorem kqj_X3_operand_135 {fu : Nat} (rc : RC) (ih : kQI1 rc) {F0 : PF} (F : PF) (G : PG) (hK : CFS F0 F) : PP (cb_X3_operand_135 fu rc F G) (fun _ F' _ => CFS F0 F') := by
  unfold cb_X3_operand_135
  refine PP.bind (cw_X1_add (17 : Int32) F G) ?_
  intro r1 F1 G1 hK1
  dsimp only
  exact kqj_X3_operand_144 rc ih F1 G1 (CFS.tr hK (CFS.k hK1 rfl rfl rfl))
theorem kqj_X3_operand_126 {fu : Nat} (rc : RC) (ih : kQI1 rc) {F0 : PF} (F : PF) (G : PG) (hK : CFS F0 F) : PP (cb_X3_operand_126 fu rc F G) (fun _ F' _ => CFS F0 F') := by
  unfold cb_X3_operand_126
  refine PP.bind (kq_X2_closesWith (20 : Int32) (by decide) F G) ?_
  intro r1 F1 G1 hK1
  dsimp only
  exact kqj_X3_operand_135 rc ih F1 G1 (CFS.tr hK hK1)
theorem kqj_X3_operand_123 {fu : Nat} (rc : RC) (ih : kQI1 rc) {F0 : PF} (z0 : Int32) (F : PF) (G : PG) (hK : CFS F0 F) : PP (cb_X3_operand_123 fu rc z0 F G) (fun _ F' _ => CFS F0 F') := by
  unfold cb_X3_operand_123
  refine PP.ite (fun c_1 => ?_) (fun c_1 => ?_)
  · skip
    exact kqj_X3_operand_135 rc ih F G hK
  · skip
    exact kqj_X3_operand_126 rc ih F G hK
theorem kqj_X3_operand_114 {fu : Nat} (rc : RC) (ih : kQI1 rc) {F0 : PF} (F : PF) (G : PG) (hK : CFS F0 F) : PP (cb_X3_operand_114 fu rc F G) (fun _ F' _ => CFS F0 F') := by
  unfold cb_X3_operand_114
  refine PP.bind (kq_X2_opens (19 : Int32) (by decide) F G) ?_
  intro r1 F1 G1 hK1
  dsimp only
  exact kqj_X3_operand_123 rc ih r1 F1 G1 (CFS.tr hK hK1)
theorem kqj_X3_operand_107 {fu : Nat} (rc : RC) (ih : kQI1 rc) {F0 : PF} (F : PF) (G : PG) (hK : CFS F0 F) : PP (cb_X3_operand_107 fu rc F G) (fun _ F' _ => CFS F0 F') := by
  unfold cb_X3_operand_107
  refine PP.bind (kq_X2_next F G) ?_
  intro r1 F1 G1 hK1
  dsimp only
  exact kqj_X3_operand_114 rc ih F1 G1 (CFS.tr hK hK1)
theorem kqj_X3_operand_91 {fu : Nat} (rc : RC) (ih : kQI1 rc) {F0 : PF} (F : PF) (G : PG) (hK : CFS F0 F) : PP (cb_X3_operand_91 fu rc F G) (fun _ F' _ => CFS F0 F') := by
  unfold cb_X3_operand_91
  refine PP.bind (kq_X5_note (7 : Int32) (F 13) F G) ?_
  intro r1 F1 G1 hK1
  dsimp only
  exact kqj_X3_operand_107 rc ih F1 G1 (CFS.tr hK hK1)
theorem kqj_X3_operand_81 {fu : Nat} (rc : RC) (ih : kQI1 rc) {F0 : PF} (F : PF) (G : PG) (hK : CFS F0 F) : PP (cb_X3_operand_81 fu rc F G) (fun _ F' _ => CFS F0 F') := by
  unfold cb_X3_operand_81
  refine PP.ite (fun c_1 => ?_) (fun c_1 => ?_)
  · skip
    exact kqj_X3_operand_107 rc ih F G hK
  · skip
    exact kqj_X3_operand_91 rc ih F G hK
theorem kqj_X3_operand_172 {fu : Nat} (rc : RC) (ih : kQI1 rc) {F0 : PF} (F : PF) (G : PG) (hK : CFS F0 F) : PP (cb_X3_operand_172 fu rc F G) (fun _ F' _ => CFS F0 F') := by
  unfold cb_X3_operand_172
  exact kqj_X3_operand_183 rc ih F G hK
theorem kqj_X3_operand_163 {fu : Nat} (rc : RC) (ih : kQI1 rc) {F0 : PF} (F : PF) (G : PG) (hK : CFS F0 F) : PP (cb_X3_operand_163 fu rc F G) (fun _ F' _ => CFS F0 F') := by
  unfold cb_X3_operand_163
  refine PP.bind (kq_X2_closesWith (20 : Int32) (by decide) F G) ?_
  intro r1 F1 G1 hK1
  dsimp only
  exact kqj_X3_operand_172 rc ih F1 G1 (CFS.tr hK hK1)
theorem kqj_X3_operand_159 {fu : Nat} (rc : RC) (ih : kQI1 rc) {F0 : PF} (F : PF) (G : PG) (hK : CFS F0 F) : PP (cb_X3_operand_159 fu rc F G) (fun _ F' _ => CFS F0 F') := by
  unfold cb_X3_operand_159
  refine PP.bind (ih 1 0 0 F G) ?_
  intro r1 F1 G1 hK1
  dsimp only
  exact kqj_X3_operand_163 rc ih F1 G1 (CFS.tr hK hK1)
theorem kqj_X3_operand_156 {fu : Nat} (rc : RC) (ih : kQI1 rc) {F0 : PF} (z0 : Int32) (F : PF) (G : PG) (hK : CFS F0 F) : PP (cb_X3_operand_156 fu rc z0 F G) (fun _ F' _ => CFS F0 F') := by
  unfold cb_X3_operand_156
  refine PP.ite (fun c_1 => ?_) (fun c_1 => ?_)
  · skip
    exact kqj_X3_operand_183 rc ih F G hK
  · skip
    exact kqj_X3_operand_159 rc ih F G hK
theorem kqj_X3_operand_147 {fu : Nat} (rc : RC) (ih : kQI1 rc) {F0 : PF} (F : PF) (G : PG) (hK : CFS F0 F) : PP (cb_X3_operand_147 fu rc F G) (fun _ F' _ => CFS F0 F') := by
  unfold cb_X3_operand_147
  refine PP.bind (kq_X2_opens (19 : Int32) (by decide) F G) ?_
  intro r1 F1 G1 hK1
  dsimp only
  exact kqj_X3_operand_156 rc ih r1 F1 G1 (CFS.tr hK hK1)
theorem kqj_X3_operand_175 {fu : Nat} (rc : RC) (ih : kQI1 rc) {F0 : PF} (F : PF) (G : PG) (hK : CFS F0 F) : PP (cb_X3_operand_175 fu rc F G) (fun _ F' _ => CFS F0 F') := by
  unfold cb_X3_operand_175
  refine PP.bind (kq_X2_fail (2 : Int32) F G) ?_
  intro r1 F1 G1 hK1
  dsimp only
  exact kqj_X3_operand_183 rc ih F1 G1 (CFS.tr hK hK1)
theorem kqt_X3_operand {fu : Nat} (rc : RC) (ih : kQI1 rc) (F : PF) (G : PG) : PP (ch_X3_operand fu rc F G) (fun _ F' _ => CFS F F') := by
  unfold ch_X3_operand
  unfold cb_X3_operand_0
  refine PP.ite (fun c_1 => ?_) (fun c_1 => ?_)
  · skip
    exact kqj_X3_operand_74 rc ih F G CFS.rf
  refine PP.ite (fun c_2 => ?_) (fun c_2 => ?_)
  · skip
    exact kqj_X3_operand_48 rc ih F G CFS.rf
  refine PP.ite (fun c_3 => ?_) (fun c_3 => ?_)
  · skip
    exact kqj_X3_operand_81 rc ih F G CFS.rf
  refine PP.ite (fun c_4 => ?_) (fun c_4 => ?_)
  · skip
    exact kqj_X3_operand_147 rc ih F G CFS.rf
  exact kqj_X3_operand_175 rc ih F G CFS.rf
theorem kqS1 {fu : Nat} : ∀ d : Nat, kQI1 (cS1 fu d) := by
  intro d
  induction d with
  | zero => exact fun _ _ _ _ _ => PP.no
  | succ d ih =>
    intro i x y F G
    exact PP.ite (fun _ => kqt_X3_call (cS1 fu d) ih x y F G) (fun _ => PP.ite (fun _ => kqt_X3_expression (cS1 fu d) ih F G) (fun _ => PP.ite (fun _ => kqt_X3_index (cS1 fu d) ih x F G) (fun _ => PP.ite (fun _ => kqt_X3_joinedOperands (cS1 fu d) ih F G) (fun _ => PP.ite (fun _ => kqt_X3_named (cS1 fu d) ih F G) (fun _ => PP.ite (fun _ => kqt_X3_operand (cS1 fu d) ih F G) (fun _ => PP.no))))))
theorem kq_X3_call {fu : Nat} (x : Int32) (y : Int32) (F : PF) (G : PG) : PP (cf_X3_call fu x y F G) (fun _ F' _ => CFS F F') := kqS1 300 0 x y F G
theorem kq_X3_expression {fu : Nat} (F : PF) (G : PG) : PP (cf_X3_expression fu F G) (fun _ F' _ => CFS F F') := kqS1 300 1 0 0 F G
theorem kq_X3_index {fu : Nat} (x : Int32) (F : PF) (G : PG) : PP (cf_X3_index fu x F G) (fun _ F' _ => CFS F F') := kqS1 300 2 x 0 F G
theorem kq_X3_joinedOperands {fu : Nat} (F : PF) (G : PG) : PP (cf_X3_joinedOperands fu F G) (fun _ F' _ => CFS F F') := kqS1 300 3 0 0 F G
theorem kq_X3_named {fu : Nat} (F : PF) (G : PG) : PP (cf_X3_named fu F G) (fun _ F' _ => CFS F F') := kqS1 300 4 0 0 F G
theorem kq_X3_operand {fu : Nat} (F : PF) (G : PG) : PP (cf_X3_operand fu F G) (fun _ F' _ => CFS F F') := kqS1 300 5 0 0 F G
theorem kqj_X3_constant_50 {fu : Nat} {F0 : PF} (x2 : Int32) (F : PF) (G : PG) (hK : CFS F0 F) : PP (cb_X3_constant_50 fu x2 F G) (fun _ F' _ => CFS F0 F') := by
  unfold cb_X3_constant_50
  refine PP.ret ?_
  exact hK
theorem kqj_X3_constant_41 {fu : Nat} {F0 : PF} (x1 : Int32) (z0 : Int32) (F : PF) (G : PG) (hK : CFS F0 F) : PP (cb_X3_constant_41 fu x1 z0 F G) (fun _ F' _ => CFS F0 F') := by
  unfold cb_X3_constant_41
  refine PP.bind (cw_X1_cut x1 F G) ?_
  intro r1 F1 G1 hK1
  dsimp only
  exact kqj_X3_constant_50 z0 F1 G1 (CFS.tr hK (CFS.k hK1 rfl rfl rfl))
theorem kqj_X3_constant_40 {fu : Nat} {F0 : PF} (x1 : Int32) (F : PF) (G : PG) (hK : CFS F0 F) : PP (cb_X3_constant_40 fu x1 F G) (fun _ F' _ => CFS F0 F') := by
  unfold cb_X3_constant_40
  exact kqj_X3_constant_41 x1 (0 : Int32) F G hK
theorem kqj_X3_constant_37 {fu : Nat} {F0 : PF} (x1 : Int32) (z0 : Int32) (F : PF) (G : PG) (hK : CFS F0 F) : PP (cb_X3_constant_37 fu x1 z0 F G) (fun _ F' _ => CFS F0 F') := by
  unfold cb_X3_constant_37
  exact kqj_X3_constant_41 x1 z0 F G hK
theorem kqj_X3_constant_29 {fu : Nat} {F0 : PF} (x1 : Int32) (F : PF) (G : PG) (hK : CFS F0 F) : PP (cb_X3_constant_29 fu x1 F G) (fun _ F' _ => CFS F0 F') := by
  unfold cb_X3_constant_29
  refine PP.bind (cw_X6_valueFrom x1 F G) ?_
  intro r1 F1 G1 hK1
  dsimp only
  exact kqj_X3_constant_37 x1 r1 F1 G1 (CFS.tr hK (CFS.k hK1 rfl rfl rfl))
theorem kqj_X3_constant_26 {fu : Nat} {F0 : PF} (x1 : Int32) (z0 : Int32) (F : PF) (G : PG) (hK : CFS F0 F) : PP (cb_X3_constant_26 fu x1 z0 F G) (fun _ F' _ => CFS F0 F') := by
  unfold cb_X3_constant_26
  refine PP.ite (fun c_1 => ?_) (fun c_1 => ?_)
  · skip
    exact kqj_X3_constant_40 x1 F G hK
  · skip
    exact kqj_X3_constant_29 x1 F G hK
theorem kqj_X3_constant_19 {fu : Nat} {F0 : PF} (x1 : Int32) (F : PF) (G : PG) (hK : CFS F0 F) : PP (cb_X3_constant_19 fu x1 F G) (fun _ F' _ => CFS F0 F') := by
  unfold cb_X3_constant_19
  refine PP.bind (cw_X5_endsConstant F G) ?_
  intro r1 F1 G1 hK1
  dsimp only
  exact kqj_X3_constant_26 x1 r1 F1 G1 (CFS.tr hK (CFS.k hK1 rfl rfl rfl))
theorem kqj_X3_constant_15 {fu : Nat} {F0 : PF} (x1 : Int32) (F : PF) (G : PG) (hK : CFS F0 F) : PP (cb_X3_constant_15 fu x1 F G) (fun _ F' _ => CFS F0 F') := by
  unfold cb_X3_constant_15
  refine PP.bind (kq_X3_expression F G) ?_
  intro r1 F1 G1 hK1
  dsimp only
  exact kqj_X3_constant_19 x1 F1 G1 (CFS.tr hK hK1)
theorem kq_X3_constant {fu : Nat} (F : PF) (G : PG) : PP (cf_X3_constant fu F G) (fun _ F' _ => CFS F F') := by
  unfold cf_X3_constant
  unfold cb_X3_constant_0
  refine PP.bind (cw_X5_startConstant F G) ?_
  intro r1 F1 G1 hK1
  dsimp only
  exact kqj_X3_constant_15 (F 6) F1 G1 (CFS.tr CFS.rf (CFS.k hK1 rfl rfl rfl))
theorem kqj_X5_elements_19 {fu : Nat} {F0 : PF} (F : PF) (G : PG) (hK : CFS F0 F) : PP (cb_X5_elements_19 fu F G) (fun _ F' _ => CFS F0 F') := by
  unfold cb_X5_elements_19
  refine PP.ret ?_
  exact hK
theorem kqj_X5_elements_12 {fu : Nat} {F0 : PF} (x2 : Int32) (F : PF) (G : PG) (hK : CFS F0 F) : PP (cb_X5_elements_12 fu x2 F G) (fun _ F' _ => CFS F0 F') := by
  unfold cb_X5_elements_12
  refine PP.bind (kq_X5_note (7 : Int32) x2 F G) ?_
  intro r1 F1 G1 hK1
  dsimp only
  exact kqj_X5_elements_19 F1 G1 (CFS.tr hK hK1)
theorem kqj_X5_elements_21 {fu : Nat} {F0 : PF} (x1 : Int32) (F : PF) (G : PG) (hK : CFS F0 F) : PP (cb_X5_elements_21 fu x1 F G) (fun _ F' _ => CFS F0 F') := by
  unfold cb_X5_elements_21
  refine PP.ret ?_
  exact hK
theorem kqj_X5_elements_5 {fu : Nat} {F0 : PF} (x1 : Int32) (x2 : Int32) (F : PF) (G : PG) (hK : CFS F0 F) : PP (cb_X5_elements_5 fu x1 x2 F G) (fun _ F' _ => CFS F0 F') := by
  unfold cb_X5_elements_5
  refine PP.ite (fun c_1 => ?_) (fun c_1 => ?_)
  · skip
    exact kqj_X5_elements_21 x1 F G hK
  · skip
    exact kqj_X5_elements_12 x2 F G hK
theorem kq_X5_elements {fu : Nat} (x1 : Int32) (x2 : Int32) (F : PF) (G : PG) : PP (cf_X5_elements fu x1 x2 F G) (fun _ F' _ => CFS F F') := by
  unfold cf_X5_elements
  unfold cb_X5_elements_0
  refine PP.ite (fun c_1 => ?_) (fun c_1 => ?_)
  · skip
    exact kqj_X5_elements_12 x2 F G CFS.rf
  · skip
    exact kqj_X5_elements_5 x1 x2 F G CFS.rf
theorem kqj_X3_arraySize_12 {fu : Nat} {F0 : PF} (F : PF) (G : PG) (hK : CFS F0 F) : PP (cb_X3_arraySize_12 fu F G) (fun _ F' _ => CFS F0 F') := by
  unfold cb_X3_arraySize_12
  refine PP.ret ?_
  exact hK
theorem kqj_X3_arraySize_89 {fu : Nat} {F0 : PF} (x3 : Int32) (F : PF) (G : PG) (hK : CFS F0 F) : PP (cb_X3_arraySize_89 fu x3 F G) (fun _ F' _ => CFS F0 F') := by
  unfold cb_X3_arraySize_89
  refine PP.ret ?_
  exact hK
theorem kqj_X3_arraySize_80 {fu : Nat} {F0 : PF} (x3 : Int32) (F : PF) (G : PG) (hK : CFS F0 F) : PP (cb_X3_arraySize_80 fu x3 F G) (fun _ F' _ => CFS F0 F') := by
  unfold cb_X3_arraySize_80
  refine PP.bind (kq_X2_closesWith (22 : Int32) (by decide) F G) ?_
  intro r1 F1 G1 hK1
  dsimp only
  exact kqj_X3_arraySize_89 x3 F1 G1 (CFS.tr hK hK1)
theorem kqj_X3_arraySize_71 {fu : Nat} {F0 : PF} (x2 : Int32) (z0 : Int32) (F : PF) (G : PG) (hK : CFS F0 F) : PP (cb_X3_arraySize_71 fu x2 z0 F G) (fun _ F' _ => CFS F0 F') := by
  unfold cb_X3_arraySize_71
  refine PP.bind (cw_X1_cut x2 F G) ?_
  intro r1 F1 G1 hK1
  dsimp only
  exact kqj_X3_arraySize_80 z0 F1 G1 (CFS.tr hK (CFS.k hK1 rfl rfl rfl))
theorem kqj_X3_arraySize_70 {fu : Nat} {F0 : PF} (x2 : Int32) (F : PF) (G : PG) (hK : CFS F0 F) : PP (cb_X3_arraySize_70 fu x2 F G) (fun _ F' _ => CFS F0 F') := by
  unfold cb_X3_arraySize_70
  exact kqj_X3_arraySize_71 x2 (0 : Int32) F G hK
theorem kqj_X3_arraySize_67 {fu : Nat} {F0 : PF} (x2 : Int32) (z0 : Int32) (F : PF) (G : PG) (hK : CFS F0 F) : PP (cb_X3_arraySize_67 fu x2 z0 F G) (fun _ F' _ => CFS F0 F') := by
  unfold cb_X3_arraySize_67
  exact kqj_X3_arraySize_71 x2 z0 F G hK
theorem kqj_X3_arraySize_63 {fu : Nat} {F0 : PF} (x1 : Int32) (x2 : Int32) (z0 : Int32) (F : PF) (G : PG) (hK : CFS F0 F) : PP (cb_X3_arraySize_63 fu x1 x2 z0 F G) (fun _ F' _ => CFS F0 F') := by
  unfold cb_X3_arraySize_63
  refine PP.bind (kq_X5_elements z0 x1 F G) ?_
  intro r1 F1 G1 hK1
  dsimp only
  exact kqj_X3_arraySize_67 x2 r1 F1 G1 (CFS.tr hK hK1)
theorem kqj_X3_arraySize_51 {fu : Nat} {F0 : PF} (x1 : Int32) (x2 : Int32) (F : PF) (G : PG) (hK : CFS F0 F) : PP (cb_X3_arraySize_51 fu x1 x2 F G) (fun _ F' _ => CFS F0 F') := by
  unfold cb_X3_arraySize_51
  refine PP.bind (cw_X6_valueFrom x2 F G) ?_
  intro r1 F1 G1 hK1
  dsimp only
  exact kqj_X3_arraySize_63 x1 x2 r1 F1 G1 (CFS.tr hK (CFS.k hK1 rfl rfl rfl))
theorem kqj_X3_arraySize_48 {fu : Nat} {F0 : PF} (x1 : Int32) (x2 : Int32) (z0 : Int32) (F : PF) (G : PG) (hK : CFS F0 F) : PP (cb_X3_arraySize_48 fu x1 x2 z0 F G) (fun _ F' _ => CFS F0 F') := by
  unfold cb_X3_arraySize_48
  refine PP.ite (fun c_1 => ?_) (fun c_1 => ?_)
  · skip
    exact kqj_X3_arraySize_70 x2 F G hK
  · skip
    exact kqj_X3_arraySize_51 x1 x2 F G hK
theorem kqj_X3_arraySize_41 {fu : Nat} {F0 : PF} (x1 : Int32) (x2 : Int32) (F : PF) (G : PG) (hK : CFS F0 F) : PP (cb_X3_arraySize_41 fu x1 x2 F G) (fun _ F' _ => CFS F0 F') := by
  unfold cb_X3_arraySize_41
  refine PP.bind (cw_X5_endsConstant F G) ?_
  intro r1 F1 G1 hK1
  dsimp only
  exact kqj_X3_arraySize_48 x1 x2 r1 F1 G1 (CFS.tr hK (CFS.k hK1 rfl rfl rfl))
theorem kqj_X3_arraySize_37 {fu : Nat} {F0 : PF} (x1 : Int32) (x2 : Int32) (F : PF) (G : PG) (hK : CFS F0 F) : PP (cb_X3_arraySize_37 fu x1 x2 F G) (fun _ F' _ => CFS F0 F') := by
  unfold cb_X3_arraySize_37
  refine PP.bind (kq_X3_expression F G) ?_
  intro r1 F1 G1 hK1
  dsimp only
  exact kqj_X3_arraySize_41 x1 x2 F1 G1 (CFS.tr hK hK1)
theorem kqj_X3_arraySize_14 {fu : Nat} {F0 : PF} (F : PF) (G : PG) (hK : CFS F0 F) : PP (cb_X3_arraySize_14 fu F G) (fun _ F' _ => CFS F0 F') := by
  unfold cb_X3_arraySize_14
  refine PP.bind (cw_X5_startConstant F G) ?_
  intro r1 F1 G1 hK1
  dsimp only
  exact kqj_X3_arraySize_37 (F 13) (F 6) F1 G1 (CFS.tr hK (CFS.k hK1 rfl rfl rfl))
theorem kqj_X3_arraySize_9 {fu : Nat} {F0 : PF} (z0 : Int32) (F : PF) (G : PG) (hK : CFS F0 F) : PP (cb_X3_arraySize_9 fu z0 F G) (fun _ F' _ => CFS F0 F') := by
  unfold cb_X3_arraySize_9
  refine PP.ite (fun c_1 => ?_) (fun c_1 => ?_)
  · skip
    exact kqj_X3_arraySize_12 F G hK
  · skip
    exact kqj_X3_arraySize_14 F G hK
theorem kq_X3_arraySize {fu : Nat} (F : PF) (G : PG) : PP (cf_X3_arraySize fu F G) (fun _ F' _ => CFS F F') := by
  unfold cf_X3_arraySize
  unfold cb_X3_arraySize_0
  refine PP.bind (kq_X2_opens (21 : Int32) (by decide) F G) ?_
  intro r1 F1 G1 hK1
  dsimp only
  exact kqj_X3_arraySize_9 r1 F1 G1 (CFS.tr CFS.rf hK1)
theorem kqj_X5_tell_7 {fu : Nat} {F0 : PF} (F : PF) (G : PG) (hK : CFS F0 F) : PP (cb_X5_tell_7 fu F G) (fun _ F' _ => CFS F0 F') := by
  unfold cb_X5_tell_7
  refine PP.ret ?_
  exact hK
theorem kqj_X5_tell_114 {fu : Nat} {F0 : PF} (F : PF) (G : PG) (hK : CFS F0 F) : PP (cb_X5_tell_114 fu F G) (fun _ F' _ => CFS F0 F') := by
  unfold cb_X5_tell_114
  refine PP.ret ?_
  exact hK
theorem kqj_X5_tell_103 {fu : Nat} {F0 : PF} (x1 : Int32) (x2 : Int32) (x3 : Int32) (x4 : Int32) (x5 : Int32) (F : PF) (G : PG) (hK : CFS F0 F) : PP (cb_X5_tell_103 fu x1 x2 x3 x4 x5 F G) (fun _ F' _ => CFS F0 F') := by
  unfold cb_X5_tell_103
  refine PP.bind (cw_X5_install x1 x2 x3 x4 x5 F G) ?_
  intro r1 F1 G1 hK1
  dsimp only
  exact kqj_X5_tell_114 F1 G1 (CFS.tr hK (CFS.k hK1 rfl rfl rfl))
theorem kqj_X5_tell_100 {fu : Nat} {F0 : PF} (F : PF) (G : PG) (hK : CFS F0 F) : PP (cb_X5_tell_100 fu F G) (fun _ F' _ => CFS F0 F') := by
  unfold cb_X5_tell_100
  exact kqj_X5_tell_114 F G hK
theorem kqj_X5_tell_94 {fu : Nat} {F0 : PF} (x2 : Int32) (F : PF) (G : PG) (hK : CFS F0 F) : PP (cb_X5_tell_94 fu x2 F G) (fun _ F' _ => CFS F0 F') := by
  unfold cb_X5_tell_94
  refine PP.bind (kq_X5_note (1 : Int32) x2 F G) ?_
  intro r1 F1 G1 hK1
  dsimp only
  exact kqj_X5_tell_100 F1 G1 (CFS.tr hK hK1)
theorem kqj_X5_tell_89 {fu : Nat} {F0 : PF} (x1 : Int32) (x2 : Int32) (x3 : Int32) (x4 : Int32) (x5 : Int32) (x8 : Int32) (F : PF) (G : PG) (hK : CFS F0 F) : PP (cb_X5_tell_89 fu x1 x2 x3 x4 x5 x8 F G) (fun _ F' _ => CFS F0 F') := by
  unfold cb_X5_tell_89
  refine PP.ite (fun c_1 => ?_) (fun c_1 => ?_)
  · skip
    exact kqj_X5_tell_94 x2 F G hK
  · skip
    exact kqj_X5_tell_103 x1 x2 x3 x4 x5 F G hK
theorem kqj_X5_tell_82 {fu : Nat} {F0 : PF} (x1 : Int32) (x2 : Int32) (x3 : Int32) (x4 : Int32) (x5 : Int32) (x7 : Int32) (z0 : Int32) (F : PF) (G : PG) (hK : CFS F0 F) : PP (cb_X5_tell_82 fu x1 x2 x3 x4 x5 x7 z0 F G) (fun _ F' _ => CFS F0 F') := by
  unfold cb_X5_tell_82
  refine PP.ite (fun c_1 => ?_) (fun c_1 => ?_)
  · skip
    exact kqj_X5_tell_103 x1 x2 x3 x4 x5 F G hK
  · skip
    exact kqj_X5_tell_89 x1 x2 x3 x4 x5 z0 F G hK
theorem kqj_X5_tell_81 {fu : Nat} {F0 : PF} (x1 : Int32) (x2 : Int32) (x3 : Int32) (x4 : Int32) (x5 : Int32) (x7 : Int32) (F : PF) (G : PG) (hK : CFS F0 F) : PP (cb_X5_tell_81 fu x1 x2 x3 x4 x5 x7 F G) (fun _ F' _ => CFS F0 F') := by
  unfold cb_X5_tell_81
  exact kqj_X5_tell_82 x1 x2 x3 x4 x5 x7 (0 : Int32) F G hK
theorem kqj_X5_tell_77 {fu : Nat} {F0 : PF} (x1 : Int32) (x2 : Int32) (x3 : Int32) (x4 : Int32) (x5 : Int32) (x7 : Int32) (F : PF) (G : PG) (hK : CFS F0 F) : PP (cb_X5_tell_77 fu x1 x2 x3 x4 x5 x7 F G) (fun _ F' _ => CFS F0 F') := by
  unfold cb_X5_tell_77
  exact kqj_X5_tell_82 x1 x2 x3 x4 x5 x7 (1 : Int32) F G hK
theorem kqj_X5_tell_66 {fu : Nat} {F0 : PF} (x1 : Int32) (x2 : Int32) (x3 : Int32) (x4 : Int32) (x5 : Int32) (x6 : Int32) (x7 : Int32) (F : PF) (G : PG) (hK : CFS F0 F) : PP (cb_X5_tell_66 fu x1 x2 x3 x4 x5 x6 x7 F G) (fun _ F' _ => CFS F0 F') := by
  unfold cb_X5_tell_66
  refine PP.ix (fun _ => ?_)
  refine PP.ite (fun c_1 => ?_) (fun c_1 => ?_)
  · skip
    exact kqj_X5_tell_81 x1 x2 x3 x4 x5 x7 F G hK
  · skip
    exact kqj_X5_tell_77 x1 x2 x3 x4 x5 x7 F G hK
theorem kqj_X5_tell_55 {fu : Nat} {F0 : PF} (x1 : Int32) (x2 : Int32) (x3 : Int32) (x4 : Int32) (x5 : Int32) (x6 : Int32) (x7 : Int32) (F : PF) (G : PG) (hK : CFS F0 F) : PP (cb_X5_tell_55 fu x1 x2 x3 x4 x5 x6 x7 F G) (fun _ F' _ => CFS F0 F') := by
  unfold cb_X5_tell_55
  refine PP.ix (fun _ => ?_)
  refine PP.ite (fun c_1 => ?_) (fun c_1 => ?_)
  · skip
    exact kqj_X5_tell_66 x1 x2 x3 x4 x5 x6 x7 F G hK
  · skip
    exact kqj_X5_tell_81 x1 x2 x3 x4 x5 x7 F G hK
theorem kqj_X5_tell_48 {fu : Nat} {F0 : PF} (x1 : Int32) (x2 : Int32) (x3 : Int32) (x4 : Int32) (x5 : Int32) (x6 : Int32) (z0 : Int32) (F : PF) (G : PG) (hK : CFS F0 F) : PP (cb_X5_tell_48 fu x1 x2 x3 x4 x5 x6 z0 F G) (fun _ F' _ => CFS F0 F') := by
  unfold cb_X5_tell_48
  refine PP.ite (fun c_1 => ?_) (fun c_1 => ?_)
  · skip
    exact kqj_X5_tell_81 x1 x2 x3 x4 x5 z0 F G hK
  · skip
    exact kqj_X5_tell_55 x1 x2 x3 x4 x5 x6 z0 F G hK
theorem kqj_X5_tell_47 {fu : Nat} {F0 : PF} (x1 : Int32) (x2 : Int32) (x3 : Int32) (x4 : Int32) (x5 : Int32) (x6 : Int32) (F : PF) (G : PG) (hK : CFS F0 F) : PP (cb_X5_tell_47 fu x1 x2 x3 x4 x5 x6 F G) (fun _ F' _ => CFS F0 F') := by
  unfold cb_X5_tell_47
  exact kqj_X5_tell_48 x1 x2 x3 x4 x5 x6 (0 : Int32) F G hK
theorem kqj_X5_tell_43 {fu : Nat} {F0 : PF} (x1 : Int32) (x2 : Int32) (x3 : Int32) (x4 : Int32) (x5 : Int32) (x6 : Int32) (F : PF) (G : PG) (hK : CFS F0 F) : PP (cb_X5_tell_43 fu x1 x2 x3 x4 x5 x6 F G) (fun _ F' _ => CFS F0 F') := by
  unfold cb_X5_tell_43
  exact kqj_X5_tell_48 x1 x2 x3 x4 x5 x6 (1 : Int32) F G hK
theorem kqj_X5_tell_29 {fu : Nat} {F0 : PF} (x1 : Int32) (x2 : Int32) (x3 : Int32) (x4 : Int32) (x5 : Int32) (x6 : Int32) (F : PF) (G : PG) (hK : CFS F0 F) : PP (cb_X5_tell_29 fu x1 x2 x3 x4 x5 x6 F G) (fun _ F' _ => CFS F0 F') := by
  unfold cb_X5_tell_29
  refine PP.ix (fun _ => ?_)
  refine PP.ite (fun c_1 => ?_) (fun c_1 => ?_)
  · skip
    exact kqj_X5_tell_43 x1 x2 x3 x4 x5 x6 F G hK
  · skip
    exact kqj_X5_tell_47 x1 x2 x3 x4 x5 x6 F G hK
theorem kqj_X5_tell_20 {fu : Nat} {F0 : PF} (x1 : Int32) (x2 : Int32) (x3 : Int32) (x4 : Int32) (x5 : Int32) (x6 : Int32) (F : PF) (G : PG) (hK : CFS F0 F) : PP (cb_X5_tell_20 fu x1 x2 x3 x4 x5 x6 F G) (fun _ F' _ => CFS F0 F') := by
  unfold cb_X5_tell_20
  refine PP.ite (fun c_1 => ?_) (fun c_1 => ?_)
  · skip
    exact kqj_X5_tell_47 x1 x2 x3 x4 x5 x6 F G hK
  · skip
    exact kqj_X5_tell_29 x1 x2 x3 x4 x5 x6 F G hK
theorem kqj_X5_tell_13 {fu : Nat} {F0 : PF} (x1 : Int32) (x2 : Int32) (x3 : Int32) (x4 : Int32) (x5 : Int32) (z0 : Int32) (F : PF) (G : PG) (hK : CFS F0 F) : PP (cb_X5_tell_13 fu x1 x2 x3 x4 x5 z0 F G) (fun _ F' _ => CFS F0 F') := by
  unfold cb_X5_tell_13
  refine PP.ite (fun c_1 => ?_) (fun c_1 => ?_)
  · skip
    exact kqj_X5_tell_47 x1 x2 x3 x4 x5 z0 F G hK
  · skip
    exact kqj_X5_tell_20 x1 x2 x3 x4 x5 z0 F G hK
theorem kqj_X5_tell_8 {fu : Nat} {F0 : PF} (x1 : Int32) (x2 : Int32) (x3 : Int32) (x4 : Int32) (x5 : Int32) (F : PF) (G : PG) (hK : CFS F0 F) : PP (cb_X5_tell_8 fu x1 x2 x3 x4 x5 F G) (fun _ F' _ => CFS F0 F') := by
  unfold cb_X5_tell_8
  refine PP.bind (cw_X5_known x1 F G) ?_
  intro r1 F1 G1 hK1
  dsimp only
  exact kqj_X5_tell_13 x1 x2 x3 x4 x5 r1 F1 G1 (CFS.tr hK (CFS.k hK1 rfl rfl rfl))
theorem kq_X5_tell {fu : Nat} (x1 : Int32) (x2 : Int32) (x3 : Int32) (x4 : Int32) (x5 : Int32) (F : PF) (G : PG) : PP (cf_X5_tell fu x1 x2 x3 x4 x5 F G) (fun _ F' _ => CFS F F') := by
  unfold cf_X5_tell
  unfold cb_X5_tell_0
  refine PP.ite (fun c_1 => ?_) (fun c_1 => ?_)
  · skip
    exact kqj_X5_tell_7 F G CFS.rf
  · skip
    exact kqj_X5_tell_8 x1 x2 x3 x4 x5 F G CFS.rf
theorem kqj_X5_tellFormal_35 {fu : Nat} {F0 : PF} (F : PF) (G : PG) (hK : CFS F0 F) : PP (cb_X5_tellFormal_35 fu F G) (fun _ F' _ => CFS F0 F') := by
  unfold cb_X5_tellFormal_35
  refine PP.ret ?_
  exact hK
theorem kqj_X5_tellFormal_25 {fu : Nat} {F0 : PF} (x1 : Int32) (x2 : Int32) (x3 : Int32) (x4 : Int32) (F : PF) (G : PG) (hK : CFS F0 F) : PP (cb_X5_tellFormal_25 fu x1 x2 x3 x4 F G) (fun _ F' _ => CFS F0 F') := by
  unfold cb_X5_tellFormal_25
  refine PP.bind (kq_X5_tell x1 x2 x3 x4 (0 : Int32) F G) ?_
  intro r1 F1 G1 hK1
  dsimp only
  exact kqj_X5_tellFormal_35 F1 G1 (CFS.tr hK hK1)
theorem kqj_X5_tellFormal_21 {fu : Nat} {F0 : PF} (x1 : Int32) (x2 : Int32) (x3 : Int32) (x4 : Int32) (z0 : Int32) (z1 : Int32) (F : PF) (G : PG) (hK : CFS F0 F) : PP (cb_X5_tellFormal_21 fu x1 x2 x3 x4 z0 z1 F G) (fun _ F' _ => CFS F0 F') := by
  unfold cb_X5_tellFormal_21
  exact kqj_X5_tellFormal_25 x1 x2 x3 x4 (fup F 49 (z1 + z0)) G (CFS.f (k := 49) rfl hK)
theorem kqj_X5_tellFormal_16 {fu : Nat} {F0 : PF} (x1 : Int32) (x2 : Int32) (x3 : Int32) (x4 : Int32) (z0 : Int32) (F : PF) (G : PG) (hK : CFS F0 F) : PP (cb_X5_tellFormal_16 fu x1 x2 x3 x4 z0 F G) (fun _ F' _ => CFS F0 F') := by
  unfold cb_X5_tellFormal_16
  exact kqj_X5_tellFormal_21 x1 x2 x3 x4 (1 : Int32) z0 F G hK
theorem kqj_X5_tellFormal_20 {fu : Nat} {F0 : PF} (x1 : Int32) (x2 : Int32) (x3 : Int32) (x4 : Int32) (z0 : Int32) (F : PF) (G : PG) (hK : CFS F0 F) : PP (cb_X5_tellFormal_20 fu x1 x2 x3 x4 z0 F G) (fun _ F' _ => CFS F0 F') := by
  unfold cb_X5_tellFormal_20
  exact kqj_X5_tellFormal_21 x1 x2 x3 x4 (2 : Int32) z0 F G hK
theorem kqj_X5_tellFormal_4 {fu : Nat} {F0 : PF} (x1 : Int32) (x2 : Int32) (x3 : Int32) (z0 : Int32) (F : PF) (G : PG) (hK : CFS F0 F) : PP (cb_X5_tellFormal_4 fu x1 x2 x3 z0 F G) (fun _ F' _ => CFS F0 F') := by
  unfold cb_X5_tellFormal_4
  refine PP.ite (fun c_1 => ?_) (fun c_1 => ?_)
  · skip
    exact kqj_X5_tellFormal_16 x1 x2 x3 z0 (F 49) F G hK
  · skip
    exact kqj_X5_tellFormal_20 x1 x2 x3 z0 (F 49) F G hK
theorem kq_X5_tellFormal {fu : Nat} (x1 : Int32) (x2 : Int32) (x3 : Int32) (F : PF) (G : PG) : PP (cf_X5_tellFormal fu x1 x2 x3 F G) (fun _ F' _ => CFS F F') := by
  unfold cf_X5_tellFormal
  unfold cb_X5_tellFormal_0
  refine PP.bind (cw_X5_measure F G) ?_
  intro r1 F1 G1 hK1
  dsimp only
  exact kqj_X5_tellFormal_4 x1 x2 x3 r1 F1 G1 (CFS.tr CFS.rf (CFS.k hK1 rfl rfl rfl))
theorem kqj_X4_formal_152 {fu : Nat} {F0 : PF} (F : PF) (G : PG) (hK : CFS F0 F) : PP (cb_X4_formal_152 fu F G) (fun _ F' _ => CFS F0 F') := by
  unfold cb_X4_formal_152
  refine PP.ret ?_
  exact hK
theorem kqj_X4_formal_143 {fu : Nat} {F0 : PF} (x6 : Int32) (F : PF) (G : PG) (hK : CFS F0 F) : PP (cb_X4_formal_143 fu x6 F G) (fun _ F' _ => CFS F0 F') := by
  unfold cb_X4_formal_143
  refine PP.bind (cw_X8_addFormal x6 F G) ?_
  intro r1 F1 G1 hK1
  dsimp only
  exact kqj_X4_formal_152 F1 G1 (CFS.tr hK (CFS.k hK1 rfl rfl rfl))
theorem kqj_X4_formal_182 {fu : Nat} {F0 : PF} (F : PF) (G : PG) (hK : CFS F0 F) : PP (cb_X4_formal_182 fu F G) (fun _ F' _ => CFS F0 F') := by
  unfold cb_X4_formal_182
  refine PP.ret ?_
  exact hK
theorem kqj_X4_formal_171 {fu : Nat} {F0 : PF} (x5 : Int32) (F : PF) (G : PG) (hK : CFS F0 F) : PP (cb_X4_formal_171 fu x5 F G) (fun _ F' _ => CFS F0 F') := by
  unfold cb_X4_formal_171
  refine PP.bind (kq_X5_note (8 : Int32) x5 F G) ?_
  intro r1 F1 G1 hK1
  dsimp only
  exact kqj_X4_formal_182 F1 G1 (CFS.tr hK hK1)
theorem kqj_X4_formal_166 {fu : Nat} {F0 : PF} (x1 : Int32) (x5 : Int32) (F : PF) (G : PG) (hK : CFS F0 F) : PP (cb_X4_formal_166 fu x1 x5 F G) (fun _ F' _ => CFS F0 F') := by
  unfold cb_X4_formal_166
  refine PP.ite (fun c_1 => ?_) (fun c_1 => ?_)
  · skip
    exact kqj_X4_formal_182 F G hK
  · skip
    exact kqj_X4_formal_171 x5 F G hK
theorem kqj_X4_formal_153 {fu : Nat} {F0 : PF} (x1 : Int32) (x4 : Int32) (x5 : Int32) (x6 : Int32) (F : PF) (G : PG) (hK : CFS F0 F) : PP (cb_X4_formal_153 fu x1 x4 x5 x6 F G) (fun _ F' _ => CFS F0 F') := by
  unfold cb_X4_formal_153
  refine PP.bind (kq_X5_tellFormal x4 x5 x6 F G) ?_
  intro r1 F1 G1 hK1
  dsimp only
  exact kqj_X4_formal_166 x1 x5 F1 G1 (CFS.tr hK hK1)
theorem kqj_X4_formal_133 {fu : Nat} {F0 : PF} (x1 : Int32) (x4 : Int32) (x5 : Int32) (x6 : Int32) (F : PF) (G : PG) (hK : CFS F0 F) : PP (cb_X4_formal_133 fu x1 x4 x5 x6 F G) (fun _ F' _ => CFS F0 F') := by
  unfold cb_X4_formal_133
  refine PP.ite (fun c_1 => ?_) (fun c_1 => ?_)
  · skip
    exact kqj_X4_formal_143 x6 F G hK
  · skip
    exact kqj_X4_formal_153 x1 x4 x5 x6 F G hK
theorem kqj_X4_formal_124 {fu : Nat} {F0 : PF} (x1 : Int32) (x4 : Int32) (x5 : Int32) (x6 : Int32) (F : PF) (G : PG) (hK : CFS F0 F) : PP (cb_X4_formal_124 fu x1 x4 x5 x6 F G) (fun _ F' _ => CFS F0 F') := by
  unfold cb_X4_formal_124
  refine PP.bind (kq_X2_closesWith (22 : Int32) (by decide) F G) ?_
  intro r1 F1 G1 hK1
  dsimp only
  exact kqj_X4_formal_133 x1 x4 x5 x6 F1 G1 (CFS.tr hK hK1)
theorem kqj_X4_formal_121 {fu : Nat} {F0 : PF} (x1 : Int32) (x4 : Int32) (x5 : Int32) (x6 : Int32) (z0 : Int32) (F : PF) (G : PG) (hK : CFS F0 F) : PP (cb_X4_formal_121 fu x1 x4 x5 x6 z0 F G) (fun _ F' _ => CFS F0 F') := by
  unfold cb_X4_formal_121
  refine PP.ite (fun c_1 => ?_) (fun c_1 => ?_)
  · skip
    exact kqj_X4_formal_133 x1 x4 x5 x6 F G hK
  · skip
    exact kqj_X4_formal_124 x1 x4 x5 x6 F G hK
theorem kqj_X4_formal_110 {fu : Nat} {F0 : PF} (x1 : Int32) (x4 : Int32) (x5 : Int32) (z0 : Int32) (F : PF) (G : PG) (hK : CFS F0 F) : PP (cb_X4_formal_110 fu x1 x4 x5 z0 F G) (fun _ F' _ => CFS F0 F') := by
  unfold cb_X4_formal_110
  refine PP.bind (kq_X2_opens (21 : Int32) (by decide) F G) ?_
  intro r1 F1 G1 hK1
  dsimp only
  exact kqj_X4_formal_121 x1 x4 x5 z0 r1 F1 G1 (CFS.tr hK hK1)
theorem kqj_X4_formal_105 {fu : Nat} {F0 : PF} (x1 : Int32) (x4 : Int32) (x5 : Int32) (F : PF) (G : PG) (hK : CFS F0 F) : PP (cb_X4_formal_105 fu x1 x4 x5 F G) (fun _ F' _ => CFS F0 F') := by
  unfold cb_X4_formal_105
  exact kqj_X4_formal_110 x1 x4 x5 (2 : Int32) F G hK
theorem kqj_X4_formal_109 {fu : Nat} {F0 : PF} (x1 : Int32) (x4 : Int32) (x5 : Int32) (F : PF) (G : PG) (hK : CFS F0 F) : PP (cb_X4_formal_109 fu x1 x4 x5 F G) (fun _ F' _ => CFS F0 F') := by
  unfold cb_X4_formal_109
  exact kqj_X4_formal_110 x1 x4 x5 (3 : Int32) F G hK
theorem kqj_X4_formal_100 {fu : Nat} {F0 : PF} (x1 : Int32) (x3 : Int32) (x4 : Int32) (x5 : Int32) (F : PF) (G : PG) (hK : CFS F0 F) : PP (cb_X4_formal_100 fu x1 x3 x4 x5 F G) (fun _ F' _ => CFS F0 F') := by
  unfold cb_X4_formal_100
  refine PP.ite (fun c_1 => ?_) (fun c_1 => ?_)
  · skip
    exact kqj_X4_formal_105 x1 x4 x5 F G hK
  · skip
    exact kqj_X4_formal_109 x1 x4 x5 F G hK
theorem kqj_X4_formal_95 {fu : Nat} {F0 : PF} (x1 : Int32) (x3 : Int32) (x4 : Int32) (x5 : Int32) (x6 : Int32) (F : PF) (G : PG) (hK : CFS F0 F) : PP (cb_X4_formal_95 fu x1 x3 x4 x5 x6 F G) (fun _ F' _ => CFS F0 F') := by
  unfold cb_X4_formal_95
  refine PP.ite (fun c_1 => ?_) (fun c_1 => ?_)
  · skip
    exact kqj_X4_formal_100 x1 x3 x4 x5 F G hK
  · skip
    exact kqj_X4_formal_133 x1 x4 x5 x6 F G hK
theorem kqj_X4_formal_80 {fu : Nat} {F0 : PF} (x1 : Int32) (x3 : Int32) (x4 : Int32) (x5 : Int32) (F : PF) (G : PG) (hK : CFS F0 F) : PP (cb_X4_formal_80 fu x1 x3 x4 x5 F G) (fun _ F' _ => CFS F0 F') := by
  unfold cb_X4_formal_80
  refine PP.ite (fun c_1 => ?_) (fun c_1 => ?_)
  · skip
    exact kqj_X4_formal_100 x1 x3 x4 x5 F G hK
  · skip
    exact kqj_X4_formal_95 x1 x3 x4 x5 (1 : Int32) F G hK
theorem kqj_X4_formal_54 {fu : Nat} {F0 : PF} (x1 : Int32) (x3 : Int32) (F : PF) (G : PG) (hK : CFS F0 F) : PP (cb_X4_formal_54 fu x1 x3 F G) (fun _ F' _ => CFS F0 F') := by
  unfold cb_X4_formal_54
  refine PP.bind (kq_X2_expect (2 : Int32) (by decide) F G) ?_
  intro r1 F1 G1 hK1
  dsimp only
  exact kqj_X4_formal_80 x1 x3 (F 12) (F 13) F1 G1 (CFS.tr hK hK1)
theorem kqj_X4_formal_47 {fu : Nat} {F0 : PF} (x1 : Int32) (x3 : Int32) (F : PF) (G : PG) (hK : CFS F0 F) : PP (cb_X4_formal_47 fu x1 x3 F G) (fun _ F' _ => CFS F0 F') := by
  unfold cb_X4_formal_47
  refine PP.bind (kq_X2_next F G) ?_
  intro r1 F1 G1 hK1
  dsimp only
  exact kqj_X4_formal_54 x1 x3 F1 G1 (CFS.tr hK hK1)
theorem kqj_X4_formal_31 {fu : Nat} {F0 : PF} (x1 : Int32) (x3 : Int32) (F : PF) (G : PG) (hK : CFS F0 F) : PP (cb_X4_formal_31 fu x1 x3 F G) (fun _ F' _ => CFS F0 F') := by
  unfold cb_X4_formal_31
  refine PP.bind (kq_X5_note (9 : Int32) (F 13) F G) ?_
  intro r1 F1 G1 hK1
  dsimp only
  exact kqj_X4_formal_47 x1 x3 F1 G1 (CFS.tr hK hK1)
theorem kqj_X4_formal_27 {fu : Nat} {F0 : PF} (x1 : Int32) (x2 : Int32) (x3 : Int32) (F : PF) (G : PG) (hK : CFS F0 F) : PP (cb_X4_formal_27 fu x1 x2 x3 F G) (fun _ F' _ => CFS F0 F') := by
  unfold cb_X4_formal_27
  refine PP.ite (fun c_1 => ?_) (fun c_1 => ?_)
  · skip
    exact kqj_X4_formal_47 x1 x3 F G hK
  · skip
    exact kqj_X4_formal_31 x1 x3 F G hK
theorem kqj_X4_formal_26 {fu : Nat} {F0 : PF} (F : PF) (G : PG) (hK : CFS F0 F) : PP (cb_X4_formal_26 fu F G) (fun _ F' _ => CFS F0 F') := by
  unfold cb_X4_formal_26
  refine PP.ret ?_
  exact hK
theorem kqj_X4_formal_18 {fu : Nat} {F0 : PF} (F : PF) (G : PG) (hK : CFS F0 F) : PP (cb_X4_formal_18 fu F G) (fun _ F' _ => CFS F0 F') := by
  unfold cb_X4_formal_18
  refine PP.bind (kq_X2_fail (2 : Int32) F G) ?_
  intro r1 F1 G1 hK1
  dsimp only
  exact kqj_X4_formal_26 F1 G1 (CFS.tr hK hK1)
theorem kqj_X4_formal_13 {fu : Nat} {F0 : PF} (x1 : Int32) (x2 : Int32) (x3 : Int32) (F : PF) (G : PG) (hK : CFS F0 F) : PP (cb_X4_formal_13 fu x1 x2 x3 F G) (fun _ F' _ => CFS F0 F') := by
  unfold cb_X4_formal_13
  refine PP.ite (fun c_1 => ?_) (fun c_1 => ?_)
  · skip
    exact kqj_X4_formal_27 x1 x2 x3 F G hK
  · skip
    exact kqj_X4_formal_18 F G hK
theorem kq_X4_formal {fu : Nat} (x1 : Int32) (x2 : Int32) (F : PF) (G : PG) : PP (cf_X4_formal fu x1 x2 F G) (fun _ F' _ => CFS F F') := by
  unfold cf_X4_formal
  unfold cb_X4_formal_0
  refine PP.ite (fun c_1 => ?_) (fun c_1 => ?_)
  · skip
    exact kqj_X4_formal_27 x1 x2 (F 11) F G CFS.rf
  · skip
    exact kqj_X4_formal_13 x1 x2 (F 11) F G CFS.rf
theorem kqj_X4_formals_12 {fu : Nat} {F0 : PF} (F : PF) (G : PG) (hK : CFS F0 F) : PP (cb_X4_formals_12 fu F G) (fun _ F' _ => CFS F0 F') := by
  unfold cb_X4_formals_12
  refine PP.ret ?_
  exact hK
theorem kqj_X4_formals_94 {fu : Nat} {F0 : PF} (F : PF) (G : PG) (hK : CFS F0 F) : PP (cb_X4_formals_94 fu F G) (fun _ F' _ => CFS F0 F') := by
  unfold cb_X4_formals_94
  refine PP.ret ?_
  exact hK
theorem kqj_X4_formals_85 {fu : Nat} {F0 : PF} (F : PF) (G : PG) (hK : CFS F0 F) : PP (cb_X4_formals_85 fu F G) (fun _ F' _ => CFS F0 F') := by
  unfold cb_X4_formals_85
  refine PP.bind (kq_X2_closesWith (20 : Int32) (by decide) F G) ?_
  intro r1 F1 G1 hK1
  dsimp only
  exact kqj_X4_formals_94 F1 G1 (CFS.tr hK hK1)
theorem kqj_X4_formals_79 {fu : Nat} {F0 : PF} (ag_33 : Int32 → Int32 → Int32 → PF → PG → PR) (hag_33 : ∀ (x1 : Int32) (x2 : Int32) (x3 : Int32) (F : PF) (G : PG) (hK : CFS F0 F), PP (ag_33 x1 x2 x3 F G) (fun _ F' _ => CFS F0 F')) (x1 : Int32) (x2 : Int32) (x3 : Int32) (F : PF) (G : PG) (hK : CFS F0 F) : PP (cb_X4_formals_79 fu ag_33 x1 x2 x3 F G) (fun _ F' _ => CFS F0 F') := by
  unfold cb_X4_formals_79
  exact hag_33 x1 x2 (x3 + (1 : Int32)) F G hK
theorem kqj_X4_formals_72 {fu : Nat} {F0 : PF} (ag_33 : Int32 → Int32 → Int32 → PF → PG → PR) (hag_33 : ∀ (x1 : Int32) (x2 : Int32) (x3 : Int32) (F : PF) (G : PG) (hK : CFS F0 F), PP (ag_33 x1 x2 x3 F G) (fun _ F' _ => CFS F0 F')) (x1 : Int32) (x2 : Int32) (x3 : Int32) (F : PF) (G : PG) (hK : CFS F0 F) : PP (cb_X4_formals_72 fu ag_33 x1 x2 x3 F G) (fun _ F' _ => CFS F0 F') := by
  unfold cb_X4_formals_72
  refine PP.bind (kq_X2_next F G) ?_
  intro r1 F1 G1 hK1
  dsimp only
  exact kqj_X4_formals_79 ag_33 hag_33 x1 x2 x3 F1 G1 (CFS.tr hK hK1)
theorem kqj_X4_formals_67 {fu : Nat} {F0 : PF} (ag_33 : Int32 → Int32 → Int32 → PF → PG → PR) (hag_33 : ∀ (x1 : Int32) (x2 : Int32) (x3 : Int32) (F : PF) (G : PG) (hK : CFS F0 F), PP (ag_33 x1 x2 x3 F G) (fun _ F' _ => CFS F0 F')) (x1 : Int32) (x3 : Int32) (z0 : Int32) (F : PF) (G : PG) (hK : CFS F0 F) : PP (cb_X4_formals_67 fu ag_33 x1 x3 z0 F G) (fun _ F' _ => CFS F0 F') := by
  unfold cb_X4_formals_67
  refine PP.ite (fun c_1 => ?_) (fun c_1 => ?_)
  · skip
    exact kqj_X4_formals_79 ag_33 hag_33 x1 z0 x3 F G hK
  · skip
    exact kqj_X4_formals_72 ag_33 hag_33 x1 z0 x3 F G hK
theorem kqj_X4_formals_62 {fu : Nat} {F0 : PF} (ag_33 : Int32 → Int32 → Int32 → PF → PG → PR) (hag_33 : ∀ (x1 : Int32) (x2 : Int32) (x3 : Int32) (F : PF) (G : PG) (hK : CFS F0 F), PP (ag_33 x1 x2 x3 F G) (fun _ F' _ => CFS F0 F')) (x1 : Int32) (x3 : Int32) (F : PF) (G : PG) (hK : CFS F0 F) : PP (cb_X4_formals_62 fu ag_33 x1 x3 F G) (fun _ F' _ => CFS F0 F') := by
  unfold cb_X4_formals_62
  exact kqj_X4_formals_67 ag_33 hag_33 x1 x3 (1 : Int32) F G hK
theorem kqj_X4_formals_66 {fu : Nat} {F0 : PF} (ag_33 : Int32 → Int32 → Int32 → PF → PG → PR) (hag_33 : ∀ (x1 : Int32) (x2 : Int32) (x3 : Int32) (F : PF) (G : PG) (hK : CFS F0 F), PP (ag_33 x1 x2 x3 F G) (fun _ F' _ => CFS F0 F')) (x1 : Int32) (x3 : Int32) (F : PF) (G : PG) (hK : CFS F0 F) : PP (cb_X4_formals_66 fu ag_33 x1 x3 F G) (fun _ F' _ => CFS F0 F') := by
  unfold cb_X4_formals_66
  exact kqj_X4_formals_67 ag_33 hag_33 x1 x3 (0 : Int32) F G hK
theorem kqj_X4_formals_50 {fu : Nat} {F0 : PF} (ag_33 : Int32 → Int32 → Int32 → PF → PG → PR) (hag_33 : ∀ (x1 : Int32) (x2 : Int32) (x3 : Int32) (F : PF) (G : PG) (hK : CFS F0 F), PP (ag_33 x1 x2 x3 F G) (fun _ F' _ => CFS F0 F')) (x1 : Int32) (x3 : Int32) (F : PF) (G : PG) (hK : CFS F0 F) : PP (cb_X4_formals_50 fu ag_33 x1 x3 F G) (fun _ F' _ => CFS F0 F') := by
  unfold cb_X4_formals_50
  refine PP.ite (fun c_1 => ?_) (fun c_1 => ?_)
  · skip
    exact kqj_X4_formals_62 ag_33 hag_33 x1 x3 F G hK
  · skip
    exact kqj_X4_formals_66 ag_33 hag_33 x1 x3 F G hK
theorem kqj_X4_formals_44 {fu : Nat} {F0 : PF} (ag_33 : Int32 → Int32 → Int32 → PF → PG → PR) (hag_33 : ∀ (x1 : Int32) (x2 : Int32) (x3 : Int32) (F : PF) (G : PG) (hK : CFS F0 F), PP (ag_33 x1 x2 x3 F G) (fun _ F' _ => CFS F0 F')) (x1 : Int32) (x3 : Int32) (F : PF) (G : PG) (hK : CFS F0 F) : PP (cb_X4_formals_44 fu ag_33 x1 x3 F G) (fun _ F' _ => CFS F0 F') := by
  unfold cb_X4_formals_44
  refine PP.bind (kq_X4_formal x3 x1 F G) ?_
  intro r1 F1 G1 hK1
  dsimp only
  exact kqj_X4_formals_50 ag_33 hag_33 x1 x3 F1 G1 (CFS.tr hK hK1)
theorem kqj_X4_formals_40 {fu : Nat} {F0 : PF} (ag_33 : Int32 → Int32 → Int32 → PF → PG → PR) (hag_33 : ∀ (x1 : Int32) (x2 : Int32) (x3 : Int32) (F : PF) (G : PG) (hK : CFS F0 F), PP (ag_33 x1 x2 x3 F G) (fun _ F' _ => CFS F0 F')) (x1 : Int32) (x2 : Int32) (x3 : Int32) (F : PF) (G : PG) (hK : CFS F0 F) : PP (cb_X4_formals_40 fu ag_33 x1 x2 x3 F G) (fun _ F' _ => CFS F0 F') := by
  unfold cb_X4_formals_40
  refine PP.ite (fun c_1 => ?_) (fun c_1 => ?_)
  · skip
    exact kqj_X4_formals_85 F G hK
  · skip
    exact kqj_X4_formals_44 ag_33 hag_33 x1 x3 F G hK
theorem kqz_X4_formals_33 {fu : Nat} {F0 : PF} : ∀ (n : Nat) (x1 : Int32) (x2 : Int32) (x3 : Int32) (F : PF) (G : PG) (hK : CFS F0 F), PP (cl_X4_formals_33 fu n x1 x2 x3 F G) (fun _ F' _ => CFS F0 F') := by
  intro n
  induction n with
  | zero =>
    intro x1 x2 x3 F G hK
    exact PP.no
  | succ n ihn =>
    intro x1 x2 x3 F G hK
    show PP (cb_X4_formals_33 fu (cl_X4_formals_33 fu n) x1 x2 x3 F G) _
    unfold cb_X4_formals_33
    refine PP.ite (fun c_1 => ?_) (fun c_1 => ?_)
    · skip
      exact kqj_X4_formals_85 F G hK
    · skip
      exact kqj_X4_formals_40 (cl_X4_formals_33 fu n) ihn x1 x2 x3 F G hK
theorem kqj_X4_formals_30 {fu : Nat} {F0 : PF} (x1 : Int32) (z0 : Int32) (F : PF) (G : PG) (hK : CFS F0 F) : PP (cb_X4_formals_30 fu x1 z0 F G) (fun _ F' _ => CFS F0 F') := by
  unfold cb_X4_formals_30
  exact kqz_X4_formals_33 fu x1 z0 (0 : Int32) F G hK
theorem kqj_X4_formals_29 {fu : Nat} {F0 : PF} (x1 : Int32) (F : PF) (G : PG) (hK : CFS F0 F) : PP (cb_X4_formals_29 fu x1 F G) (fun _ F' _ => CFS F0 F') := by
  unfold cb_X4_formals_29
  exact kqj_X4_formals_30 x1 (0 : Int32) F G hK
theorem kqj_X4_formals_25 {fu : Nat} {F0 : PF} (x1 : Int32) (F : PF) (G : PG) (hK : CFS F0 F) : PP (cb_X4_formals_25 fu x1 F G) (fun _ F' _ => CFS F0 F') := by
  unfold cb_X4_formals_25
  exact kqj_X4_formals_30 x1 (1 : Int32) F G hK
theorem kqj_X4_formals_13 {fu : Nat} {F0 : PF} (x1 : Int32) (F : PF) (G : PG) (hK : CFS F0 F) : PP (cb_X4_formals_13 fu x1 F G) (fun _ F' _ => CFS F0 F') := by
  unfold cb_X4_formals_13
  refine PP.ite (fun c_1 => ?_) (fun c_1 => ?_)
  · skip
    exact kqj_X4_formals_29 x1 F G hK
  · skip
    exact kqj_X4_formals_25 x1 F G hK
theorem kqj_X4_formals_9 {fu : Nat} {F0 : PF} (x1 : Int32) (z0 : Int32) (F : PF) (G : PG) (hK : CFS F0 F) : PP (cb_X4_formals_9 fu x1 z0 F G) (fun _ F' _ => CFS F0 F') := by
  unfold cb_X4_formals_9
  refine PP.ite (fun c_1 => ?_) (fun c_1 => ?_)
  · skip
    exact kqj_X4_formals_12 F G hK
  · skip
    exact kqj_X4_formals_13 x1 F G hK
theorem kq_X4_formals {fu : Nat} (x1 : Int32) (F : PF) (G : PG) : PP (cf_X4_formals fu x1 F G) (fun _ F' _ => CFS F F') := by
  unfold cf_X4_formals
  unfold cb_X4_formals_0
  refine PP.bind (kq_X2_opens (19 : Int32) (by decide) F G) ?_
  intro r1 F1 G1 hK1
  dsimp only
  exact kqj_X4_formals_9 x1 r1 F1 G1 (CFS.tr CFS.rf hK1)
theorem kqj_X5_globalRoom_48 {fu : Nat} {F0 : PF} (x3 : Int32) (F : PF) (G : PG) (hK : CFS F0 F) : PP (cb_X5_globalRoom_48 fu x3 F G) (fun _ F' _ => CFS F0 F') := by
  unfold cb_X5_globalRoom_48
  refine PP.ret ?_
  exact hK
theorem kqj_X5_globalRoom_41 {fu : Nat} {F0 : PF} (x2 : Int32) (x3 : Int32) (F : PF) (G : PG) (hK : CFS F0 F) : PP (cb_X5_globalRoom_41 fu x2 x3 F G) (fun _ F' _ => CFS F0 F') := by
  unfold cb_X5_globalRoom_41
  refine PP.bind (kq_X5_note (8 : Int32) x2 F G) ?_
  intro r1 F1 G1 hK1
  dsimp only
  exact kqj_X5_globalRoom_48 x3 F1 G1 (CFS.tr hK hK1)
theorem kqj_X5_globalRoom_28 {fu : Nat} {F0 : PF} (x2 : Int32) (x3 : Int32) (F : PF) (G : PG) (hK : CFS F0 F) : PP (cb_X5_globalRoom_28 fu x2 x3 F G) (fun _ F' _ => CFS F0 F') := by
  unfold cb_X5_globalRoom_28
  refine PP.ite (fun c_1 => ?_) (fun c_1 => ?_)
  · skip
    exact kqj_X5_globalRoom_48 x3 F G hK
  · skip
    exact kqj_X5_globalRoom_41 x2 x3 F G hK
theorem kqj_X5_globalRoom_15 {fu : Nat} {F0 : PF} (x1 : Int32) (x2 : Int32) (x3 : Int32) (F : PF) (G : PG) (hK : CFS F0 F) : PP (cb_X5_globalRoom_15 fu x1 x2 x3 F G) (fun _ F' _ => CFS F0 F') := by
  unfold cb_X5_globalRoom_15
  exact kqj_X5_globalRoom_28 x2 x3 (fup F 75 ((F 75) + x1)) G (CFS.f (k := 75) rfl hK)
theorem kq_X5_globalRoom {fu : Nat} (x1 : Int32) (x2 : Int32) (F : PF) (G : PG) : PP (cf_X5_globalRoom fu x1 x2 F G) (fun _ F' _ => CFS F F') := by
  unfold cf_X5_globalRoom
  unfold cb_X5_globalRoom_0
  refine PP.ite (fun c_1 => ?_) (fun c_1 => ?_)
  · skip
    exact kqj_X5_globalRoom_48 (F 75) F G CFS.rf
  · skip
    exact kqj_X5_globalRoom_15 x1 x2 (F 75) F G CFS.rf
theorem kqj_X4_globalInt_72 {fu : Nat} {F0 : PF} (F : PF) (G : PG) (hK : CFS F0 F) : PP (cb_X4_globalInt_72 fu F G) (fun _ F' _ => CFS F0 F') := by
  unfold cb_X4_globalInt_72
  refine PP.ret ?_
  exact hK
theorem kqj_X4_globalInt_59 {fu : Nat} {F0 : PF} (x1 : Int32) (x2 : Int32) (x4 : Int32) (F : PF) (G : PG) (hK : CFS F0 F) : PP (cb_X4_globalInt_59 fu x1 x2 x4 F G) (fun _ F' _ => CFS F0 F') := by
  unfold cb_X4_globalInt_59
  refine PP.bind (kq_X5_tell x1 x2 (1 : Int32) x4 (0 : Int32) F G) ?_
  intro r1 F1 G1 hK1
  dsimp only
  exact kqj_X4_globalInt_72 F1 G1 (CFS.tr hK hK1)
theorem kqj_X4_globalInt_47 {fu : Nat} {F0 : PF} (x1 : Int32) (x2 : Int32) (x3 : Int32) (z0 : Int32) (F : PF) (G : PG) (hK : CFS F0 F) : PP (cb_X4_globalInt_47 fu x1 x2 x3 z0 F G) (fun _ F' _ => CFS F0 F') := by
  unfold cb_X4_globalInt_47
  refine PP.bind (cw_X8_tellInt z0 x3 F G) ?_
  intro r1 F1 G1 hK1
  dsimp only
  exact kqj_X4_globalInt_59 x1 x2 z0 F1 G1 (CFS.tr hK (CFS.k hK1 rfl rfl rfl))
theorem kqj_X4_globalInt_38 {fu : Nat} {F0 : PF} (x1 : Int32) (x2 : Int32) (x3 : Int32) (F : PF) (G : PG) (hK : CFS F0 F) : PP (cb_X4_globalInt_38 fu x1 x2 x3 F G) (fun _ F' _ => CFS F0 F') := by
  unfold cb_X4_globalInt_38
  refine PP.bind (kq_X5_globalRoom (1 : Int32) x2 F G) ?_
  intro r1 F1 G1 hK1
  dsimp only
  exact kqj_X4_globalInt_47 x1 x2 x3 r1 F1 G1 (CFS.tr hK hK1)
theorem kqj_X4_globalInt_29 {fu : Nat} {F0 : PF} (x1 : Int32) (x2 : Int32) (x3 : Int32) (F : PF) (G : PG) (hK : CFS F0 F) : PP (cb_X4_globalInt_29 fu x1 x2 x3 F G) (fun _ F' _ => CFS F0 F') := by
  unfold cb_X4_globalInt_29
  refine PP.bind (kq_X2_expect (26 : Int32) (by decide) F G) ?_
  intro r1 F1 G1 hK1
  dsimp only
  exact kqj_X4_globalInt_38 x1 x2 x3 F1 G1 (CFS.tr hK hK1)
theorem kqj_X4_globalInt_28 {fu : Nat} {F0 : PF} (x1 : Int32) (x2 : Int32) (z0 : Int32) (F : PF) (G : PG) (hK : CFS F0 F) : PP (cb_X4_globalInt_28 fu x1 x2 z0 F G) (fun _ F' _ => CFS F0 F') := by
  unfold cb_X4_globalInt_28
  exact kqj_X4_globalInt_29 x1 x2 z0 F G hK
theorem kqj_X4_globalInt_21 {fu : Nat} {F0 : PF} (x1 : Int32) (x2 : Int32) (F : PF) (G : PG) (hK : CFS F0 F) : PP (cb_X4_globalInt_21 fu x1 x2 F G) (fun _ F' _ => CFS F0 F') := by
  unfold cb_X4_globalInt_21
  refine PP.bind (kq_X3_constant F G) ?_
  intro r1 F1 G1 hK1
  dsimp only
  exact kqj_X4_globalInt_28 x1 x2 r1 F1 G1 (CFS.tr hK hK1)
theorem kqj_X4_globalInt_14 {fu : Nat} {F0 : PF} (x1 : Int32) (x2 : Int32) (F : PF) (G : PG) (hK : CFS F0 F) : PP (cb_X4_globalInt_14 fu x1 x2 F G) (fun _ F' _ => CFS F0 F') := by
  unfold cb_X4_globalInt_14
  refine PP.bind (kq_X2_next F G) ?_
  intro r1 F1 G1 hK1
  dsimp only
  exact kqj_X4_globalInt_21 x1 x2 F1 G1 (CFS.tr hK hK1)
theorem kq_X4_globalInt {fu : Nat} (x1 : Int32) (x2 : Int32) (F : PF) (G : PG) : PP (cf_X4_globalInt fu x1 x2 F G) (fun _ F' _ => CFS F F') := by
  unfold cf_X4_globalInt
  unfold cb_X4_globalInt_0
  refine PP.ite (fun c_1 => ?_) (fun c_1 => ?_)
  · skip
    exact kqj_X4_globalInt_14 x1 x2 F G CFS.rf
  · skip
    exact kqj_X4_globalInt_29 x1 x2 (0 : Int32) F G CFS.rf
theorem kqj_X5_tellFunction_46 {fu : Nat} {F0 : PF} (F : PF) (G : PG) (hK : CFS F0 F) : PP (cb_X5_tellFunction_46 fu F G) (fun _ F' _ => CFS F0 F') := by
  unfold cb_X5_tellFunction_46
  refine PP.ret ?_
  exact hK
theorem kqj_X5_tellFunction_39 {fu : Nat} {F0 : PF} (x2 : Int32) (F : PF) (G : PG) (hK : CFS F0 F) : PP (cb_X5_tellFunction_39 fu x2 F G) (fun _ F' _ => CFS F0 F') := by
  unfold cb_X5_tellFunction_39
  refine PP.bind (kq_X5_note (8 : Int32) x2 F G) ?_
  intro r1 F1 G1 hK1
  dsimp only
  exact kqj_X5_tellFunction_46 F1 G1 (CFS.tr hK hK1)
theorem kqj_X5_tellFunction_33 {fu : Nat} {F0 : PF} (x2 : Int32) (x3 : Int32) (F : PF) (G : PG) (hK : CFS F0 F) : PP (cb_X5_tellFunction_33 fu x2 x3 F G) (fun _ F' _ => CFS F0 F') := by
  unfold cb_X5_tellFunction_33
  refine PP.ite (fun c_1 => ?_) (fun c_1 => ?_)
  · skip
    exact kqj_X5_tellFunction_46 F G hK
  · skip
    exact kqj_X5_tellFunction_39 x2 F G hK
theorem kqj_X5_tellFunction_27 {fu : Nat} {F0 : PF} (x2 : Int32) (x3 : Int32) (F : PF) (G : PG) (hK : CFS F0 F) : PP (cb_X5_tellFunction_27 fu x2 x3 F G) (fun _ F' _ => CFS F0 F') := by
  unfold cb_X5_tellFunction_27
  refine PP.bind (kq_X5_note (1 : Int32) x2 F G) ?_
  intro r1 F1 G1 hK1
  dsimp only
  exact kqj_X5_tellFunction_33 x2 x3 F1 G1 (CFS.tr hK hK1)
theorem kqj_X5_tellFunction_23 {fu : Nat} {F0 : PF} (x2 : Int32) (x3 : Int32) (z0 : Int32) (F : PF) (G : PG) (hK : CFS F0 F) : PP (cb_X5_tellFunction_23 fu x2 x3 z0 F G) (fun _ F' _ => CFS F0 F') := by
  unfold cb_X5_tellFunction_23
  refine PP.ite (fun c_1 => ?_) (fun c_1 => ?_)
  · skip
    exact kqj_X5_tellFunction_33 x2 x3 F G hK
  · skip
    exact kqj_X5_tellFunction_27 x2 x3 F G hK
theorem kqj_X5_tellFunction_17 {fu : Nat} {F0 : PF} (x2 : Int32) (x3 : Int32) (x4 : Int32) (F : PF) (G : PG) (hK : CFS F0 F) : PP (cb_X5_tellFunction_17 fu x2 x3 x4 F G) (fun _ F' _ => CFS F0 F') := by
  unfold cb_X5_tellFunction_17
  refine PP.bind (cw_X5_value x4 F G) ?_
  intro r1 F1 G1 hK1
  dsimp only
  exact kqj_X5_tellFunction_23 x2 x3 r1 F1 G1 (CFS.tr hK (CFS.k hK1 rfl rfl rfl))
theorem kqj_X5_tellFunction_13 {fu : Nat} {F0 : PF} (x2 : Int32) (x3 : Int32) (x4 : Int32) (z0 : Int32) (F : PF) (G : PG) (hK : CFS F0 F) : PP (cb_X5_tellFunction_13 fu x2 x3 x4 z0 F G) (fun _ F' _ => CFS F0 F') := by
  unfold cb_X5_tellFunction_13
  refine PP.ite (fun c_1 => ?_) (fun c_1 => ?_)
  · skip
    exact kqj_X5_tellFunction_17 x2 x3 x4 F G hK
  · skip
    exact kqj_X5_tellFunction_27 x2 x3 F G hK
theorem kqj_X5_tellFunction_5 {fu : Nat} {F0 : PF} (x2 : Int32) (x3 : Int32) (z0 : Int32) (F : PF) (G : PG) (hK : CFS F0 F) : PP (cb_X5_tellFunction_5 fu x2 x3 z0 F G) (fun _ F' _ => CFS F0 F') := by
  unfold cb_X5_tellFunction_5
  refine PP.bind (cw_X5_kind z0 F G) ?_
  intro r1 F1 G1 hK1
  dsimp only
  exact kqj_X5_tellFunction_13 x2 x3 z0 r1 F1 G1 (CFS.tr hK (CFS.k hK1 rfl rfl rfl))
theorem kq_X5_tellFunction {fu : Nat} (x1 : Int32) (x2 : Int32) (x3 : Int32) (F : PF) (G : PG) : PP (cf_X5_tellFunction fu x1 x2 x3 F G) (fun _ F' _ => CFS F F') := by
  unfold cf_X5_tellFunction
  unfold cb_X5_tellFunction_0
  refine PP.bind (cw_X5_known x1 F G) ?_
  intro r1 F1 G1 hK1
  dsimp only
  exact kqj_X5_tellFunction_5 x2 x3 r1 F1 G1 (CFS.tr CFS.rf (CFS.k hK1 rfl rfl rfl))
theorem kqj_X4_startFunction_119 {fu : Nat} {F0 : PF} (F : PF) (G : PG) (hK : CFS F0 F) : PP (cb_X4_startFunction_119 fu F G) (fun _ F' _ => CFS F0 F') := by
  unfold cb_X4_startFunction_119
  refine PP.ret ?_
  exact hK
theorem kqj_X4_startFunction_111 {fu : Nat} {F0 : PF} (x3 : Int32) (F : PF) (G : PG) (hK : CFS F0 F) : PP (cb_X4_startFunction_111 fu x3 F G) (fun _ F' _ => CFS F0 F') := by
  unfold cb_X4_startFunction_111
  refine PP.bind (cw_X5_enterFunction x3 F G) ?_
  intro r1 F1 G1 hK1
  dsimp only
  exact kqj_X4_startFunction_119 F1 G1 (CFS.tr hK (CFS.k hK1 rfl rfl rfl))
theorem kqj_X4_startFunction_92 {fu : Nat} {F0 : PF} (x3 : Int32) (F : PF) (G : PG) (hK : CFS F0 F) : PP (cb_X4_startFunction_92 fu x3 F G) (fun _ F' _ => CFS F0 F') := by
  unfold cb_X4_startFunction_92
  refine PP.ix (fun _ => ?_)
  exact kqj_X4_startFunction_111 x3 F (gup G 80 (F 28).toNatClampNeg (F 6)) hK
theorem kqj_X4_startFunction_89 {fu : Nat} {F0 : PF} (x3 : Int32) (z0 : Int32) (F : PF) (G : PG) (hK : CFS F0 F) : PP (cb_X4_startFunction_89 fu x3 z0 F G) (fun _ F' _ => CFS F0 F') := by
  unfold cb_X4_startFunction_89
  refine PP.ite (fun c_1 => ?_) (fun c_1 => ?_)
  · skip
    exact kqj_X4_startFunction_111 x3 F G hK
  · skip
    exact kqj_X4_startFunction_92 x3 F G hK
theorem kqj_X4_startFunction_78 {fu : Nat} {F0 : PF} (x3 : Int32) (F : PF) (G : PG) (hK : CFS F0 F) : PP (cb_X4_startFunction_78 fu x3 F G) (fun _ F' _ => CFS F0 F') := by
  unfold cb_X4_startFunction_78
  refine PP.bind (cw_X8_has (F 28) F G) ?_
  intro r1 F1 G1 hK1
  dsimp only
  exact kqj_X4_startFunction_89 x3 r1 F1 G1 (CFS.tr hK (CFS.k hK1 rfl rfl rfl))
theorem kqj_X4_startFunction_67 {fu : Nat} {F0 : PF} (x3 : Int32) (F : PF) (G : PG) (hK : CFS F0 F) : PP (cb_X4_startFunction_67 fu x3 F G) (fun _ F' _ => CFS F0 F') := by
  unfold cb_X4_startFunction_67
  exact kqj_X4_startFunction_78 x3 (fup F 76 (F 28)) G (CFS.f (k := 76) rfl hK)
theorem kqj_X4_startFunction_56 {fu : Nat} {F0 : PF} (x3 : Int32) (F : PF) (G : PG) (hK : CFS F0 F) : PP (cb_X4_startFunction_56 fu x3 F G) (fun _ F' _ => CFS F0 F') := by
  unfold cb_X4_startFunction_56
  refine PP.ite (fun c_1 => ?_) (fun c_1 => ?_)
  · skip
    exact kqj_X4_startFunction_67 x3 F G hK
  · skip
    exact kqj_X4_startFunction_78 x3 F G hK
theorem kqj_X4_startFunction_48 {fu : Nat} {F0 : PF} (x1 : Int32) (x3 : Int32) (F : PF) (G : PG) (hK : CFS F0 F) : PP (cb_X4_startFunction_48 fu x1 x3 F G) (fun _ F' _ => CFS F0 F') := by
  unfold cb_X4_startFunction_48
  refine PP.ite (fun c_1 => ?_) (fun c_1 => ?_)
  · skip
    exact kqj_X4_startFunction_56 x3 F G hK
  · skip
    exact kqj_X4_startFunction_78 x3 F G hK
theorem kqj_X4_startFunction_35 {fu : Nat} {F0 : PF} (x1 : Int32) (x2 : Int32) (x3 : Int32) (F : PF) (G : PG) (hK : CFS F0 F) : PP (cb_X4_startFunction_35 fu x1 x2 x3 F G) (fun _ F' _ => CFS F0 F') := by
  unfold cb_X4_startFunction_35
  refine PP.bind (cw_X5_announce x1 x2 (F 28) F G) ?_
  intro r1 F1 G1 hK1
  dsimp only
  exact kqj_X4_startFunction_48 x1 x3 F1 G1 (CFS.tr hK (CFS.k hK1 rfl rfl rfl))
theorem kqj_X4_startFunction_26 {fu : Nat} {F0 : PF} (x1 : Int32) (x2 : Int32) (x3 : Int32) (F : PF) (G : PG) (hK : CFS F0 F) : PP (cb_X4_startFunction_26 fu x1 x2 x3 F G) (fun _ F' _ => CFS F0 F') := by
  unfold cb_X4_startFunction_26
  refine PP.bind (cw_X8_addFunction x2 x3 F G) ?_
  intro r1 F1 G1 hK1
  dsimp only
  exact kqj_X4_startFunction_35 x1 x2 x3 F1 G1 (CFS.tr hK (CFS.k hK1 rfl rfl rfl))
theorem kqj_X4_startFunction_23 {fu : Nat} {F0 : PF} (x3 : Int32) (F : PF) (G : PG) (hK : CFS F0 F) : PP (cb_X4_startFunction_23 fu x3 F G) (fun _ F' _ => CFS F0 F') := by
  unfold cb_X4_startFunction_23
  exact kqj_X4_startFunction_78 x3 F G hK
theorem kqj_X4_startFunction_10 {fu : Nat} {F0 : PF} (x1 : Int32) (x2 : Int32) (x3 : Int32) (F : PF) (G : PG) (hK : CFS F0 F) : PP (cb_X4_startFunction_10 fu x1 x2 x3 F G) (fun _ F' _ => CFS F0 F') := by
  unfold cb_X4_startFunction_10
  refine PP.bind (kq_X5_tellFunction x1 x2 (F 28) F G) ?_
  intro r1 F1 G1 hK1
  dsimp only
  exact kqj_X4_startFunction_23 x3 F1 G1 (CFS.tr hK hK1)
theorem kq_X4_startFunction {fu : Nat} (x1 : Int32) (x2 : Int32) (x3 : Int32) (F : PF) (G : PG) : PP (cf_X4_startFunction fu x1 x2 x3 F G) (fun _ F' _ => CFS F F') := by
  unfold cf_X4_startFunction
  unfold cb_X4_startFunction_0
  refine PP.ite (fun c_1 => ?_) (fun c_1 => ?_)
  · skip
    exact kqj_X4_startFunction_26 x1 x2 x3 F G CFS.rf
  · skip
    exact kqj_X4_startFunction_10 x1 x2 x3 F G CFS.rf
theorem kqj_X4_condition_28 {fu : Nat} {F0 : PF} (F : PF) (G : PG) (hK : CFS F0 F) : PP (cb_X4_condition_28 fu F G) (fun _ F' _ => CFS F0 F') := by
  unfold cb_X4_condition_28
  refine PP.ret ?_
  exact hK
theorem kqj_X4_condition_19 {fu : Nat} {F0 : PF} (F : PF) (G : PG) (hK : CFS F0 F) : PP (cb_X4_condition_19 fu F G) (fun _ F' _ => CFS F0 F') := by
  unfold cb_X4_condition_19
  refine PP.bind (kq_X2_closesWith (20 : Int32) (by decide) F G) ?_
  intro r1 F1 G1 hK1
  dsimp only
  exact kqj_X4_condition_28 F1 G1 (CFS.tr hK hK1)
theorem kqj_X4_condition_12 {fu : Nat} {F0 : PF} (F : PF) (G : PG) (hK : CFS F0 F) : PP (cb_X4_condition_12 fu F G) (fun _ F' _ => CFS F0 F') := by
  unfold cb_X4_condition_12
  refine PP.bind (kq_X3_expression F G) ?_
  intro r1 F1 G1 hK1
  dsimp only
  exact kqj_X4_condition_19 F1 G1 (CFS.tr hK hK1)
theorem kqj_X4_condition_9 {fu : Nat} {F0 : PF} (z0 : Int32) (F : PF) (G : PG) (hK : CFS F0 F) : PP (cb_X4_condition_9 fu z0 F G) (fun _ F' _ => CFS F0 F') := by
  unfold cb_X4_condition_9
  refine PP.ite (fun c_1 => ?_) (fun c_1 => ?_)
  · skip
    exact kqj_X4_condition_28 F G hK
  · skip
    exact kqj_X4_condition_12 F G hK
theorem kq_X4_condition {fu : Nat} (F : PF) (G : PG) : PP (cf_X4_condition fu F G) (fun _ F' _ => CFS F F') := by
  unfold cf_X4_condition
  unfold cb_X4_condition_0
  refine PP.bind (kq_X2_opens (19 : Int32) (by decide) F G) ?_
  intro r1 F1 G1 hK1
  dsimp only
  exact kqj_X4_condition_9 r1 F1 G1 (CFS.tr CFS.rf hK1)
theorem kqj_X4_handOut_36 {fu : Nat} {F0 : PF} (F : PF) (G : PG) (hK : CFS F0 F) : PP (cb_X4_handOut_36 fu F G) (fun _ F' _ => CFS F0 F') := by
  unfold cb_X4_handOut_36
  refine PP.ret ?_
  exact hK
theorem kqj_X4_handOut_27 {fu : Nat} {F0 : PF} (F : PF) (G : PG) (hK : CFS F0 F) : PP (cb_X4_handOut_27 fu F G) (fun _ F' _ => CFS F0 F') := by
  unfold cb_X4_handOut_27
  refine PP.bind (kq_X2_expect (26 : Int32) (by decide) F G) ?_
  intro r1 F1 G1 hK1
  dsimp only
  exact kqj_X4_handOut_36 F1 G1 (CFS.tr hK hK1)
theorem kqj_X4_handOut_19 {fu : Nat} {F0 : PF} (x1 : Int32) (F : PF) (G : PG) (hK : CFS F0 F) : PP (cb_X4_handOut_19 fu x1 F G) (fun _ F' _ => CFS F0 F') := by
  unfold cb_X4_handOut_19
  refine PP.bind (cw_X1_add x1 F G) ?_
  intro r1 F1 G1 hK1
  dsimp only
  exact kqj_X4_handOut_27 F1 G1 (CFS.tr hK (CFS.k hK1 rfl rfl rfl))
theorem kqj_X4_handOut_15 {fu : Nat} {F0 : PF} (x1 : Int32) (F : PF) (G : PG) (hK : CFS F0 F) : PP (cb_X4_handOut_15 fu x1 F G) (fun _ F' _ => CFS F0 F') := by
  unfold cb_X4_handOut_15
  refine PP.bind (kq_X4_condition F G) ?_
  intro r1 F1 G1 hK1
  dsimp only
  exact kqj_X4_handOut_19 x1 F1 G1 (CFS.tr hK hK1)
theorem kq_X4_handOut {fu : Nat} (F : PF) (G : PG) : PP (cf_X4_handOut fu F G) (fun _ F' _ => CFS F F') := by
  unfold cf_X4_handOut
  unfold cb_X4_handOut_0
  refine PP.bind (kq_X2_next F G) ?_
  intro r1 F1 G1 hK1
  dsimp only
  exact kqj_X4_handOut_15 (F 11) F1 G1 (CFS.tr CFS.rf hK1)
theorem kqj_X5_localRoom_32 {fu : Nat} {F0 : PF} (x3 : Int32) (F : PF) (G : PG) (hK : CFS F0 F) : PP (cb_X5_localRoom_32 fu x3 F G) (fun _ F' _ => CFS F0 F') := by
  unfold cb_X5_localRoom_32
  refine PP.ret ?_
  exact hK
theorem kqj_X5_localRoom_25 {fu : Nat} {F0 : PF} (x2 : Int32) (x3 : Int32) (F : PF) (G : PG) (hK : CFS F0 F) : PP (cb_X5_localRoom_25 fu x2 x3 F G) (fun _ F' _ => CFS F0 F') := by
  unfold cb_X5_localRoom_25
  refine PP.bind (kq_X5_note (8 : Int32) x2 F G) ?_
  intro r1 F1 G1 hK1
  dsimp only
  exact kqj_X5_localRoom_32 x3 F1 G1 (CFS.tr hK hK1)
theorem kqj_X5_localRoom_15 {fu : Nat} {F0 : PF} (x2 : Int32) (x3 : Int32) (F : PF) (G : PG) (hK : CFS F0 F) : PP (cb_X5_localRoom_15 fu x2 x3 F G) (fun _ F' _ => CFS F0 F') := by
  unfold cb_X5_localRoom_15
  refine PP.ite (fun c_1 => ?_) (fun c_1 => ?_)
  · skip
    exact kqj_X5_localRoom_32 x3 F G hK
  · skip
    exact kqj_X5_localRoom_25 x2 x3 F G hK
theorem kqj_X5_localRoom_4 {fu : Nat} {F0 : PF} (x1 : Int32) (x2 : Int32) (z0 : Int32) (F : PF) (G : PG) (hK : CFS F0 F) : PP (cb_X5_localRoom_4 fu x1 x2 z0 F G) (fun _ F' _ => CFS F0 F') := by
  unfold cb_X5_localRoom_4
  exact kqj_X5_localRoom_15 x2 z0 (fup F 50 ((F 50) + x1)) G (CFS.f (k := 50) rfl hK)
theorem kq_X5_localRoom {fu : Nat} (x1 : Int32) (x2 : Int32) (F : PF) (G : PG) : PP (cf_X5_localRoom fu x1 x2 F G) (fun _ F' _ => CFS F F') := by
  unfold cf_X5_localRoom
  unfold cb_X5_localRoom_0
  refine PP.bind (cw_X5_measure F G) ?_
  intro r1 F1 G1 hK1
  dsimp only
  exact kqj_X5_localRoom_4 x1 x2 r1 F1 G1 (CFS.tr CFS.rf (CFS.k hK1 rfl rfl rfl))
theorem kqj_X4_localArray_54 {fu : Nat} {F0 : PF} (F : PF) (G : PG) (hK : CFS F0 F) : PP (cb_X4_localArray_54 fu F G) (fun _ F' _ => CFS F0 F') := by
  unfold cb_X4_localArray_54
  refine PP.ret ?_
  exact hK
theorem kqj_X4_localArray_40 {fu : Nat} {F0 : PF} (x1 : Int32) (x2 : Int32) (x3 : Int32) (x4 : Int32) (x6 : Int32) (F : PF) (G : PG) (hK : CFS F0 F) : PP (cb_X4_localArray_40 fu x1 x2 x3 x4 x6 F G) (fun _ F' _ => CFS F0 F') := by
  unfold cb_X4_localArray_40
  refine PP.bind (kq_X5_tell x1 x2 x3 x6 x4 F G) ?_
  intro r1 F1 G1 hK1
  dsimp only
  exact kqj_X4_localArray_54 F1 G1 (CFS.tr hK hK1)
theorem kqj_X4_localArray_31 {fu : Nat} {F0 : PF} (x1 : Int32) (x2 : Int32) (x3 : Int32) (x4 : Int32) (x5 : Int32) (x6 : Int32) (F : PF) (G : PG) (hK : CFS F0 F) : PP (cb_X4_localArray_31 fu x1 x2 x3 x4 x5 x6 F G) (fun _ F' _ => CFS F0 F') := by
  unfold cb_X4_localArray_31
  refine PP.bind (cw_X1_add x5 F G) ?_
  intro r1 F1 G1 hK1
  dsimp only
  exact kqj_X4_localArray_40 x1 x2 x3 x4 x6 F1 G1 (CFS.tr hK (CFS.k hK1 rfl rfl rfl))
theorem kqj_X4_localArray_18 {fu : Nat} {F0 : PF} (x1 : Int32) (x2 : Int32) (x3 : Int32) (x4 : Int32) (x5 : Int32) (z0 : Int32) (F : PF) (G : PG) (hK : CFS F0 F) : PP (cb_X4_localArray_18 fu x1 x2 x3 x4 x5 z0 F G) (fun _ F' _ => CFS F0 F') := by
  unfold cb_X4_localArray_18
  refine PP.bind (cw_X1_addPair (73 : Int32) z0 F G) ?_
  intro r1 F1 G1 hK1
  dsimp only
  exact kqj_X4_localArray_31 x1 x2 x3 x4 x5 z0 F1 G1 (CFS.tr hK (CFS.k hK1 rfl rfl rfl))
theorem kqj_X4_localArray_6 {fu : Nat} {F0 : PF} (x1 : Int32) (x2 : Int32) (x3 : Int32) (x4 : Int32) (z0 : Int32) (F : PF) (G : PG) (hK : CFS F0 F) : PP (cb_X4_localArray_6 fu x1 x2 x3 x4 z0 F G) (fun _ F' _ => CFS F0 F') := by
  unfold cb_X4_localArray_6
  refine PP.bind (kq_X5_localRoom z0 x2 F G) ?_
  intro r1 F1 G1 hK1
  dsimp only
  exact kqj_X4_localArray_18 x1 x2 x3 x4 z0 r1 F1 G1 (CFS.tr hK hK1)
theorem kq_X4_localArray {fu : Nat} (x1 : Int32) (x2 : Int32) (x3 : Int32) (x4 : Int32) (F : PF) (G : PG) : PP (cf_X4_localArray fu x1 x2 x3 x4 F G) (fun _ F' _ => CFS F F') := by
  unfold cf_X4_localArray
  unfold cb_X4_localArray_0
  refine PP.bind (cw_X4_wordsOf x3 x4 F G) ?_
  intro r1 F1 G1 hK1
  dsimp only
  exact kqj_X4_localArray_6 x1 x2 x3 x4 r1 F1 G1 (CFS.tr CFS.rf (CFS.k hK1 rfl rfl rfl))
theorem kqj_X4_localInt_32 {fu : Nat} {F0 : PF} (F : PF) (G : PG) (hK : CFS F0 F) : PP (cb_X4_localInt_32 fu F G) (fun _ F' _ => CFS F0 F') := by
  unfold cb_X4_localInt_32
  refine PP.ret ?_
  exact hK
theorem kqj_X4_localInt_20 {fu : Nat} {F0 : PF} (x1 : Int32) (x2 : Int32) (x3 : Int32) (F : PF) (G : PG) (hK : CFS F0 F) : PP (cb_X4_localInt_20 fu x1 x2 x3 F G) (fun _ F' _ => CFS F0 F') := by
  unfold cb_X4_localInt_20
  refine PP.bind (kq_X5_tell x1 x2 (1 : Int32) x3 (0 : Int32) F G) ?_
  intro r1 F1 G1 hK1
  dsimp only
  exact kqj_X4_localInt_32 F1 G1 (CFS.tr hK hK1)
theorem kqj_X4_localInt_9 {fu : Nat} {F0 : PF} (x1 : Int32) (x2 : Int32) (z0 : Int32) (F : PF) (G : PG) (hK : CFS F0 F) : PP (cb_X4_localInt_9 fu x1 x2 z0 F G) (fun _ F' _ => CFS F0 F') := by
  unfold cb_X4_localInt_9
  refine PP.bind (cw_X1_addPair (72 : Int32) z0 F G) ?_
  intro r1 F1 G1 hK1
  dsimp only
  exact kqj_X4_localInt_20 x1 x2 z0 F1 G1 (CFS.tr hK (CFS.k hK1 rfl rfl rfl))
theorem kq_X4_localInt {fu : Nat} (x1 : Int32) (x2 : Int32) (F : PF) (G : PG) : PP (cf_X4_localInt fu x1 x2 F G) (fun _ F' _ => CFS F F') := by
  unfold cf_X4_localInt
  unfold cb_X4_localInt_0
  refine PP.bind (kq_X5_localRoom (1 : Int32) x2 F G) ?_
  intro r1 F1 G1 hK1
  dsimp only
  exact kqj_X4_localInt_9 x1 x2 r1 F1 G1 (CFS.tr CFS.rf hK1)
theorem kqj_X4_localTold_168 {fu : Nat} {F0 : PF} (F : PF) (G : PG) (hK : CFS F0 F) : PP (cb_X4_localTold_168 fu F G) (fun _ F' _ => CFS F0 F') := by
  unfold cb_X4_localTold_168
  refine PP.ret ?_
  exact hK
theorem kqj_X4_localTold_112 {fu : Nat} {F0 : PF} (F : PF) (G : PG) (hK : CFS F0 F) : PP (cb_X4_localTold_112 fu F G) (fun _ F' _ => CFS F0 F') := by
  unfold cb_X4_localTold_112
  exact kqj_X4_localTold_168 F G hK
theorem kqj_X4_localTold_107 {fu : Nat} {F0 : PF} (x5 : Int32) (z0 : Int32) (z1 : Int32) (z2 : Int32) (F : PF) (G : PG) (hK : CFS F0 F) : PP (cb_X4_localTold_107 fu x5 z0 z1 z2 F G) (fun _ F' _ => CFS F0 F') := by
  unfold cb_X4_localTold_107
  refine PP.bind (kq_X4_localArray z2 z1 z0 x5 F G) ?_
  intro r1 F1 G1 hK1
  dsimp only
  exact kqj_X4_localTold_112 F1 G1 (CFS.tr hK hK1)
theorem kqj_X4_localTold_102 {fu : Nat} {F0 : PF} (x5 : Int32) (z0 : Int32) (z1 : Int32) (F : PF) (G : PG) (hK : CFS F0 F) : PP (cb_X4_localTold_102 fu x5 z0 z1 F G) (fun _ F' _ => CFS F0 F') := by
  unfold cb_X4_localTold_102
  exact kqj_X4_localTold_107 x5 (2 : Int32) z0 z1 F G hK
theorem kqj_X4_localTold_106 {fu : Nat} {F0 : PF} (x5 : Int32) (z0 : Int32) (z1 : Int32) (F : PF) (G : PG) (hK : CFS F0 F) : PP (cb_X4_localTold_106 fu x5 z0 z1 F G) (fun _ F' _ => CFS F0 F') := by
  unfold cb_X4_localTold_106
  exact kqj_X4_localTold_107 x5 (3 : Int32) z0 z1 F G hK
theorem kqj_X4_localTold_91 {fu : Nat} {F0 : PF} (x2 : Int32) (x3 : Int32) (x4 : Int32) (z0 : Int32) (F : PF) (G : PG) (hK : CFS F0 F) : PP (cb_X4_localTold_91 fu x2 x3 x4 z0 F G) (fun _ F' _ => CFS F0 F') := by
  unfold cb_X4_localTold_91
  refine PP.ite (fun c_1 => ?_) (fun c_1 => ?_)
  · skip
    exact kqj_X4_localTold_102 z0 x4 x3 F G hK
  · skip
    exact kqj_X4_localTold_106 z0 x4 x3 F G hK
theorem kqj_X4_localTold_84 {fu : Nat} {F0 : PF} (x2 : Int32) (x3 : Int32) (x4 : Int32) (F : PF) (G : PG) (hK : CFS F0 F) : PP (cb_X4_localTold_84 fu x2 x3 x4 F G) (fun _ F' _ => CFS F0 F') := by
  unfold cb_X4_localTold_84
  refine PP.bind (kq_X3_arraySize F G) ?_
  intro r1 F1 G1 hK1
  dsimp only
  exact kqj_X4_localTold_91 x2 x3 x4 r1 F1 G1 (CFS.tr hK hK1)
theorem kqj_X4_localTold_148 {fu : Nat} {F0 : PF} (F : PF) (G : PG) (hK : CFS F0 F) : PP (cb_X4_localTold_148 fu F G) (fun _ F' _ => CFS F0 F') := by
  unfold cb_X4_localTold_148
  exact kqj_X4_localTold_168 F G hK
theorem kqj_X4_localTold_141 {fu : Nat} {F0 : PF} (x3 : Int32) (x4 : Int32) (F : PF) (G : PG) (hK : CFS F0 F) : PP (cb_X4_localTold_141 fu x3 x4 F G) (fun _ F' _ => CFS F0 F') := by
  unfold cb_X4_localTold_141
  refine PP.bind (kq_X4_localInt x3 x4 F G) ?_
  intro r1 F1 G1 hK1
  dsimp only
  exact kqj_X4_localTold_148 F1 G1 (CFS.tr hK hK1)
theorem kqj_X4_localTold_134 {fu : Nat} {F0 : PF} (x3 : Int32) (x4 : Int32) (F : PF) (G : PG) (hK : CFS F0 F) : PP (cb_X4_localTold_134 fu x3 x4 F G) (fun _ F' _ => CFS F0 F') := by
  unfold cb_X4_localTold_134
  refine PP.bind (kq_X3_expression F G) ?_
  intro r1 F1 G1 hK1
  dsimp only
  exact kqj_X4_localTold_141 x3 x4 F1 G1 (CFS.tr hK hK1)
theorem kqj_X4_localTold_127 {fu : Nat} {F0 : PF} (x3 : Int32) (x4 : Int32) (F : PF) (G : PG) (hK : CFS F0 F) : PP (cb_X4_localTold_127 fu x3 x4 F G) (fun _ F' _ => CFS F0 F') := by
  unfold cb_X4_localTold_127
  refine PP.bind (kq_X2_next F G) ?_
  intro r1 F1 G1 hK1
  dsimp only
  exact kqj_X4_localTold_134 x3 x4 F1 G1 (CFS.tr hK hK1)
theorem kqj_X4_localTold_161 {fu : Nat} {F0 : PF} (x3 : Int32) (x4 : Int32) (F : PF) (G : PG) (hK : CFS F0 F) : PP (cb_X4_localTold_161 fu x3 x4 F G) (fun _ F' _ => CFS F0 F') := by
  unfold cb_X4_localTold_161
  refine PP.bind (kq_X4_localInt x3 x4 F G) ?_
  intro r1 F1 G1 hK1
  dsimp only
  exact kqj_X4_localTold_168 F1 G1 (CFS.tr hK hK1)
theorem kqj_X4_localTold_151 {fu : Nat} {F0 : PF} (x3 : Int32) (x4 : Int32) (F : PF) (G : PG) (hK : CFS F0 F) : PP (cb_X4_localTold_151 fu x3 x4 F G) (fun _ F' _ => CFS F0 F') := by
  unfold cb_X4_localTold_151
  refine PP.bind (cw_X1_addPair (66 : Int32) (0 : Int32) F G) ?_
  intro r1 F1 G1 hK1
  dsimp only
  exact kqj_X4_localTold_161 x3 x4 F1 G1 (CFS.tr hK (CFS.k hK1 rfl rfl rfl))
theorem kqj_X4_localTold_115 {fu : Nat} {F0 : PF} (x3 : Int32) (x4 : Int32) (F : PF) (G : PG) (hK : CFS F0 F) : PP (cb_X4_localTold_115 fu x3 x4 F G) (fun _ F' _ => CFS F0 F') := by
  unfold cb_X4_localTold_115
  refine PP.ite (fun c_1 => ?_) (fun c_1 => ?_)
  · skip
    exact kqj_X4_localTold_127 x3 x4 F G hK
  · skip
    exact kqj_X4_localTold_151 x3 x4 F G hK
theorem kqj_X4_localTold_79 {fu : Nat} {F0 : PF} (x2 : Int32) (x3 : Int32) (x4 : Int32) (F : PF) (G : PG) (hK : CFS F0 F) : PP (cb_X4_localTold_79 fu x2 x3 x4 F G) (fun _ F' _ => CFS F0 F') := by
  unfold cb_X4_localTold_79
  refine PP.ite (fun c_1 => ?_) (fun c_1 => ?_)
  · skip
    exact kqj_X4_localTold_84 x2 x3 x4 F G hK
  · skip
    exact kqj_X4_localTold_115 x3 x4 F G hK
theorem kqj_X4_localTold_67 {fu : Nat} {F0 : PF} (x2 : Int32) (x3 : Int32) (x4 : Int32) (F : PF) (G : PG) (hK : CFS F0 F) : PP (cb_X4_localTold_67 fu x2 x3 x4 F G) (fun _ F' _ => CFS F0 F') := by
  unfold cb_X4_localTold_67
  refine PP.ite (fun c_1 => ?_) (fun c_1 => ?_)
  · skip
    exact kqj_X4_localTold_84 x2 x3 x4 F G hK
  · skip
    exact kqj_X4_localTold_79 x2 x3 x4 F G hK
theorem kqj_X4_localTold_64 {fu : Nat} {F0 : PF} (F : PF) (G : PG) (hK : CFS F0 F) : PP (cb_X4_localTold_64 fu F G) (fun _ F' _ => CFS F0 F') := by
  unfold cb_X4_localTold_64
  exact kqj_X4_localTold_168 F G hK
theorem kqj_X4_localTold_56 {fu : Nat} {F0 : PF} (F : PF) (G : PG) (hK : CFS F0 F) : PP (cb_X4_localTold_56 fu F G) (fun _ F' _ => CFS F0 F') := by
  unfold cb_X4_localTold_56
  refine PP.bind (kq_X2_fail (2 : Int32) F G) ?_
  intro r1 F1 G1 hK1
  dsimp only
  exact kqj_X4_localTold_64 F1 G1 (CFS.tr hK hK1)
theorem kqj_X4_localTold_44 {fu : Nat} {F0 : PF} (x2 : Int32) (x3 : Int32) (x4 : Int32) (F : PF) (G : PG) (hK : CFS F0 F) : PP (cb_X4_localTold_44 fu x2 x3 x4 F G) (fun _ F' _ => CFS F0 F') := by
  unfold cb_X4_localTold_44
  refine PP.ite (fun c_1 => ?_) (fun c_1 => ?_)
  · skip
    exact kqj_X4_localTold_67 x2 x3 x4 F G hK
  · skip
    exact kqj_X4_localTold_56 F G hK
theorem kqj_X4_localTold_40 {fu : Nat} {F0 : PF} (x1 : Int32) (x2 : Int32) (x3 : Int32) (x4 : Int32) (F : PF) (G : PG) (hK : CFS F0 F) : PP (cb_X4_localTold_40 fu x1 x2 x3 x4 F G) (fun _ F' _ => CFS F0 F') := by
  unfold cb_X4_localTold_40
  refine PP.ite (fun c_1 => ?_) (fun c_1 => ?_)
  · skip
    exact kqj_X4_localTold_67 x2 x3 x4 F G hK
  · skip
    exact kqj_X4_localTold_44 x2 x3 x4 F G hK
theorem kqj_X4_localTold_15 {fu : Nat} {F0 : PF} (x1 : Int32) (x2 : Int32) (F : PF) (G : PG) (hK : CFS F0 F) : PP (cb_X4_localTold_15 fu x1 x2 F G) (fun _ F' _ => CFS F0 F') := by
  unfold cb_X4_localTold_15
  refine PP.bind (kq_X2_expect (2 : Int32) (by decide) F G) ?_
  intro r1 F1 G1 hK1
  dsimp only
  exact kqj_X4_localTold_40 x1 x2 (F 12) (F 13) F1 G1 (CFS.tr hK hK1)
theorem kq_X4_localTold {fu : Nat} (x1 : Int32) (F : PF) (G : PG) : PP (cf_X4_localTold fu x1 F G) (fun _ F' _ => CFS F F') := by
  unfold cf_X4_localTold
  unfold cb_X4_localTold_0
  refine PP.bind (kq_X2_next F G) ?_
  intro r1 F1 G1 hK1
  dsimp only
  exact kqj_X4_localTold_15 x1 (F 11) F1 G1 (CFS.tr CFS.rf hK1)
theorem kqj_X4_leap_88 {fu : Nat} {F0 : PF} (F : PF) (G : PG) (hK : CFS F0 F) : PP (cb_X4_leap_88 fu F G) (fun _ F' _ => CFS F0 F') := by
  unfold cb_X4_leap_88
  refine PP.ret ?_
  exact hK
theorem kqj_X4_leap_79 {fu : Nat} {F0 : PF} (F : PF) (G : PG) (hK : CFS F0 F) : PP (cb_X4_leap_79 fu F G) (fun _ F' _ => CFS F0 F') := by
  unfold cb_X4_leap_79
  refine PP.bind (kq_X2_expect (26 : Int32) (by decide) F G) ?_
  intro r1 F1 G1 hK1
  dsimp only
  exact kqj_X4_leap_88 F1 G1 (CFS.tr hK hK1)
theorem kqj_X4_leap_72 {fu : Nat} {F0 : PF} (F : PF) (G : PG) (hK : CFS F0 F) : PP (cb_X4_leap_72 fu F G) (fun _ F' _ => CFS F0 F') := by
  unfold cb_X4_leap_72
  refine PP.bind (kq_X2_next F G) ?_
  intro r1 F1 G1 hK1
  dsimp only
  exact kqj_X4_leap_79 F1 G1 (CFS.tr hK hK1)
theorem kqj_X4_leap_52 {fu : Nat} {F0 : PF} (F : PF) (G : PG) (hK : CFS F0 F) : PP (cb_X4_leap_52 fu F G) (fun _ F' _ => CFS F0 F') := by
  unfold cb_X4_leap_52
  exact kqj_X4_leap_72 F G hK
theorem kqj_X4_leap_49 {fu : Nat} {F0 : PF} (z0 : Int32) (F : PF) (G : PG) (hK : CFS F0 F) : PP (cb_X4_leap_49 fu z0 F G) (fun _ F' _ => CFS F0 F') := by
  unfold cb_X4_leap_49
  exact kqj_X4_leap_52 (fup F 30 z0) G (CFS.f (k := 30) rfl hK)
theorem kqj_X4_leap_35 {fu : Nat} {F0 : PF} (F : PF) (G : PG) (hK : CFS F0 F) : PP (cb_X4_leap_35 fu F G) (fun _ F' _ => CFS F0 F') := by
  unfold cb_X4_leap_35
  refine PP.bind (cw_X1_addJump (84 : Int32) (F 30) F G) ?_
  intro r1 F1 G1 hK1
  dsimp only
  exact kqj_X4_leap_49 r1 F1 G1 (CFS.tr hK (CFS.k hK1 rfl rfl rfl))
theorem kqj_X4_leap_69 {fu : Nat} {F0 : PF} (z0 : Int32) (F : PF) (G : PG) (hK : CFS F0 F) : PP (cb_X4_leap_69 fu z0 F G) (fun _ F' _ => CFS F0 F') := by
  unfold cb_X4_leap_69
  exact kqj_X4_leap_72 (fup F 31 z0) G (CFS.f (k := 31) rfl hK)
theorem kqj_X4_leap_55 {fu : Nat} {F0 : PF} (F : PF) (G : PG) (hK : CFS F0 F) : PP (cb_X4_leap_55 fu F G) (fun _ F' _ => CFS F0 F') := by
  unfold cb_X4_leap_55
  refine PP.bind (cw_X1_addJump (84 : Int32) (F 31) F G) ?_
  intro r1 F1 G1 hK1
  dsimp only
  exact kqj_X4_leap_69 r1 F1 G1 (CFS.tr hK (CFS.k hK1 rfl rfl rfl))
theorem kqj_X4_leap_23 {fu : Nat} {F0 : PF} (F : PF) (G : PG) (hK : CFS F0 F) : PP (cb_X4_leap_23 fu F G) (fun _ F' _ => CFS F0 F') := by
  unfold cb_X4_leap_23
  refine PP.ite (fun c_1 => ?_) (fun c_1 => ?_)
  · skip
    exact kqj_X4_leap_35 F G hK
  · skip
    exact kqj_X4_leap_55 F G hK
theorem kqj_X4_leap_7 {fu : Nat} {F0 : PF} (F : PF) (G : PG) (hK : CFS F0 F) : PP (cb_X4_leap_7 fu F G) (fun _ F' _ => CFS F0 F') := by
  unfold cb_X4_leap_7
  refine PP.bind (kq_X5_note (6 : Int32) (F 13) F G) ?_
  intro r1 F1 G1 hK1
  dsimp only
  exact kqj_X4_leap_23 F1 G1 (CFS.tr hK hK1)
theorem kq_X4_leap {fu : Nat} (F : PF) (G : PG) : PP (cf_X4_leap fu F G) (fun _ F' _ => CFS F F') := by
  unfold cf_X4_leap
  unfold cb_X4_leap_0
  refine PP.ite (fun c_1 => ?_) (fun c_1 => ?_)
  · skip
    exact kqj_X4_leap_7 F G CFS.rf
  · skip
    exact kqj_X4_leap_23 F G CFS.rf
theorem kqj_X4_returnStatement_93 {fu : Nat} {F0 : PF} (F : PF) (G : PG) (hK : CFS F0 F) : PP (cb_X4_returnStatement_93 fu F G) (fun _ F' _ => CFS F0 F') := by
  unfold cb_X4_returnStatement_93
  refine PP.ret ?_
  exact hK
theorem kqj_X4_returnStatement_84 {fu : Nat} {F0 : PF} (F : PF) (G : PG) (hK : CFS F0 F) : PP (cb_X4_returnStatement_84 fu F G) (fun _ F' _ => CFS F0 F') := by
  unfold cb_X4_returnStatement_84
  refine PP.bind (kq_X2_expect (26 : Int32) (by decide) F G) ?_
  intro r1 F1 G1 hK1
  dsimp only
  exact kqj_X4_returnStatement_93 F1 G1 (CFS.tr hK hK1)
theorem kqj_X4_returnStatement_75 {fu : Nat} {F0 : PF} (F : PF) (G : PG) (hK : CFS F0 F) : PP (cb_X4_returnStatement_75 fu F G) (fun _ F' _ => CFS F0 F') := by
  unfold cb_X4_returnStatement_75
  refine PP.bind (cw_X1_add (15 : Int32) F G) ?_
  intro r1 F1 G1 hK1
  dsimp only
  exact kqj_X4_returnStatement_84 F1 G1 (CFS.tr hK (CFS.k hK1 rfl rfl rfl))
theorem kqj_X4_returnStatement_68 {fu : Nat} {F0 : PF} (F : PF) (G : PG) (hK : CFS F0 F) : PP (cb_X4_returnStatement_68 fu F G) (fun _ F' _ => CFS F0 F') := by
  unfold cb_X4_returnStatement_68
  refine PP.bind (kq_X3_expression F G) ?_
  intro r1 F1 G1 hK1
  dsimp only
  exact kqj_X4_returnStatement_75 F1 G1 (CFS.tr hK hK1)
theorem kqj_X4_returnStatement_65 {fu : Nat} {F0 : PF} (F : PF) (G : PG) (hK : CFS F0 F) : PP (cb_X4_returnStatement_65 fu F G) (fun _ F' _ => CFS F0 F') := by
  unfold cb_X4_returnStatement_65
  exact kqj_X4_returnStatement_75 F G hK
theorem kqj_X4_returnStatement_55 {fu : Nat} {F0 : PF} (F : PF) (G : PG) (hK : CFS F0 F) : PP (cb_X4_returnStatement_55 fu F G) (fun _ F' _ => CFS F0 F') := by
  unfold cb_X4_returnStatement_55
  refine PP.bind (cw_X1_addPair (66 : Int32) (0 : Int32) F G) ?_
  intro r1 F1 G1 hK1
  dsimp only
  exact kqj_X4_returnStatement_65 F1 G1 (CFS.tr hK (CFS.k hK1 rfl rfl rfl))
theorem kqj_X4_returnStatement_51 {fu : Nat} {F0 : PF} (x1 : Int32) (F : PF) (G : PG) (hK : CFS F0 F) : PP (cb_X4_returnStatement_51 fu x1 F G) (fun _ F' _ => CFS F0 F') := by
  unfold cb_X4_returnStatement_51
  refine PP.ite (fun c_1 => ?_) (fun c_1 => ?_)
  · skip
    exact kqj_X4_returnStatement_68 F G hK
  · skip
    exact kqj_X4_returnStatement_55 F G hK
theorem kqj_X4_returnStatement_36 {fu : Nat} {F0 : PF} (x1 : Int32) (F : PF) (G : PG) (hK : CFS F0 F) : PP (cb_X4_returnStatement_36 fu x1 F G) (fun _ F' _ => CFS F0 F') := by
  unfold cb_X4_returnStatement_36
  refine PP.bind (kq_X5_note (3 : Int32) (F 13) F G) ?_
  intro r1 F1 G1 hK1
  dsimp only
  exact kqj_X4_returnStatement_51 x1 F1 G1 (CFS.tr hK hK1)
theorem kqj_X4_returnStatement_24 {fu : Nat} {F0 : PF} (z0 : Int32) (F : PF) (G : PG) (hK : CFS F0 F) : PP (cb_X4_returnStatement_24 fu z0 F G) (fun _ F' _ => CFS F0 F') := by
  unfold cb_X4_returnStatement_24
  refine PP.ite (fun c_1 => ?_) (fun c_1 => ?_)
  · skip
    exact kqj_X4_returnStatement_36 z0 F G hK
  · skip
    exact kqj_X4_returnStatement_51 z0 F G hK
theorem kqj_X4_returnStatement_19 {fu : Nat} {F0 : PF} (F : PF) (G : PG) (hK : CFS F0 F) : PP (cb_X4_returnStatement_19 fu F G) (fun _ F' _ => CFS F0 F') := by
  unfold cb_X4_returnStatement_19
  exact kqj_X4_returnStatement_24 (1 : Int32) F G hK
theorem kqj_X4_returnStatement_23 {fu : Nat} {F0 : PF} (F : PF) (G : PG) (hK : CFS F0 F) : PP (cb_X4_returnStatement_23 fu F G) (fun _ F' _ => CFS F0 F') := by
  unfold cb_X4_returnStatement_23
  exact kqj_X4_returnStatement_24 (0 : Int32) F G hK
theorem kqj_X4_returnStatement_7 {fu : Nat} {F0 : PF} (F : PF) (G : PG) (hK : CFS F0 F) : PP (cb_X4_returnStatement_7 fu F G) (fun _ F' _ => CFS F0 F') := by
  unfold cb_X4_returnStatement_7
  refine PP.ite (fun c_1 => ?_) (fun c_1 => ?_)
  · skip
    exact kqj_X4_returnStatement_19 F G hK
  · skip
    exact kqj_X4_returnStatement_23 F G hK
theorem kq_X4_returnStatement {fu : Nat} (F : PF) (G : PG) : PP (cf_X4_returnStatement fu F G) (fun _ F' _ => CFS F F') := by
  unfold cf_X4_returnStatement
  unfold cb_X4_returnStatement_0
  refine PP.bind (kq_X2_next F G) ?_
  intro r1 F1 G1 hK1
  dsimp only
  exact kqj_X4_returnStatement_7 F1 G1 (CFS.tr CFS.rf hK1)
theorem kqj_X5_wantPlace_28 {fu : Nat} {F0 : PF} (F : PF) (G : PG) (hK : CFS F0 F) : PP (cb_X5_wantPlace_28 fu F G) (fun _ F' _ => CFS F0 F') := by
  unfold cb_X5_wantPlace_28
  refine PP.ret ?_
  exact hK
theorem kqj_X5_wantPlace_22 {fu : Nat} {F0 : PF} (x2 : Int32) (F : PF) (G : PG) (hK : CFS F0 F) : PP (cb_X5_wantPlace_22 fu x2 F G) (fun _ F' _ => CFS F0 F') := by
  unfold cb_X5_wantPlace_22
  refine PP.bind (kq_X5_note (4 : Int32) x2 F G) ?_
  intro r1 F1 G1 hK1
  dsimp only
  exact kqj_X5_wantPlace_28 F1 G1 (CFS.tr hK hK1)
theorem kqj_X5_wantPlace_19 {fu : Nat} {F0 : PF} (x2 : Int32) (z0 : Int32) (F : PF) (G : PG) (hK : CFS F0 F) : PP (cb_X5_wantPlace_19 fu x2 z0 F G) (fun _ F' _ => CFS F0 F') := by
  unfold cb_X5_wantPlace_19
  refine PP.ite (fun c_1 => ?_) (fun c_1 => ?_)
  · skip
    exact kqj_X5_wantPlace_22 x2 F G hK
  · skip
    exact kqj_X5_wantPlace_28 F G hK
theorem kqj_X5_wantPlace_13 {fu : Nat} {F0 : PF} (x2 : Int32) (x3 : Int32) (x4 : Int32) (F : PF) (G : PG) (hK : CFS F0 F) : PP (cb_X5_wantPlace_13 fu x2 x3 x4 F G) (fun _ F' _ => CFS F0 F') := by
  unfold cb_X5_wantPlace_13
  refine PP.bind (cw_X5_fits x4 x3 F G) ?_
  intro r1 F1 G1 hK1
  dsimp only
  exact kqj_X5_wantPlace_19 x2 r1 F1 G1 (CFS.tr hK (CFS.k hK1 rfl rfl rfl))
theorem kqj_X5_wantPlace_5 {fu : Nat} {F0 : PF} (x2 : Int32) (x3 : Int32) (z0 : Int32) (F : PF) (G : PG) (hK : CFS F0 F) : PP (cb_X5_wantPlace_5 fu x2 x3 z0 F G) (fun _ F' _ => CFS F0 F') := by
  unfold cb_X5_wantPlace_5
  refine PP.ite (fun c_1 => ?_) (fun c_1 => ?_)
  · skip
    exact kqj_X5_wantPlace_28 F G hK
  · skip
    exact kqj_X5_wantPlace_13 x2 x3 z0 F G hK
theorem kq_X5_wantPlace {fu : Nat} (x1 : Int32) (x2 : Int32) (x3 : Int32) (F : PF) (G : PG) : PP (cf_X5_wantPlace fu x1 x2 x3 F G) (fun _ F' _ => CFS F F') := by
  unfold cf_X5_wantPlace
  unfold cb_X5_wantPlace_0
  refine PP.bind (cw_X5_kind x1 F G) ?_
  intro r1 F1 G1 hK1
  dsimp only
  exact kqj_X5_wantPlace_5 x2 x3 r1 F1 G1 (CFS.tr CFS.rf (CFS.k hK1 rfl rfl rfl))
theorem kqj_X4_simple_36 {fu : Nat} {F0 : PF} (F : PF) (G : PG) (hK : CFS F0 F) : PP (cb_X4_simple_36 fu F G) (fun _ F' _ => CFS F0 F') := by
  unfold cb_X4_simple_36
  refine PP.ret ?_
  exact hK
theorem kqj_X4_simple_93 {fu : Nat} {F0 : PF} (F : PF) (G : PG) (hK : CFS F0 F) : PP (cb_X4_simple_93 fu F G) (fun _ F' _ => CFS F0 F') := by
  unfold cb_X4_simple_93
  refine PP.ret ?_
  exact hK
theorem kqj_X4_simple_84 {fu : Nat} {F0 : PF} (F : PF) (G : PG) (hK : CFS F0 F) : PP (cb_X4_simple_84 fu F G) (fun _ F' _ => CFS F0 F') := by
  unfold cb_X4_simple_84
  refine PP.bind (cw_X1_add (68 : Int32) F G) ?_
  intro r1 F1 G1 hK1
  dsimp only
  exact kqj_X4_simple_93 F1 G1 (CFS.tr hK (CFS.k hK1 rfl rfl rfl))
theorem kqj_X4_simple_75 {fu : Nat} {F0 : PF} (x1 : Int32) (x3 : Int32) (F : PF) (G : PG) (hK : CFS F0 F) : PP (cb_X4_simple_75 fu x1 x3 F G) (fun _ F' _ => CFS F0 F') := by
  unfold cb_X4_simple_75
  refine PP.bind (kq_X3_call x3 x1 F G) ?_
  intro r1 F1 G1 hK1
  dsimp only
  exact kqj_X4_simple_84 F1 G1 (CFS.tr hK hK1)
