def COF (F F1 : PF) : Prop := (F 7 = 0 ∧ F 6 = 0 ∧ F 45 = 0 ∧ F 75 = 0) → (F1 7 = 0 ∧ F1 6 = 0 ∧ F1 45 = 0 ∧ F1 75 = 0)
theorem COF.rf {F : PF} : COF F F := id
theorem COF.tr {F F1 F2 : PF} (h : COF F F1) (h1 : COF F1 F2) : COF F F2 := fun q => h1 (h q)
theorem COF.f {F F1 : PF} {k : Nat} {x : Int32} (e : (k == 6 || k == 7 || k == 45 || k == 75) = false) (h : COF F F1) : COF F (fup F1 k x) := by
  have e1 : 6 ≠ k := fun q => by rw [← q] at e; cases e
  have e2 : 7 ≠ k := fun q => by rw [← q] at e; cases e
  have e3 : 45 ≠ k := fun q => by rw [← q] at e; cases e
  have e4 : 75 ≠ k := fun q => by rw [← q] at e; cases e
  unfold COF
  rw [fup_n e1, fup_n e2, fup_n e3, fup_n e4]
  exact h
theorem COF.k {F F1 : PF} {G G1 : PG} {a b : List Nat} (h : KX a b F G F1 G1) (e1 : a.contains 6 = false) (e2 : a.contains 7 = false) (e3 : a.contains 45 = false) (e4 : a.contains 75 = false) : COF F F1 := by
  unfold COF
  rw [h.1 6 e1, h.1 7 e2, h.1 45 e3, h.1 75 e4]
  exact id
theorem ko_X1_add {fu : Nat} (x1 : Int32) (F : PF) (G : PG) : PP (cf_X1_add fu x1 F G) (fun _ F' _ => COF F F') := by
  unfold cf_X1_add cb_X1_add_0
  refine PP.ite (fun _ => PP.ret COF.rf) (fun c => ?_)
  intro r F' G' _ q
  exact absurd q.1 c
theorem ko_X1_addPair {fu : Nat} (x1 x2 : Int32) (F : PF) (G : PG) : PP (cf_X1_addPair fu x1 x2 F G) (fun _ F' _ => COF F F') := by
  unfold cf_X1_addPair cb_X1_addPair_0
  refine PP.ite (fun _ => PP.ret COF.rf) (fun c => ?_)
  intro r F' G' _ q
  exact absurd q.1 c
theorem ko_X1_addJump {fu : Nat} (x1 x2 : Int32) (F : PF) (G : PG) : PP (cf_X1_addJump fu x1 x2 F G) (fun _ F' _ => COF F F') := by
  unfold cf_X1_addJump cb_X1_addJump_0
  refine PP.ite (fun _ => PP.ret COF.rf) (fun c => ?_)
  intro r F' G' _ q
  exact absurd q.1 c
theorem ko_X1_cut {fu : Nat} (x1 : Int32) (F : PF) (G : PG) : PP (cf_X1_cut fu x1 F G) (fun _ F' _ => COF F F') := by
  unfold cf_X1_cut cb_X1_cut_0 cb_X1_cut_4
  refine PP.ite (fun _ => PP.ret COF.rf) (fun c => PP.ite (fun _ => PP.ret COF.rf) (fun c2 => ?_))
  intro r F' G' _ q
  refine absurd (i_le.mpr ?_) c2
  rw [q.2.1]
  exact i_ge0 c
theorem ko_X5_globalRoom {fu : Nat} (x1 x2 : Int32) (F : PF) (G : PG) : PP (cf_X5_globalRoom fu x1 x2 F G) (fun _ F' _ => COF F F') := by
  unfold cf_X5_globalRoom cb_X5_globalRoom_0
  refine PP.ite (fun _ => PP.ret COF.rf) (fun c => ?_)
  intro r F' G' _ q
  exact absurd q.2.2.1 c
theorem koj_X3_settle_138 {fu : Nat} {F0 : PF} (F : PF) (G : PG) (hK : COF F0 F) : PP (cb_X3_settle_138 fu F G) (fun _ F' _ => COF F0 F') := by
  unfold cb_X3_settle_138
  refine PP.ret ?_
  exact hK
theorem koj_X3_settle_132 {fu : Nat} {F0 : PF} (ag_2 : Int32 → Int32 → Int32 → PF → PG → PR) (hag_2 : ∀ (x1 : Int32) (x2 : Int32) (x3 : Int32) (F : PF) (G : PG) (hK : COF F0 F), PP (ag_2 x1 x2 x3 F G) (fun _ F' _ => COF F0 F')) (x1 : Int32) (x2 : Int32) (x3 : Int32) (F : PF) (G : PG) (hK : COF F0 F) : PP (cb_X3_settle_132 fu ag_2 x1 x2 x3 F G) (fun _ F' _ => COF F0 F') := by
  unfold cb_X3_settle_132
  exact hag_2 x1 x2 (x3 + (1 : Int32)) F G hK
theorem koj_X3_settle_123 {fu : Nat} {F0 : PF} (ag_2 : Int32 → Int32 → Int32 → PF → PG → PR) (hag_2 : ∀ (x1 : Int32) (x2 : Int32) (x3 : Int32) (F : PF) (G : PG) (hK : COF F0 F), PP (ag_2 x1 x2 x3 F G) (fun _ F' _ => COF F0 F')) (x1 : Int32) (x2 : Int32) (x3 : Int32) (x4 : Int32) (F : PF) (G : PG) (hK : COF F0 F) : PP (cb_X3_settle_123 fu ag_2 x1 x2 x3 x4 F G) (fun _ F' _ => COF F0 F') := by
  unfold cb_X3_settle_123
  refine PP.bind (ko_X1_add x4 F G) ?_
  intro r1 F1 G1 hK1
  dsimp only
  exact koj_X3_settle_132 ag_2 hag_2 x1 x2 x3 F1 G1 (COF.tr hK hK1)
theorem koj_X3_settle_120 {fu : Nat} {F0 : PF} (ag_2 : Int32 → Int32 → Int32 → PF → PG → PR) (hag_2 : ∀ (x1 : Int32) (x2 : Int32) (x3 : Int32) (F : PF) (G : PG) (hK : COF F0 F), PP (ag_2 x1 x2 x3 F G) (fun _ F' _ => COF F0 F')) (x1 : Int32) (x2 : Int32) (x3 : Int32) (F : PF) (G : PG) (hK : COF F0 F) : PP (cb_X3_settle_120 fu ag_2 x1 x2 x3 F G) (fun _ F' _ => COF F0 F') := by
  unfold cb_X3_settle_120
  exact koj_X3_settle_132 ag_2 hag_2 x1 x2 x3 F G hK
theorem koj_X3_settle_97 {fu : Nat} {F0 : PF} (ag_2 : Int32 → Int32 → Int32 → PF → PG → PR) (hag_2 : ∀ (x1 : Int32) (x2 : Int32) (x3 : Int32) (F : PF) (G : PG) (hK : COF F0 F), PP (ag_2 x1 x2 x3 F G) (fun _ F' _ => COF F0 F')) (x1 : Int32) (x2 : Int32) (x3 : Int32) (F : PF) (G : PG) (hK : COF F0 F) : PP (cb_X3_settle_97 fu ag_2 x1 x2 x3 F G) (fun _ F' _ => COF F0 F') := by
  unfold cb_X3_settle_97
  refine PP.ix (fun _ => ?_)
  refine PP.bind (cw_X1_aim (G 20 (F 21).toNatClampNeg) (F 6) F G) ?_
  intro r1 F1 G1 hK1
  dsimp only
  exact koj_X3_settle_120 ag_2 hag_2 x1 x2 x3 F1 G1 (COF.tr hK (COF.k hK1 rfl rfl rfl rfl))
theorem koj_X3_settle_88 {fu : Nat} {F0 : PF} (ag_2 : Int32 → Int32 → Int32 → PF → PG → PR) (hag_2 : ∀ (x1 : Int32) (x2 : Int32) (x3 : Int32) (F : PF) (G : PG) (hK : COF F0 F), PP (ag_2 x1 x2 x3 F G) (fun _ F' _ => COF F0 F')) (x1 : Int32) (x2 : Int32) (x3 : Int32) (F : PF) (G : PG) (hK : COF F0 F) : PP (cb_X3_settle_88 fu ag_2 x1 x2 x3 F G) (fun _ F' _ => COF F0 F') := by
  unfold cb_X3_settle_88
  refine PP.bind (ko_X1_add (65 : Int32) F G) ?_
  intro r1 F1 G1 hK1
  dsimp only
  exact koj_X3_settle_97 ag_2 hag_2 x1 x2 x3 F1 G1 (COF.tr hK hK1)
theorem koj_X3_settle_78 {fu : Nat} {F0 : PF} (ag_2 : Int32 → Int32 → Int32 → PF → PG → PR) (hag_2 : ∀ (x1 : Int32) (x2 : Int32) (x3 : Int32) (F : PF) (G : PG) (hK : COF F0 F), PP (ag_2 x1 x2 x3 F G) (fun _ F' _ => COF F0 F')) (x1 : Int32) (x2 : Int32) (x3 : Int32) (F : PF) (G : PG) (hK : COF F0 F) : PP (cb_X3_settle_78 fu ag_2 x1 x2 x3 F G) (fun _ F' _ => COF F0 F') := by
  unfold cb_X3_settle_78
  exact koj_X3_settle_88 ag_2 hag_2 x1 x2 x3 (fup F 21 ((F 21) - (1 : Int32))) G (COF.f (k := 21) rfl hK)
theorem koj_X3_settle_71 {fu : Nat} {F0 : PF} (ag_2 : Int32 → Int32 → Int32 → PF → PG → PR) (hag_2 : ∀ (x1 : Int32) (x2 : Int32) (x3 : Int32) (F : PF) (G : PG) (hK : COF F0 F), PP (ag_2 x1 x2 x3 F G) (fun _ F' _ => COF F0 F')) (x1 : Int32) (x2 : Int32) (x3 : Int32) (x4 : Int32) (F : PF) (G : PG) (hK : COF F0 F) : PP (cb_X3_settle_71 fu ag_2 x1 x2 x3 x4 F G) (fun _ F' _ => COF F0 F') := by
  unfold cb_X3_settle_71
  refine PP.ite (fun c_1 => ?_) (fun c_1 => ?_)
  · skip
    exact koj_X3_settle_123 ag_2 hag_2 x1 x2 x3 x4 F G hK
  · skip
    exact koj_X3_settle_78 ag_2 hag_2 x1 x2 x3 F G hK
theorem koj_X3_settle_64 {fu : Nat} {F0 : PF} (ag_2 : Int32 → Int32 → Int32 → PF → PG → PR) (hag_2 : ∀ (x1 : Int32) (x2 : Int32) (x3 : Int32) (F : PF) (G : PG) (hK : COF F0 F), PP (ag_2 x1 x2 x3 F G) (fun _ F' _ => COF F0 F')) (x1 : Int32) (x2 : Int32) (x3 : Int32) (x4 : Int32) (F : PF) (G : PG) (hK : COF F0 F) : PP (cb_X3_settle_64 fu ag_2 x1 x2 x3 x4 F G) (fun _ F' _ => COF F0 F') := by
  unfold cb_X3_settle_64
  refine PP.ite (fun c_1 => ?_) (fun c_1 => ?_)
  · skip
    exact koj_X3_settle_71 ag_2 hag_2 x1 x2 x3 x4 F G hK
  · skip
    exact koj_X3_settle_123 ag_2 hag_2 x1 x2 x3 x4 F G hK
theorem koj_X3_settle_57 {fu : Nat} {F0 : PF} (ag_2 : Int32 → Int32 → Int32 → PF → PG → PR) (hag_2 : ∀ (x1 : Int32) (x2 : Int32) (x3 : Int32) (F : PF) (G : PG) (hK : COF F0 F), PP (ag_2 x1 x2 x3 F G) (fun _ F' _ => COF F0 F')) (x1 : Int32) (x2 : Int32) (x3 : Int32) (x4 : Int32) (F : PF) (G : PG) (hK : COF F0 F) : PP (cb_X3_settle_57 fu ag_2 x1 x2 x3 x4 F G) (fun _ F' _ => COF F0 F') := by
  unfold cb_X3_settle_57
  refine PP.ite (fun c_1 => ?_) (fun c_1 => ?_)
  · skip
    exact koj_X3_settle_71 ag_2 hag_2 x1 x2 x3 x4 F G hK
  · skip
    exact koj_X3_settle_64 ag_2 hag_2 x1 x2 x3 x4 F G hK
theorem koj_X3_settle_47 {fu : Nat} {F0 : PF} (ag_2 : Int32 → Int32 → Int32 → PF → PG → PR) (hag_2 : ∀ (x1 : Int32) (x2 : Int32) (x3 : Int32) (F : PF) (G : PG) (hK : COF F0 F), PP (ag_2 x1 x2 x3 F G) (fun _ F' _ => COF F0 F')) (x1 : Int32) (x2 : Int32) (x3 : Int32) (x4 : Int32) (F : PF) (G : PG) (hK : COF F0 F) : PP (cb_X3_settle_47 fu ag_2 x1 x2 x3 x4 F G) (fun _ F' _ => COF F0 F') := by
  unfold cb_X3_settle_47
  exact koj_X3_settle_57 ag_2 hag_2 x1 x2 x3 x4 (fup F 21 ((F 21) - (1 : Int32))) G (COF.f (k := 21) rfl hK)
theorem koj_X3_settle_46 {fu : Nat} {F0 : PF} (F : PF) (G : PG) (hK : COF F0 F) : PP (cb_X3_settle_46 fu F G) (fun _ F' _ => COF F0 F') := by
  unfold cb_X3_settle_46
  refine PP.ret ?_
  exact hK
theorem koj_X3_settle_42 {fu : Nat} {F0 : PF} (ag_2 : Int32 → Int32 → Int32 → PF → PG → PR) (hag_2 : ∀ (x1 : Int32) (x2 : Int32) (x3 : Int32) (F : PF) (G : PG) (hK : COF F0 F), PP (ag_2 x1 x2 x3 F G) (fun _ F' _ => COF F0 F')) (x1 : Int32) (x2 : Int32) (x3 : Int32) (x4 : Int32) (z0 : Int32) (F : PF) (G : PG) (hK : COF F0 F) : PP (cb_X3_settle_42 fu ag_2 x1 x2 x3 x4 z0 F G) (fun _ F' _ => COF F0 F') := by
  unfold cb_X3_settle_42
  refine PP.ite (fun c_1 => ?_) (fun c_1 => ?_)
  · skip
    exact koj_X3_settle_47 ag_2 hag_2 x1 x2 x3 x4 F G hK
  · skip
    exact koj_X3_settle_46 F G hK
theorem koj_X3_settle_24 {fu : Nat} {F0 : PF} (ag_2 : Int32 → Int32 → Int32 → PF → PG → PR) (hag_2 : ∀ (x1 : Int32) (x2 : Int32) (x3 : Int32) (F : PF) (G : PG) (hK : COF F0 F), PP (ag_2 x1 x2 x3 F G) (fun _ F' _ => COF F0 F')) (x1 : Int32) (x2 : Int32) (x3 : Int32) (F : PF) (G : PG) (hK : COF F0 F) : PP (cb_X3_settle_24 fu ag_2 x1 x2 x3 F G) (fun _ F' _ => COF F0 F') := by
  unfold cb_X3_settle_24
  refine PP.ix (fun _ => ?_)
  refine PP.bind (cw_X3_strength (G 20 ((F 21) - (1 : Int32)).toNatClampNeg) F G) ?_
  intro r1 F1 G1 hK1
  dsimp only
  exact koj_X3_settle_42 ag_2 hag_2 x1 x2 x3 (G 20 ((F 21) - (1 : Int32)).toNatClampNeg) r1 F1 G1 (COF.tr hK (COF.k hK1 rfl rfl rfl rfl))
theorem koj_X3_settle_17 {fu : Nat} {F0 : PF} (ag_2 : Int32 → Int32 → Int32 → PF → PG → PR) (hag_2 : ∀ (x1 : Int32) (x2 : Int32) (x3 : Int32) (F : PF) (G : PG) (hK : COF F0 F), PP (ag_2 x1 x2 x3 F G) (fun _ F' _ => COF F0 F')) (x1 : Int32) (x2 : Int32) (x3 : Int32) (F : PF) (G : PG) (hK : COF F0 F) : PP (cb_X3_settle_17 fu ag_2 x1 x2 x3 F G) (fun _ F' _ => COF F0 F') := by
  unfold cb_X3_settle_17
  refine PP.ite (fun c_1 => ?_) (fun c_1 => ?_)
  · skip
    exact koj_X3_settle_138 F G hK
  · skip
    exact koj_X3_settle_24 ag_2 hag_2 x1 x2 x3 F G hK
theorem koj_X3_settle_9 {fu : Nat} {F0 : PF} (ag_2 : Int32 → Int32 → Int32 → PF → PG → PR) (hag_2 : ∀ (x1 : Int32) (x2 : Int32) (x3 : Int32) (F : PF) (G : PG) (hK : COF F0 F), PP (ag_2 x1 x2 x3 F G) (fun _ F' _ => COF F0 F')) (x1 : Int32) (x2 : Int32) (x3 : Int32) (F : PF) (G : PG) (hK : COF F0 F) : PP (cb_X3_settle_9 fu ag_2 x1 x2 x3 F G) (fun _ F' _ => COF F0 F') := by
  unfold cb_X3_settle_9
  refine PP.ite (fun c_1 => ?_) (fun c_1 => ?_)
  · skip
    exact koj_X3_settle_138 F G hK
  · skip
    exact koj_X3_settle_17 ag_2 hag_2 x1 x2 x3 F G hK
theorem koz_X3_settle_2 {fu : Nat} {F0 : PF} : ∀ (n : Nat) (x1 : Int32) (x2 : Int32) (x3 : Int32) (F : PF) (G : PG) (hK : COF F0 F), PP (cl_X3_settle_2 fu n x1 x2 x3 F G) (fun _ F' _ => COF F0 F') := by
  intro n
  induction n with
  | zero =>
    intro x1 x2 x3 F G hK
    exact PP.no
  | succ n ihn =>
    intro x1 x2 x3 F G hK
    show PP (cb_X3_settle_2 fu (cl_X3_settle_2 fu n) x1 x2 x3 F G) _
    unfold cb_X3_settle_2
    refine PP.ite (fun c_1 => ?_) (fun c_1 => ?_)
    · skip
      exact koj_X3_settle_138 F G hK
    · skip
      exact koj_X3_settle_9 (cl_X3_settle_2 fu n) ihn x1 x2 x3 F G hK
theorem ko_X3_settle {fu : Nat} (x1 : Int32) (x2 : Int32) (F : PF) (G : PG) : PP (cf_X3_settle fu x1 x2 F G) (fun _ F' _ => COF F F') := by
  unfold cf_X3_settle
  unfold cb_X3_settle_0
  exact koz_X3_settle_2 fu x1 x2 (0 : Int32) F G COF.rf
theorem koj_X3_waits_83 {fu : Nat} {F0 : PF} (F : PF) (G : PG) (hK : COF F0 F) : PP (cb_X3_waits_83 fu F G) (fun _ F' _ => COF F0 F') := by
  unfold cb_X3_waits_83
  refine PP.ret ?_
  exact hK
theorem koj_X3_waits_73 {fu : Nat} {F0 : PF} (F : PF) (G : PG) (hK : COF F0 F) : PP (cb_X3_waits_73 fu F G) (fun _ F' _ => COF F0 F') := by
  unfold cb_X3_waits_73
  exact koj_X3_waits_83 (fup F 21 ((F 21) + (1 : Int32))) G (COF.f (k := 21) rfl hK)
theorem koj_X3_waits_63 {fu : Nat} {F0 : PF} (x1 : Int32) (F : PF) (G : PG) (hK : COF F0 F) : PP (cb_X3_waits_63 fu x1 F G) (fun _ F' _ => COF F0 F') := by
  unfold cb_X3_waits_63
  refine PP.ix (fun _ => ?_)
  exact koj_X3_waits_73 F (gup G 20 (F 21).toNatClampNeg x1) hK
theorem koj_X3_waits_53 {fu : Nat} {F0 : PF} (x1 : Int32) (F : PF) (G : PG) (hK : COF F0 F) : PP (cb_X3_waits_53 fu x1 F G) (fun _ F' _ => COF F0 F') := by
  unfold cb_X3_waits_53
  exact koj_X3_waits_63 x1 (fup F 21 ((F 21) + (1 : Int32))) G (COF.f (k := 21) rfl hK)
theorem koj_X3_waits_52 {fu : Nat} {F0 : PF} (x1 : Int32) (z0 : Int32) (z1 : Int32) (F : PF) (G : PG) (hK : COF F0 F) : PP (cb_X3_waits_52 fu x1 z0 z1 F G) (fun _ F' _ => COF F0 F') := by
  unfold cb_X3_waits_52
  refine PP.ix (fun _ => ?_)
  exact koj_X3_waits_53 x1 F (gup G 20 z1.toNatClampNeg z0) hK
theorem koj_X3_waits_48 {fu : Nat} {F0 : PF} (x1 : Int32) (z0 : Int32) (z2 : Int32) (F : PF) (G : PG) (hK : COF F0 F) : PP (cb_X3_waits_48 fu x1 z0 z2 F G) (fun _ F' _ => COF F0 F') := by
  unfold cb_X3_waits_48
  refine PP.bind (ko_X1_addJump z0 (-1 : Int32) F G) ?_
  intro r1 F1 G1 hK1
  dsimp only
  exact koj_X3_waits_52 x1 r1 z2 F1 G1 (COF.tr hK hK1)
theorem koj_X3_waits_41 {fu : Nat} {F0 : PF} (x1 : Int32) (z1 : Int32) (F : PF) (G : PG) (hK : COF F0 F) : PP (cb_X3_waits_41 fu x1 z1 F G) (fun _ F' _ => COF F0 F') := by
  unfold cb_X3_waits_41
  exact koj_X3_waits_48 x1 (87 : Int32) z1 F G hK
theorem koj_X3_waits_46 {fu : Nat} {F0 : PF} (x1 : Int32) (z1 : Int32) (F : PF) (G : PG) (hK : COF F0 F) : PP (cb_X3_waits_46 fu x1 z1 F G) (fun _ F' _ => COF F0 F') := by
  unfold cb_X3_waits_46
  exact koj_X3_waits_48 x1 (88 : Int32) z1 F G hK
theorem koj_X3_waits_23 {fu : Nat} {F0 : PF} (x1 : Int32) (F : PF) (G : PG) (hK : COF F0 F) : PP (cb_X3_waits_23 fu x1 F G) (fun _ F' _ => COF F0 F') := by
  unfold cb_X3_waits_23
  refine PP.ite (fun c_1 => ?_) (fun c_1 => ?_)
  · skip
    exact koj_X3_waits_41 x1 (F 21) F G hK
  · skip
    exact koj_X3_waits_46 x1 (F 21) F G hK
theorem koj_X3_waits_17 {fu : Nat} {F0 : PF} (x1 : Int32) (F : PF) (G : PG) (hK : COF F0 F) : PP (cb_X3_waits_17 fu x1 F G) (fun _ F' _ => COF F0 F') := by
  unfold cb_X3_waits_17
  refine PP.ite (fun c_1 => ?_) (fun c_1 => ?_)
  · skip
    exact koj_X3_waits_23 x1 F G hK
  · skip
    exact koj_X3_waits_63 x1 F G hK
theorem koj_X3_waits_11 {fu : Nat} {F0 : PF} (x1 : Int32) (F : PF) (G : PG) (hK : COF F0 F) : PP (cb_X3_waits_11 fu x1 F G) (fun _ F' _ => COF F0 F') := by
  unfold cb_X3_waits_11
  refine PP.ite (fun c_1 => ?_) (fun c_1 => ?_)
  · skip
    exact koj_X3_waits_23 x1 F G hK
  · skip
    exact koj_X3_waits_17 x1 F G hK
theorem koj_X3_waits_10 {fu : Nat} {F0 : PF} (F : PF) (G : PG) (hK : COF F0 F) : PP (cb_X3_waits_10 fu F G) (fun _ F' _ => COF F0 F') := by
  unfold cb_X3_waits_10
  refine PP.ret ?_
  exact hK
theorem ko_X3_waits {fu : Nat} (x1 : Int32) (F : PF) (G : PG) : PP (cf_X3_waits fu x1 F G) (fun _ F' _ => COF F F') := by
  unfold cf_X3_waits
  unfold cb_X3_waits_0
  refine PP.ite (fun c_1 => ?_) (fun c_1 => ?_)
  · skip
    exact koj_X3_waits_11 x1 F G COF.rf
  · skip
    exact koj_X3_waits_10 F G COF.rf
theorem koj_X3_pass_74 {fu : Nat} {F0 : PF} (F : PF) (G : PG) (hK : COF F0 F) : PP (cb_X3_pass_74 fu F G) (fun _ F' _ => COF F0 F') := by
  unfold cb_X3_pass_74
  refine PP.ret ?_
  exact hK
theorem koj_X3_pass_71 {fu : Nat} {F0 : PF} (z0 : Int32) (F : PF) (G : PG) (hK : COF F0 F) : PP (cb_X3_pass_71 fu z0 F G) (fun _ F' _ => COF F0 F') := by
  unfold cb_X3_pass_71
  refine PP.bind (ko_X1_add z0 F G) ?_
  intro r1 F1 G1 hK1
  dsimp only
  exact koj_X3_pass_74 F1 G1 (COF.tr hK hK1)
theorem koj_X3_pass_59 {fu : Nat} {F0 : PF} (x1 : Int32) (F : PF) (G : PG) (hK : COF F0 F) : PP (cb_X3_pass_59 fu x1 F G) (fun _ F' _ => COF F0 F') := by
  unfold cb_X3_pass_59
  refine PP.bind (cw_X5_size x1 F G) ?_
  intro r1 F1 G1 hK1
  dsimp only
  exact koj_X3_pass_71 r1 F1 G1 (COF.tr hK (COF.k hK1 rfl rfl rfl rfl))
theorem koj_X3_pass_56 {fu : Nat} {F0 : PF} (x1 : Int32) (z0 : Int32) (z1 : Int32) (F : PF) (G : PG) (hK : COF F0 F) : PP (cb_X3_pass_56 fu x1 z0 z1 F G) (fun _ F' _ => COF F0 F') := by
  unfold cb_X3_pass_56
  refine PP.bind (ko_X1_addPair z1 z0 F G) ?_
  intro r1 F1 G1 hK1
  dsimp only
  exact koj_X3_pass_59 x1 F1 G1 (COF.tr hK hK1)
theorem koj_X3_pass_48 {fu : Nat} {F0 : PF} (x1 : Int32) (z0 : Int32) (F : PF) (G : PG) (hK : COF F0 F) : PP (cb_X3_pass_48 fu x1 z0 F G) (fun _ F' _ => COF F0 F') := by
  unfold cb_X3_pass_48
  refine PP.bind (cw_X5_value x1 F G) ?_
  intro r1 F1 G1 hK1
  dsimp only
  exact koj_X3_pass_56 x1 r1 z0 F1 G1 (COF.tr hK (COF.k hK1 rfl rfl rfl rfl))
theorem koj_X3_pass_46 {fu : Nat} {F0 : PF} (x1 : Int32) (F : PF) (G : PG) (hK : COF F0 F) : PP (cb_X3_pass_46 fu x1 F G) (fun _ F' _ => COF F0 F') := by
  unfold cb_X3_pass_46
  exact koj_X3_pass_48 x1 (82 : Int32) F G hK
theorem koj_X3_pass_41 {fu : Nat} {F0 : PF} (x1 : Int32) (F : PF) (G : PG) (hK : COF F0 F) : PP (cb_X3_pass_41 fu x1 F G) (fun _ F' _ => COF F0 F') := by
  unfold cb_X3_pass_41
  exact koj_X3_pass_48 x1 (81 : Int32) F G hK
theorem koj_X3_pass_38 {fu : Nat} {F0 : PF} (x1 : Int32) (z0 : Int32) (F : PF) (G : PG) (hK : COF F0 F) : PP (cb_X3_pass_38 fu x1 z0 F G) (fun _ F' _ => COF F0 F') := by
  unfold cb_X3_pass_38
  refine PP.ite (fun c_1 => ?_) (fun c_1 => ?_)
  · skip
    exact koj_X3_pass_46 x1 F G hK
  · skip
    exact koj_X3_pass_41 x1 F G hK
theorem koj_X3_pass_30 {fu : Nat} {F0 : PF} (x1 : Int32) (F : PF) (G : PG) (hK : COF F0 F) : PP (cb_X3_pass_30 fu x1 F G) (fun _ F' _ => COF F0 F') := by
  unfold cb_X3_pass_30
  refine PP.bind (cw_X5_isGlobal x1 F G) ?_
  intro r1 F1 G1 hK1
  dsimp only
  exact koj_X3_pass_38 x1 r1 F1 G1 (COF.tr hK (COF.k hK1 rfl rfl rfl rfl))
theorem koj_X3_pass_25 {fu : Nat} {F0 : PF} (x1 : Int32) (F : PF) (G : PG) (hK : COF F0 F) : PP (cb_X3_pass_25 fu x1 F G) (fun _ F' _ => COF F0 F') := by
  unfold cb_X3_pass_25
  exact koj_X3_pass_48 x1 (83 : Int32) F G hK
theorem koj_X3_pass_16 {fu : Nat} {F0 : PF} (x1 : Int32) (z0 : Int32) (F : PF) (G : PG) (hK : COF F0 F) : PP (cb_X3_pass_16 fu x1 z0 F G) (fun _ F' _ => COF F0 F') := by
  unfold cb_X3_pass_16
  refine PP.ite (fun c_1 => ?_) (fun c_1 => ?_)
  · skip
    exact koj_X3_pass_30 x1 F G hK
  · skip
    exact koj_X3_pass_25 x1 F G hK
theorem koj_X3_pass_11 {fu : Nat} {F0 : PF} (x1 : Int32) (F : PF) (G : PG) (hK : COF F0 F) : PP (cb_X3_pass_11 fu x1 F G) (fun _ F' _ => COF F0 F') := by
  unfold cb_X3_pass_11
  exact koj_X3_pass_16 x1 (1 : Int32) F G hK
theorem koj_X3_pass_15 {fu : Nat} {F0 : PF} (x1 : Int32) (F : PF) (G : PG) (hK : COF F0 F) : PP (cb_X3_pass_15 fu x1 F G) (fun _ F' _ => COF F0 F') := by
  unfold cb_X3_pass_15
  exact koj_X3_pass_16 x1 (0 : Int32) F G hK
theorem koj_X3_pass_8 {fu : Nat} {F0 : PF} (x1 : Int32) (z0 : Int32) (F : PF) (G : PG) (hK : COF F0 F) : PP (cb_X3_pass_8 fu x1 z0 F G) (fun _ F' _ => COF F0 F') := by
  unfold cb_X3_pass_8
  refine PP.ite (fun c_1 => ?_) (fun c_1 => ?_)
  · skip
    exact koj_X3_pass_11 x1 F G hK
  · skip
    exact koj_X3_pass_15 x1 F G hK
theorem ko_X3_pass {fu : Nat} (x1 : Int32) (F : PF) (G : PG) : PP (cf_X3_pass fu x1 F G) (fun _ F' _ => COF F F') := by
  unfold cf_X3_pass
  unfold cb_X3_pass_0
  refine PP.bind (cw_X5_size x1 F G) ?_
  intro r1 F1 G1 hK1
  dsimp only
  exact koj_X3_pass_8 x1 r1 F1 G1 (COF.tr COF.rf (COF.k hK1 rfl rfl rfl rfl))
theorem koj_X3_fetch_26 {fu : Nat} {F0 : PF} (F : PF) (G : PG) (hK : COF F0 F) : PP (cb_X3_fetch_26 fu F G) (fun _ F' _ => COF F0 F') := by
  unfold cb_X3_fetch_26
  refine PP.ret ?_
  exact hK
theorem koj_X3_fetch_23 {fu : Nat} {F0 : PF} (z0 : Int32) (F : PF) (G : PG) (hK : COF F0 F) : PP (cb_X3_fetch_23 fu z0 F G) (fun _ F' _ => COF F0 F') := by
  unfold cb_X3_fetch_23
  refine PP.bind (ko_X1_add z0 F G) ?_
  intro r1 F1 G1 hK1
  dsimp only
  exact koj_X3_fetch_26 F1 G1 (COF.tr hK hK1)
theorem koj_X3_fetch_16 {fu : Nat} {F0 : PF} (F : PF) (G : PG) (hK : COF F0 F) : PP (cb_X3_fetch_16 fu F G) (fun _ F' _ => COF F0 F') := by
  unfold cb_X3_fetch_16
  exact koj_X3_fetch_23 (78 : Int32) F G hK
theorem koj_X3_fetch_21 {fu : Nat} {F0 : PF} (F : PF) (G : PG) (hK : COF F0 F) : PP (cb_X3_fetch_21 fu F G) (fun _ F' _ => COF F0 F') := by
  unfold cb_X3_fetch_21
  exact koj_X3_fetch_23 (77 : Int32) F G hK
theorem koj_X3_fetch_12 {fu : Nat} {F0 : PF} (z0 : Int32) (F : PF) (G : PG) (hK : COF F0 F) : PP (cb_X3_fetch_12 fu z0 F G) (fun _ F' _ => COF F0 F') := by
  unfold cb_X3_fetch_12
  refine PP.ite (fun c_1 => ?_) (fun c_1 => ?_)
  · skip
    exact koj_X3_fetch_16 F G hK
  · skip
    exact koj_X3_fetch_21 F G hK
theorem ko_X3_fetch {fu : Nat} (x1 : Int32) (F : PF) (G : PG) : PP (cf_X3_fetch fu x1 F G) (fun _ F' _ => COF F F') := by
  unfold cf_X3_fetch
  unfold cb_X3_fetch_0
  refine PP.bind (cw_X5_kind x1 F G) ?_
  intro r1 F1 G1 hK1
  dsimp only
  exact koj_X3_fetch_12 r1 F1 G1 (COF.tr COF.rf (COF.k hK1 rfl rfl rfl rfl))
theorem koj_X3_load_65 {fu : Nat} {F0 : PF} (F : PF) (G : PG) (hK : COF F0 F) : PP (cb_X3_load_65 fu F G) (fun _ F' _ => COF F0 F') := by
  unfold cb_X3_load_65
  refine PP.ret ?_
  exact hK
theorem koj_X3_load_45 {fu : Nat} {F0 : PF} (F : PF) (G : PG) (hK : COF F0 F) : PP (cb_X3_load_45 fu F G) (fun _ F' _ => COF F0 F') := by
  unfold cb_X3_load_45
  exact koj_X3_load_65 F G hK
theorem koj_X3_load_42 {fu : Nat} {F0 : PF} (z0 : Int32) (z1 : Int32) (F : PF) (G : PG) (hK : COF F0 F) : PP (cb_X3_load_42 fu z0 z1 F G) (fun _ F' _ => COF F0 F') := by
  unfold cb_X3_load_42
  refine PP.bind (ko_X1_addPair z1 z0 F G) ?_
  intro r1 F1 G1 hK1
  dsimp only
  exact koj_X3_load_45 F1 G1 (COF.tr hK hK1)
theorem koj_X3_load_34 {fu : Nat} {F0 : PF} (x1 : Int32) (z0 : Int32) (F : PF) (G : PG) (hK : COF F0 F) : PP (cb_X3_load_34 fu x1 z0 F G) (fun _ F' _ => COF F0 F') := by
  unfold cb_X3_load_34
  refine PP.bind (cw_X5_value x1 F G) ?_
  intro r1 F1 G1 hK1
  dsimp only
  exact koj_X3_load_42 r1 z0 F1 G1 (COF.tr hK (COF.k hK1 rfl rfl rfl rfl))
theorem koj_X3_load_32 {fu : Nat} {F0 : PF} (x1 : Int32) (F : PF) (G : PG) (hK : COF F0 F) : PP (cb_X3_load_32 fu x1 F G) (fun _ F' _ => COF F0 F') := by
  unfold cb_X3_load_32
  exact koj_X3_load_34 x1 (70 : Int32) F G hK
theorem koj_X3_load_27 {fu : Nat} {F0 : PF} (x1 : Int32) (F : PF) (G : PG) (hK : COF F0 F) : PP (cb_X3_load_27 fu x1 F G) (fun _ F' _ => COF F0 F') := by
  unfold cb_X3_load_27
  exact koj_X3_load_34 x1 (69 : Int32) F G hK
theorem koj_X3_load_24 {fu : Nat} {F0 : PF} (x1 : Int32) (z0 : Int32) (F : PF) (G : PG) (hK : COF F0 F) : PP (cb_X3_load_24 fu x1 z0 F G) (fun _ F' _ => COF F0 F') := by
  unfold cb_X3_load_24
  refine PP.ite (fun c_1 => ?_) (fun c_1 => ?_)
  · skip
    exact koj_X3_load_32 x1 F G hK
  · skip
    exact koj_X3_load_27 x1 F G hK
theorem koj_X3_load_12 {fu : Nat} {F0 : PF} (x1 : Int32) (F : PF) (G : PG) (hK : COF F0 F) : PP (cb_X3_load_12 fu x1 F G) (fun _ F' _ => COF F0 F') := by
  unfold cb_X3_load_12
  refine PP.bind (cw_X5_isGlobal x1 F G) ?_
  intro r1 F1 G1 hK1
  dsimp only
  exact koj_X3_load_24 x1 r1 F1 G1 (COF.tr hK (COF.k hK1 rfl rfl rfl rfl))
theorem koj_X3_load_62 {fu : Nat} {F0 : PF} (z0 : Int32) (z1 : Int32) (F : PF) (G : PG) (hK : COF F0 F) : PP (cb_X3_load_62 fu z0 z1 F G) (fun _ F' _ => COF F0 F') := by
  unfold cb_X3_load_62
  refine PP.bind (ko_X1_addPair z1 z0 F G) ?_
  intro r1 F1 G1 hK1
  dsimp only
  exact koj_X3_load_65 F1 G1 (COF.tr hK hK1)
theorem koj_X3_load_48 {fu : Nat} {F0 : PF} (x1 : Int32) (F : PF) (G : PG) (hK : COF F0 F) : PP (cb_X3_load_48 fu x1 F G) (fun _ F' _ => COF F0 F') := by
  unfold cb_X3_load_48
  refine PP.bind (cw_X5_value x1 F G) ?_
  intro r1 F1 G1 hK1
  dsimp only
  exact koj_X3_load_62 r1 (66 : Int32) F1 G1 (COF.tr hK (COF.k hK1 rfl rfl rfl rfl))
theorem koj_X3_load_8 {fu : Nat} {F0 : PF} (x1 : Int32) (z0 : Int32) (F : PF) (G : PG) (hK : COF F0 F) : PP (cb_X3_load_8 fu x1 z0 F G) (fun _ F' _ => COF F0 F') := by
  unfold cb_X3_load_8
  refine PP.ite (fun c_1 => ?_) (fun c_1 => ?_)
  · skip
    exact koj_X3_load_12 x1 F G hK
  · skip
    exact koj_X3_load_48 x1 F G hK
theorem ko_X3_load {fu : Nat} (x1 : Int32) (F : PF) (G : PG) : PP (cf_X3_load fu x1 F G) (fun _ F' _ => COF F F') := by
  unfold cf_X3_load
  unfold cb_X3_load_0
  refine PP.bind (cw_X5_kind x1 F G) ?_
  intro r1 F1 G1 hK1
  dsimp only
  exact koj_X3_load_8 x1 r1 F1 G1 (COF.tr COF.rf (COF.k hK1 rfl rfl rfl rfl))
def kOI1 (rc : RC) : Prop := ∀ (i : Nat) (x y : Int32) (F : PF) (G : PG), PP (rc i x y F G) (fun _ F' _ => COF F F')
theorem koj_X3_call_48 {fu : Nat} (rc : RC) (ih : kOI1 rc) {F0 : PF} (F : PF) (G : PG) (hK : COF F0 F) : PP (cb_X3_call_48 fu rc F G) (fun _ F' _ => COF F0 F') := by
  unfold cb_X3_call_48
  refine PP.ret ?_
  exact hK
theorem koj_X3_call_308 {fu : Nat} (rc : RC) (ih : kOI1 rc) {F0 : PF} (F : PF) (G : PG) (hK : COF F0 F) : PP (cb_X3_call_308 fu rc F G) (fun _ F' _ => COF F0 F') := by
  unfold cb_X3_call_308
  refine PP.ret ?_
  exact hK
theorem koj_X3_call_300 {fu : Nat} (rc : RC) (ih : kOI1 rc) {F0 : PF} (x2 : Int32) (F : PF) (G : PG) (hK : COF F0 F) : PP (cb_X3_call_300 fu rc x2 F G) (fun _ F' _ => COF F0 F') := by
  unfold cb_X3_call_300
  refine PP.bind (ko_X1_add x2 F G) ?_
  intro r1 F1 G1 hK1
  dsimp only
  exact koj_X3_call_308 rc ih F1 G1 (COF.tr hK hK1)
theorem koj_X3_call_289 {fu : Nat} (rc : RC) (ih : kOI1 rc) {F0 : PF} (x2 : Int32) (x4 : Int32) (F : PF) (G : PG) (hK : COF F0 F) : PP (cb_X3_call_289 fu rc x2 x4 F G) (fun _ F' _ => COF F0 F') := by
  unfold cb_X3_call_289
  refine PP.bind (ko_X1_addPair (90 : Int32) x4 F G) ?_
  intro r1 F1 G1 hK1
  dsimp only
  exact koj_X3_call_300 rc ih x2 F1 G1 (COF.tr hK hK1)
theorem koj_X3_call_280 {fu : Nat} (rc : RC) (ih : kOI1 rc) {F0 : PF} (x2 : Int32) (x4 : Int32) (F : PF) (G : PG) (hK : COF F0 F) : PP (cb_X3_call_280 fu rc x2 x4 F G) (fun _ F' _ => COF F0 F') := by
  unfold cb_X3_call_280
  refine PP.bind (cw_X2_closesWith (20 : Int32) F G) ?_
  intro r1 F1 G1 hK1
  dsimp only
  exact koj_X3_call_289 rc ih x2 x4 F1 G1 (COF.tr hK (COF.k hK1 rfl rfl rfl rfl))
theorem koj_X3_call_265 {fu : Nat} (rc : RC) (ih : kOI1 rc) {F0 : PF} (x2 : Int32) (x4 : Int32) (F : PF) (G : PG) (hK : COF F0 F) : PP (cb_X3_call_265 fu rc x2 x4 F G) (fun _ F' _ => COF F0 F') := by
  unfold cb_X3_call_265
  refine PP.bind (cw_X5_note (2 : Int32) (F 13) F G) ?_
  intro r1 F1 G1 hK1
  dsimp only
  exact koj_X3_call_280 rc ih x2 x4 F1 G1 (COF.tr hK (COF.k hK1 rfl rfl rfl rfl))
theorem koj_X3_call_261 {fu : Nat} (rc : RC) (ih : kOI1 rc) {F0 : PF} (x2 : Int32) (x4 : Int32) (z0 : Int32) (F : PF) (G : PG) (hK : COF F0 F) : PP (cb_X3_call_261 fu rc x2 x4 z0 F G) (fun _ F' _ => COF F0 F') := by
  unfold cb_X3_call_261
  refine PP.ite (fun c_1 => ?_) (fun c_1 => ?_)
  · skip
    exact koj_X3_call_280 rc ih x2 x4 F G hK
  · skip
    exact koj_X3_call_265 rc ih x2 x4 F G hK
theorem koj_X3_call_250 {fu : Nat} (rc : RC) (ih : kOI1 rc) {F0 : PF} (x2 : Int32) (x4 : Int32) (x5 : Int32) (F : PF) (G : PG) (hK : COF F0 F) : PP (cb_X3_call_250 fu rc x2 x4 x5 F G) (fun _ F' _ => COF F0 F') := by
  unfold cb_X3_call_250
  refine PP.bind (cw_X8_formalKind x4 x5 F G) ?_
  intro r1 F1 G1 hK1
  dsimp only
  exact koj_X3_call_261 rc ih x2 x4 r1 F1 G1 (COF.tr hK (COF.k hK1 rfl rfl rfl rfl))
theorem koj_X3_call_246 {fu : Nat} (rc : RC) (ih : kOI1 rc) {F0 : PF} (x2 : Int32) (x3 : Int32) (x4 : Int32) (x5 : Int32) (F : PF) (G : PG) (hK : COF F0 F) : PP (cb_X3_call_246 fu rc x2 x3 x4 x5 F G) (fun _ F' _ => COF F0 F') := by
  unfold cb_X3_call_246
  refine PP.ite (fun c_1 => ?_) (fun c_1 => ?_)
  · skip
    exact koj_X3_call_280 rc ih x2 x4 F G hK
  · skip
    exact koj_X3_call_250 rc ih x2 x4 x5 F G hK
theorem koj_X3_call_240 {fu : Nat} (rc : RC) (ih : kOI1 rc) {F0 : PF} (ag_74 : Int32 → Int32 → Int32 → Int32 → Int32 → Int32 → PF → PG → PR) (hag_74 : ∀ (x2 : Int32) (x3 : Int32) (x4 : Int32) (x5 : Int32) (x6 : Int32) (x7 : Int32) (F : PF) (G : PG) (hK : COF F0 F), PP (ag_74 x2 x3 x4 x5 x6 x7 F G) (fun _ F' _ => COF F0 F')) (x2 : Int32) (x3 : Int32) (x4 : Int32) (x5 : Int32) (x6 : Int32) (x7 : Int32) (F : PF) (G : PG) (hK : COF F0 F) : PP (cb_X3_call_240 fu rc ag_74 x2 x3 x4 x5 x6 x7 F G) (fun _ F' _ => COF F0 F') := by
  unfold cb_X3_call_240
  exact hag_74 x2 x3 x4 x5 x6 (x7 + (1 : Int32)) F G hK
theorem koj_X3_call_233 {fu : Nat} (rc : RC) (ih : kOI1 rc) {F0 : PF} (ag_74 : Int32 → Int32 → Int32 → Int32 → Int32 → Int32 → PF → PG → PR) (hag_74 : ∀ (x2 : Int32) (x3 : Int32) (x4 : Int32) (x5 : Int32) (x6 : Int32) (x7 : Int32) (F : PF) (G : PG) (hK : COF F0 F), PP (ag_74 x2 x3 x4 x5 x6 x7 F G) (fun _ F' _ => COF F0 F')) (x2 : Int32) (x3 : Int32) (x4 : Int32) (x5 : Int32) (x6 : Int32) (x7 : Int32) (F : PF) (G : PG) (hK : COF F0 F) : PP (cb_X3_call_233 fu rc ag_74 x2 x3 x4 x5 x6 x7 F G) (fun _ F' _ => COF F0 F') := by
  unfold cb_X3_call_233
  refine PP.bind (cw_X2_next F G) ?_
  intro r1 F1 G1 hK1
  dsimp only
  exact koj_X3_call_240 rc ih ag_74 hag_74 x2 x3 x4 x5 x6 x7 F1 G1 (COF.tr hK (COF.k hK1 rfl rfl rfl rfl))
theorem koj_X3_call_226 {fu : Nat} (rc : RC) (ih : kOI1 rc) {F0 : PF} (ag_74 : Int32 → Int32 → Int32 → Int32 → Int32 → Int32 → PF → PG → PR) (hag_74 : ∀ (x2 : Int32) (x3 : Int32) (x4 : Int32) (x5 : Int32) (x6 : Int32) (x7 : Int32) (F : PF) (G : PG) (hK : COF F0 F), PP (ag_74 x2 x3 x4 x5 x6 x7 F G) (fun _ F' _ => COF F0 F')) (x2 : Int32) (x3 : Int32) (x4 : Int32) (x5 : Int32) (x7 : Int32) (z0 : Int32) (F : PF) (G : PG) (hK : COF F0 F) : PP (cb_X3_call_226 fu rc ag_74 x2 x3 x4 x5 x7 z0 F G) (fun _ F' _ => COF F0 F') := by
  unfold cb_X3_call_226
  refine PP.ite (fun c_1 => ?_) (fun c_1 => ?_)
  · skip
    exact koj_X3_call_240 rc ih ag_74 hag_74 x2 x3 x4 x5 z0 x7 F G hK
  · skip
    exact koj_X3_call_233 rc ih ag_74 hag_74 x2 x3 x4 x5 z0 x7 F G hK
theorem koj_X3_call_221 {fu : Nat} (rc : RC) (ih : kOI1 rc) {F0 : PF} (ag_74 : Int32 → Int32 → Int32 → Int32 → Int32 → Int32 → PF → PG → PR) (hag_74 : ∀ (x2 : Int32) (x3 : Int32) (x4 : Int32) (x5 : Int32) (x6 : Int32) (x7 : Int32) (F : PF) (G : PG) (hK : COF F0 F), PP (ag_74 x2 x3 x4 x5 x6 x7 F G) (fun _ F' _ => COF F0 F')) (x2 : Int32) (x3 : Int32) (x4 : Int32) (x5 : Int32) (x7 : Int32) (F : PF) (G : PG) (hK : COF F0 F) : PP (cb_X3_call_221 fu rc ag_74 x2 x3 x4 x5 x7 F G) (fun _ F' _ => COF F0 F') := by
  unfold cb_X3_call_221
  exact koj_X3_call_226 rc ih ag_74 hag_74 x2 x3 x4 x5 x7 (1 : Int32) F G hK
theorem koj_X3_call_225 {fu : Nat} (rc : RC) (ih : kOI1 rc) {F0 : PF} (ag_74 : Int32 → Int32 → Int32 → Int32 → Int32 → Int32 → PF → PG → PR) (hag_74 : ∀ (x2 : Int32) (x3 : Int32) (x4 : Int32) (x5 : Int32) (x6 : Int32) (x7 : Int32) (F : PF) (G : PG) (hK : COF F0 F), PP (ag_74 x2 x3 x4 x5 x6 x7 F G) (fun _ F' _ => COF F0 F')) (x2 : Int32) (x3 : Int32) (x4 : Int32) (x5 : Int32) (x7 : Int32) (F : PF) (G : PG) (hK : COF F0 F) : PP (cb_X3_call_225 fu rc ag_74 x2 x3 x4 x5 x7 F G) (fun _ F' _ => COF F0 F') := by
  unfold cb_X3_call_225
  exact koj_X3_call_226 rc ih ag_74 hag_74 x2 x3 x4 x5 x7 (0 : Int32) F G hK
theorem koj_X3_call_206 {fu : Nat} (rc : RC) (ih : kOI1 rc) {F0 : PF} (ag_74 : Int32 → Int32 → Int32 → Int32 → Int32 → Int32 → PF → PG → PR) (hag_74 : ∀ (x2 : Int32) (x3 : Int32) (x4 : Int32) (x5 : Int32) (x6 : Int32) (x7 : Int32) (F : PF) (G : PG) (hK : COF F0 F), PP (ag_74 x2 x3 x4 x5 x6 x7 F G) (fun _ F' _ => COF F0 F')) (x2 : Int32) (x3 : Int32) (x4 : Int32) (x5 : Int32) (x7 : Int32) (F : PF) (G : PG) (hK : COF F0 F) : PP (cb_X3_call_206 fu rc ag_74 x2 x3 x4 x5 x7 F G) (fun _ F' _ => COF F0 F') := by
  unfold cb_X3_call_206
  refine PP.ite (fun c_1 => ?_) (fun c_1 => ?_)
  · skip
    exact koj_X3_call_221 rc ih ag_74 hag_74 x2 x3 x4 (x5 + (1 : Int32)) x7 F G hK
  · skip
    exact koj_X3_call_225 rc ih ag_74 hag_74 x2 x3 x4 (x5 + (1 : Int32)) x7 F G hK
theorem koj_X3_call_202 {fu : Nat} (rc : RC) (ih : kOI1 rc) {F0 : PF} (ag_74 : Int32 → Int32 → Int32 → Int32 → Int32 → Int32 → PF → PG → PR) (hag_74 : ∀ (x2 : Int32) (x3 : Int32) (x4 : Int32) (x5 : Int32) (x6 : Int32) (x7 : Int32) (F : PF) (G : PG) (hK : COF F0 F), PP (ag_74 x2 x3 x4 x5 x6 x7 F G) (fun _ F' _ => COF F0 F')) (x2 : Int32) (x3 : Int32) (x4 : Int32) (x5 : Int32) (x7 : Int32) (F : PF) (G : PG) (hK : COF F0 F) : PP (cb_X3_call_202 fu rc ag_74 x2 x3 x4 x5 x7 F G) (fun _ F' _ => COF F0 F') := by
  unfold cb_X3_call_202
  refine PP.bind (ih 1 0 0 F G) ?_
  intro r1 F1 G1 hK1
  dsimp only
  exact koj_X3_call_206 rc ih ag_74 hag_74 x2 x3 x4 x5 x7 F1 G1 (COF.tr hK hK1)
theorem koj_X3_call_187 {fu : Nat} (rc : RC) (ih : kOI1 rc) {F0 : PF} (ag_74 : Int32 → Int32 → Int32 → Int32 → Int32 → Int32 → PF → PG → PR) (hag_74 : ∀ (x2 : Int32) (x3 : Int32) (x4 : Int32) (x5 : Int32) (x6 : Int32) (x7 : Int32) (F : PF) (G : PG) (hK : COF F0 F), PP (ag_74 x2 x3 x4 x5 x6 x7 F G) (fun _ F' _ => COF F0 F')) (x2 : Int32) (x3 : Int32) (x4 : Int32) (x5 : Int32) (x7 : Int32) (F : PF) (G : PG) (hK : COF F0 F) : PP (cb_X3_call_187 fu rc ag_74 x2 x3 x4 x5 x7 F G) (fun _ F' _ => COF F0 F') := by
  unfold cb_X3_call_187
  refine PP.bind (cw_X5_note (2 : Int32) (F 13) F G) ?_
  intro r1 F1 G1 hK1
  dsimp only
  exact koj_X3_call_202 rc ih ag_74 hag_74 x2 x3 x4 x5 x7 F1 G1 (COF.tr hK (COF.k hK1 rfl rfl rfl rfl))
theorem koj_X3_call_181 {fu : Nat} (rc : RC) (ih : kOI1 rc) {F0 : PF} (ag_74 : Int32 → Int32 → Int32 → Int32 → Int32 → Int32 → PF → PG → PR) (hag_74 : ∀ (x2 : Int32) (x3 : Int32) (x4 : Int32) (x5 : Int32) (x6 : Int32) (x7 : Int32) (F : PF) (G : PG) (hK : COF F0 F), PP (ag_74 x2 x3 x4 x5 x6 x7 F G) (fun _ F' _ => COF F0 F')) (x2 : Int32) (x3 : Int32) (x4 : Int32) (x5 : Int32) (x7 : Int32) (x8 : Int32) (F : PF) (G : PG) (hK : COF F0 F) : PP (cb_X3_call_181 fu rc ag_74 x2 x3 x4 x5 x7 x8 F G) (fun _ F' _ => COF F0 F') := by
  unfold cb_X3_call_181
  refine PP.ite (fun c_1 => ?_) (fun c_1 => ?_)
  · skip
    exact koj_X3_call_202 rc ih ag_74 hag_74 x2 x3 x4 x5 x7 F G hK
  · skip
    exact koj_X3_call_187 rc ih ag_74 hag_74 x2 x3 x4 x5 x7 F G hK
theorem koj_X3_call_178 {fu : Nat} (rc : RC) (ih : kOI1 rc) {F0 : PF} (ag_74 : Int32 → Int32 → Int32 → Int32 → Int32 → Int32 → PF → PG → PR) (hag_74 : ∀ (x2 : Int32) (x3 : Int32) (x4 : Int32) (x5 : Int32) (x6 : Int32) (x7 : Int32) (F : PF) (G : PG) (hK : COF F0 F), PP (ag_74 x2 x3 x4 x5 x6 x7 F G) (fun _ F' _ => COF F0 F')) (x2 : Int32) (x3 : Int32) (x4 : Int32) (x5 : Int32) (x7 : Int32) (F : PF) (G : PG) (hK : COF F0 F) : PP (cb_X3_call_178 fu rc ag_74 x2 x3 x4 x5 x7 F G) (fun _ F' _ => COF F0 F') := by
  unfold cb_X3_call_178
  exact koj_X3_call_206 rc ih ag_74 hag_74 x2 x3 x4 x5 x7 F G hK
theorem koj_X3_call_171 {fu : Nat} (rc : RC) (ih : kOI1 rc) {F0 : PF} (ag_74 : Int32 → Int32 → Int32 → Int32 → Int32 → Int32 → PF → PG → PR) (hag_74 : ∀ (x2 : Int32) (x3 : Int32) (x4 : Int32) (x5 : Int32) (x6 : Int32) (x7 : Int32) (F : PF) (G : PG) (hK : COF F0 F), PP (ag_74 x2 x3 x4 x5 x6 x7 F G) (fun _ F' _ => COF F0 F')) (x2 : Int32) (x3 : Int32) (x4 : Int32) (x5 : Int32) (x7 : Int32) (F : PF) (G : PG) (hK : COF F0 F) : PP (cb_X3_call_171 fu rc ag_74 x2 x3 x4 x5 x7 F G) (fun _ F' _ => COF F0 F') := by
  unfold cb_X3_call_171
  refine PP.bind (cw_X2_next F G) ?_
  intro r1 F1 G1 hK1
  dsimp only
  exact koj_X3_call_178 rc ih ag_74 hag_74 x2 x3 x4 x5 x7 F1 G1 (COF.tr hK (COF.k hK1 rfl rfl rfl rfl))
theorem koj_X3_call_165 {fu : Nat} (rc : RC) (ih : kOI1 rc) {F0 : PF} (ag_74 : Int32 → Int32 → Int32 → Int32 → Int32 → Int32 → PF → PG → PR) (hag_74 : ∀ (x2 : Int32) (x3 : Int32) (x4 : Int32) (x5 : Int32) (x6 : Int32) (x7 : Int32) (F : PF) (G : PG) (hK : COF F0 F), PP (ag_74 x2 x3 x4 x5 x6 x7 F G) (fun _ F' _ => COF F0 F')) (x2 : Int32) (x3 : Int32) (x4 : Int32) (x5 : Int32) (x7 : Int32) (x9 : Int32) (F : PF) (G : PG) (hK : COF F0 F) : PP (cb_X3_call_165 fu rc ag_74 x2 x3 x4 x5 x7 x9 F G) (fun _ F' _ => COF F0 F') := by
  unfold cb_X3_call_165
  refine PP.bind (ko_X3_pass x9 F G) ?_
  intro r1 F1 G1 hK1
  dsimp only
  exact koj_X3_call_171 rc ih ag_74 hag_74 x2 x3 x4 x5 x7 F1 G1 (COF.tr hK hK1)
theorem koj_X3_call_145 {fu : Nat} (rc : RC) (ih : kOI1 rc) {F0 : PF} (ag_74 : Int32 → Int32 → Int32 → Int32 → Int32 → Int32 → PF → PG → PR) (hag_74 : ∀ (x2 : Int32) (x3 : Int32) (x4 : Int32) (x5 : Int32) (x6 : Int32) (x7 : Int32) (F : PF) (G : PG) (hK : COF F0 F), PP (ag_74 x2 x3 x4 x5 x6 x7 F G) (fun _ F' _ => COF F0 F')) (x2 : Int32) (x3 : Int32) (x4 : Int32) (x5 : Int32) (x7 : Int32) (x8 : Int32) (z0 : Int32) (F : PF) (G : PG) (hK : COF F0 F) : PP (cb_X3_call_145 fu rc ag_74 x2 x3 x4 x5 x7 x8 z0 F G) (fun _ F' _ => COF F0 F') := by
  unfold cb_X3_call_145
  refine PP.bind (cw_X5_wantArray z0 (F 13) x8 F G) ?_
  intro r1 F1 G1 hK1
  dsimp only
  exact koj_X3_call_165 rc ih ag_74 hag_74 x2 x3 x4 x5 x7 z0 F1 G1 (COF.tr hK (COF.k hK1 rfl rfl rfl rfl))
theorem koj_X3_call_124 {fu : Nat} (rc : RC) (ih : kOI1 rc) {F0 : PF} (ag_74 : Int32 → Int32 → Int32 → Int32 → Int32 → Int32 → PF → PG → PR) (hag_74 : ∀ (x2 : Int32) (x3 : Int32) (x4 : Int32) (x5 : Int32) (x6 : Int32) (x7 : Int32) (F : PF) (G : PG) (hK : COF F0 F), PP (ag_74 x2 x3 x4 x5 x6 x7 F G) (fun _ F' _ => COF F0 F')) (x2 : Int32) (x3 : Int32) (x4 : Int32) (x5 : Int32) (x7 : Int32) (x8 : Int32) (F : PF) (G : PG) (hK : COF F0 F) : PP (cb_X3_call_124 fu rc ag_74 x2 x3 x4 x5 x7 x8 F G) (fun _ F' _ => COF F0 F') := by
  unfold cb_X3_call_124
  refine PP.bind (cw_X5_meant (F 12) (F 13) F G) ?_
  intro r1 F1 G1 hK1
  dsimp only
  exact koj_X3_call_145 rc ih ag_74 hag_74 x2 x3 x4 x5 x7 x8 r1 F1 G1 (COF.tr hK (COF.k hK1 rfl rfl rfl rfl))
theorem koj_X3_call_121 {fu : Nat} (rc : RC) (ih : kOI1 rc) {F0 : PF} (ag_74 : Int32 → Int32 → Int32 → Int32 → Int32 → Int32 → PF → PG → PR) (hag_74 : ∀ (x2 : Int32) (x3 : Int32) (x4 : Int32) (x5 : Int32) (x6 : Int32) (x7 : Int32) (F : PF) (G : PG) (hK : COF F0 F), PP (ag_74 x2 x3 x4 x5 x6 x7 F G) (fun _ F' _ => COF F0 F')) (x2 : Int32) (x3 : Int32) (x4 : Int32) (x5 : Int32) (x7 : Int32) (x8 : Int32) (z0 : Int32) (F : PF) (G : PG) (hK : COF F0 F) : PP (cb_X3_call_121 fu rc ag_74 x2 x3 x4 x5 x7 x8 z0 F G) (fun _ F' _ => COF F0 F') := by
  unfold cb_X3_call_121
  refine PP.ite (fun c_1 => ?_) (fun c_1 => ?_)
  · skip
    exact koj_X3_call_181 rc ih ag_74 hag_74 x2 x3 x4 x5 x7 x8 F G hK
  · skip
    exact koj_X3_call_124 rc ih ag_74 hag_74 x2 x3 x4 x5 x7 x8 F G hK
theorem koj_X3_call_114 {fu : Nat} (rc : RC) (ih : kOI1 rc) {F0 : PF} (ag_74 : Int32 → Int32 → Int32 → Int32 → Int32 → Int32 → PF → PG → PR) (hag_74 : ∀ (x2 : Int32) (x3 : Int32) (x4 : Int32) (x5 : Int32) (x6 : Int32) (x7 : Int32) (F : PF) (G : PG) (hK : COF F0 F), PP (ag_74 x2 x3 x4 x5 x6 x7 F G) (fun _ F' _ => COF F0 F')) (x2 : Int32) (x3 : Int32) (x4 : Int32) (x5 : Int32) (x7 : Int32) (x8 : Int32) (F : PF) (G : PG) (hK : COF F0 F) : PP (cb_X3_call_114 fu rc ag_74 x2 x3 x4 x5 x7 x8 F G) (fun _ F' _ => COF F0 F') := by
  unfold cb_X3_call_114
  refine PP.bind (cw_X2_isNameAlone F G) ?_
  intro r1 F1 G1 hK1
  dsimp only
  exact koj_X3_call_121 rc ih ag_74 hag_74 x2 x3 x4 x5 x7 x8 r1 F1 G1 (COF.tr hK (COF.k hK1 rfl rfl rfl rfl))
theorem koj_X3_call_106 {fu : Nat} (rc : RC) (ih : kOI1 rc) {F0 : PF} (ag_74 : Int32 → Int32 → Int32 → Int32 → Int32 → Int32 → PF → PG → PR) (hag_74 : ∀ (x2 : Int32) (x3 : Int32) (x4 : Int32) (x5 : Int32) (x6 : Int32) (x7 : Int32) (F : PF) (G : PG) (hK : COF F0 F), PP (ag_74 x2 x3 x4 x5 x6 x7 F G) (fun _ F' _ => COF F0 F')) (x2 : Int32) (x3 : Int32) (x4 : Int32) (x5 : Int32) (x7 : Int32) (z0 : Int32) (F : PF) (G : PG) (hK : COF F0 F) : PP (cb_X3_call_106 fu rc ag_74 x2 x3 x4 x5 x7 z0 F G) (fun _ F' _ => COF F0 F') := by
  unfold cb_X3_call_106
  refine PP.ite (fun c_1 => ?_) (fun c_1 => ?_)
  · skip
    exact koj_X3_call_181 rc ih ag_74 hag_74 x2 x3 x4 x5 x7 z0 F G hK
  · skip
    exact koj_X3_call_114 rc ih ag_74 hag_74 x2 x3 x4 x5 x7 z0 F G hK
theorem koj_X3_call_105 {fu : Nat} (rc : RC) (ih : kOI1 rc) {F0 : PF} (ag_74 : Int32 → Int32 → Int32 → Int32 → Int32 → Int32 → PF → PG → PR) (hag_74 : ∀ (x2 : Int32) (x3 : Int32) (x4 : Int32) (x5 : Int32) (x6 : Int32) (x7 : Int32) (F : PF) (G : PG) (hK : COF F0 F), PP (ag_74 x2 x3 x4 x5 x6 x7 F G) (fun _ F' _ => COF F0 F')) (x2 : Int32) (x3 : Int32) (x4 : Int32) (x5 : Int32) (x7 : Int32) (F : PF) (G : PG) (hK : COF F0 F) : PP (cb_X3_call_105 fu rc ag_74 x2 x3 x4 x5 x7 F G) (fun _ F' _ => COF F0 F') := by
  unfold cb_X3_call_105
  exact koj_X3_call_106 rc ih ag_74 hag_74 x2 x3 x4 x5 x7 (1 : Int32) F G hK
theorem koj_X3_call_102 {fu : Nat} (rc : RC) (ih : kOI1 rc) {F0 : PF} (ag_74 : Int32 → Int32 → Int32 → Int32 → Int32 → Int32 → PF → PG → PR) (hag_74 : ∀ (x2 : Int32) (x3 : Int32) (x4 : Int32) (x5 : Int32) (x6 : Int32) (x7 : Int32) (F : PF) (G : PG) (hK : COF F0 F), PP (ag_74 x2 x3 x4 x5 x6 x7 F G) (fun _ F' _ => COF F0 F')) (x2 : Int32) (x3 : Int32) (x4 : Int32) (x5 : Int32) (x7 : Int32) (z0 : Int32) (F : PF) (G : PG) (hK : COF F0 F) : PP (cb_X3_call_102 fu rc ag_74 x2 x3 x4 x5 x7 z0 F G) (fun _ F' _ => COF F0 F') := by
  unfold cb_X3_call_102
  exact koj_X3_call_106 rc ih ag_74 hag_74 x2 x3 x4 x5 x7 z0 F G hK
theorem koj_X3_call_91 {fu : Nat} (rc : RC) (ih : kOI1 rc) {F0 : PF} (ag_74 : Int32 → Int32 → Int32 → Int32 → Int32 → Int32 → PF → PG → PR) (hag_74 : ∀ (x2 : Int32) (x3 : Int32) (x4 : Int32) (x5 : Int32) (x6 : Int32) (x7 : Int32) (F : PF) (G : PG) (hK : COF F0 F), PP (ag_74 x2 x3 x4 x5 x6 x7 F G) (fun _ F' _ => COF F0 F')) (x2 : Int32) (x3 : Int32) (x4 : Int32) (x5 : Int32) (x7 : Int32) (F : PF) (G : PG) (hK : COF F0 F) : PP (cb_X3_call_91 fu rc ag_74 x2 x3 x4 x5 x7 F G) (fun _ F' _ => COF F0 F') := by
  unfold cb_X3_call_91
  refine PP.bind (cw_X8_formalKind x4 x7 F G) ?_
  intro r1 F1 G1 hK1
  dsimp only
  exact koj_X3_call_102 rc ih ag_74 hag_74 x2 x3 x4 x5 x7 r1 F1 G1 (COF.tr hK (COF.k hK1 rfl rfl rfl rfl))
theorem koj_X3_call_87 {fu : Nat} (rc : RC) (ih : kOI1 rc) {F0 : PF} (ag_74 : Int32 → Int32 → Int32 → Int32 → Int32 → Int32 → PF → PG → PR) (hag_74 : ∀ (x2 : Int32) (x3 : Int32) (x4 : Int32) (x5 : Int32) (x6 : Int32) (x7 : Int32) (F : PF) (G : PG) (hK : COF F0 F), PP (ag_74 x2 x3 x4 x5 x6 x7 F G) (fun _ F' _ => COF F0 F')) (x2 : Int32) (x3 : Int32) (x4 : Int32) (x5 : Int32) (x7 : Int32) (F : PF) (G : PG) (hK : COF F0 F) : PP (cb_X3_call_87 fu rc ag_74 x2 x3 x4 x5 x7 F G) (fun _ F' _ => COF F0 F') := by
  unfold cb_X3_call_87
  refine PP.ite (fun c_1 => ?_) (fun c_1 => ?_)
  · skip
    exact koj_X3_call_105 rc ih ag_74 hag_74 x2 x3 x4 x5 x7 F G hK
  · skip
    exact koj_X3_call_91 rc ih ag_74 hag_74 x2 x3 x4 x5 x7 F G hK
theorem koj_X3_call_82 {fu : Nat} (rc : RC) (ih : kOI1 rc) {F0 : PF} (ag_74 : Int32 → Int32 → Int32 → Int32 → Int32 → Int32 → PF → PG → PR) (hag_74 : ∀ (x2 : Int32) (x3 : Int32) (x4 : Int32) (x5 : Int32) (x6 : Int32) (x7 : Int32) (F : PF) (G : PG) (hK : COF F0 F), PP (ag_74 x2 x3 x4 x5 x6 x7 F G) (fun _ F' _ => COF F0 F')) (x2 : Int32) (x3 : Int32) (x4 : Int32) (x5 : Int32) (x6 : Int32) (x7 : Int32) (F : PF) (G : PG) (hK : COF F0 F) : PP (cb_X3_call_82 fu rc ag_74 x2 x3 x4 x5 x6 x7 F G) (fun _ F' _ => COF F0 F') := by
  unfold cb_X3_call_82
  refine PP.ite (fun c_1 => ?_) (fun c_1 => ?_)
  · skip
    exact koj_X3_call_246 rc ih x2 x3 x4 x5 F G hK
  · skip
    exact koj_X3_call_87 rc ih ag_74 hag_74 x2 x3 x4 x5 x7 F G hK
theorem koz_X3_call_74 {fu : Nat} (rc : RC) (ih : kOI1 rc) {F0 : PF} : ∀ (n : Nat) (x2 : Int32) (x3 : Int32) (x4 : Int32) (x5 : Int32) (x6 : Int32) (x7 : Int32) (F : PF) (G : PG) (hK : COF F0 F), PP (cl_X3_call_74 fu rc n x2 x3 x4 x5 x6 x7 F G) (fun _ F' _ => COF F0 F') := by
  intro n
  induction n with
  | zero =>
    intro x2 x3 x4 x5 x6 x7 F G hK
    exact PP.no
  | succ n ihn =>
    intro x2 x3 x4 x5 x6 x7 F G hK
    show PP (cb_X3_call_74 fu rc (cl_X3_call_74 fu rc n) x2 x3 x4 x5 x6 x7 F G) _
    unfold cb_X3_call_74
    refine PP.ite (fun c_1 => ?_) (fun c_1 => ?_)
    · skip
      exact koj_X3_call_246 rc ih x2 x3 x4 x5 F G hK
    · skip
      exact koj_X3_call_82 rc ih (cl_X3_call_74 fu rc n) ihn x2 x3 x4 x5 x6 x7 F G hK
theorem koj_X3_call_69 {fu : Nat} (rc : RC) (ih : kOI1 rc) {F0 : PF} (x2 : Int32) (x3 : Int32) (x4 : Int32) (x5 : Int32) (z0 : Int32) (F : PF) (G : PG) (hK : COF F0 F) : PP (cb_X3_call_69 fu rc x2 x3 x4 x5 z0 F G) (fun _ F' _ => COF F0 F') := by
  unfold cb_X3_call_69
  exact koz_X3_call_74 rc ih fu x2 x3 x4 x5 z0 (0 : Int32) F G hK
theorem koj_X3_call_68 {fu : Nat} (rc : RC) (ih : kOI1 rc) {F0 : PF} (x2 : Int32) (x3 : Int32) (x4 : Int32) (x5 : Int32) (F : PF) (G : PG) (hK : COF F0 F) : PP (cb_X3_call_68 fu rc x2 x3 x4 x5 F G) (fun _ F' _ => COF F0 F') := by
  unfold cb_X3_call_68
  exact koj_X3_call_69 rc ih x2 x3 x4 x5 (0 : Int32) F G hK
theorem koj_X3_call_64 {fu : Nat} (rc : RC) (ih : kOI1 rc) {F0 : PF} (x2 : Int32) (x3 : Int32) (x4 : Int32) (x5 : Int32) (F : PF) (G : PG) (hK : COF F0 F) : PP (cb_X3_call_64 fu rc x2 x3 x4 x5 F G) (fun _ F' _ => COF F0 F') := by
  unfold cb_X3_call_64
  exact koj_X3_call_69 rc ih x2 x3 x4 x5 (1 : Int32) F G hK
theorem koj_X3_call_49 {fu : Nat} (rc : RC) (ih : kOI1 rc) {F0 : PF} (x2 : Int32) (x3 : Int32) (x4 : Int32) (F : PF) (G : PG) (hK : COF F0 F) : PP (cb_X3_call_49 fu rc x2 x3 x4 F G) (fun _ F' _ => COF F0 F') := by
  unfold cb_X3_call_49
  refine PP.ite (fun c_1 => ?_) (fun c_1 => ?_)
  · skip
    exact koj_X3_call_68 rc ih x2 x3 x4 (0 : Int32) F G hK
  · skip
    exact koj_X3_call_64 rc ih x2 x3 x4 (0 : Int32) F G hK
theorem koj_X3_call_45 {fu : Nat} (rc : RC) (ih : kOI1 rc) {F0 : PF} (x2 : Int32) (x3 : Int32) (x4 : Int32) (z0 : Int32) (F : PF) (G : PG) (hK : COF F0 F) : PP (cb_X3_call_45 fu rc x2 x3 x4 z0 F G) (fun _ F' _ => COF F0 F') := by
  unfold cb_X3_call_45
  refine PP.ite (fun c_1 => ?_) (fun c_1 => ?_)
  · skip
    exact koj_X3_call_48 rc ih F G hK
  · skip
    exact koj_X3_call_49 rc ih x2 x3 x4 F G hK
theorem koj_X3_call_34 {fu : Nat} (rc : RC) (ih : kOI1 rc) {F0 : PF} (x2 : Int32) (x3 : Int32) (z0 : Int32) (F : PF) (G : PG) (hK : COF F0 F) : PP (cb_X3_call_34 fu rc x2 x3 z0 F G) (fun _ F' _ => COF F0 F') := by
  unfold cb_X3_call_34
  refine PP.bind (cw_X2_opens (19 : Int32) F G) ?_
  intro r1 F1 G1 hK1
  dsimp only
  exact koj_X3_call_45 rc ih x2 x3 z0 r1 F1 G1 (COF.tr hK (COF.k hK1 rfl rfl rfl rfl))
theorem koj_X3_call_33 {fu : Nat} (rc : RC) (ih : kOI1 rc) {F0 : PF} (x2 : Int32) (x3 : Int32) (F : PF) (G : PG) (hK : COF F0 F) : PP (cb_X3_call_33 fu rc x2 x3 F G) (fun _ F' _ => COF F0 F') := by
  unfold cb_X3_call_33
  exact koj_X3_call_34 rc ih x2 x3 (-1 : Int32) F G hK
theorem koj_X3_call_30 {fu : Nat} (rc : RC) (ih : kOI1 rc) {F0 : PF} (x2 : Int32) (x3 : Int32) (z0 : Int32) (F : PF) (G : PG) (hK : COF F0 F) : PP (cb_X3_call_30 fu rc x2 x3 z0 F G) (fun _ F' _ => COF F0 F') := by
  unfold cb_X3_call_30
  exact koj_X3_call_34 rc ih x2 x3 z0 F G hK
theorem koj_X3_call_22 {fu : Nat} (rc : RC) (ih : kOI1 rc) {F0 : PF} (x1 : Int32) (x2 : Int32) (x3 : Int32) (F : PF) (G : PG) (hK : COF F0 F) : PP (cb_X3_call_22 fu rc x1 x2 x3 F G) (fun _ F' _ => COF F0 F') := by
  unfold cb_X3_call_22
  refine PP.bind (cw_X5_value x1 F G) ?_
  intro r1 F1 G1 hK1
  dsimp only
  exact koj_X3_call_30 rc ih x2 x3 r1 F1 G1 (COF.tr hK (COF.k hK1 rfl rfl rfl rfl))
theorem koj_X3_call_17 {fu : Nat} (rc : RC) (ih : kOI1 rc) {F0 : PF} (x1 : Int32) (x2 : Int32) (z0 : Int32) (F : PF) (G : PG) (hK : COF F0 F) : PP (cb_X3_call_17 fu rc x1 x2 z0 F G) (fun _ F' _ => COF F0 F') := by
  unfold cb_X3_call_17
  refine PP.ite (fun c_1 => ?_) (fun c_1 => ?_)
  · skip
    exact koj_X3_call_33 rc ih x2 z0 F G hK
  · skip
    exact koj_X3_call_22 rc ih x1 x2 z0 F G hK
theorem koj_X3_call_12 {fu : Nat} (rc : RC) (ih : kOI1 rc) {F0 : PF} (x1 : Int32) (x2 : Int32) (F : PF) (G : PG) (hK : COF F0 F) : PP (cb_X3_call_12 fu rc x1 x2 F G) (fun _ F' _ => COF F0 F') := by
  unfold cb_X3_call_12
  exact koj_X3_call_17 rc ih x1 x2 (1 : Int32) F G hK
theorem koj_X3_call_16 {fu : Nat} (rc : RC) (ih : kOI1 rc) {F0 : PF} (x1 : Int32) (x2 : Int32) (F : PF) (G : PG) (hK : COF F0 F) : PP (cb_X3_call_16 fu rc x1 x2 F G) (fun _ F' _ => COF F0 F') := by
  unfold cb_X3_call_16
  exact koj_X3_call_17 rc ih x1 x2 (0 : Int32) F G hK
theorem koj_X3_call_8 {fu : Nat} (rc : RC) (ih : kOI1 rc) {F0 : PF} (x1 : Int32) (x2 : Int32) (z0 : Int32) (F : PF) (G : PG) (hK : COF F0 F) : PP (cb_X3_call_8 fu rc x1 x2 z0 F G) (fun _ F' _ => COF F0 F') := by
  unfold cb_X3_call_8
  refine PP.ite (fun c_1 => ?_) (fun c_1 => ?_)
  · skip
    exact koj_X3_call_12 rc ih x1 x2 F G hK
  · skip
    exact koj_X3_call_16 rc ih x1 x2 F G hK
theorem kot_X3_call {fu : Nat} (rc : RC) (ih : kOI1 rc) (x1 : Int32) (x2 : Int32) (F : PF) (G : PG) : PP (ch_X3_call fu rc x1 x2 F G) (fun _ F' _ => COF F F') := by
  unfold ch_X3_call
  unfold cb_X3_call_0
  refine PP.bind (cw_X5_kind x1 F G) ?_
  intro r1 F1 G1 hK1
  dsimp only
  exact koj_X3_call_8 rc ih x1 x2 r1 F1 G1 (COF.tr COF.rf (COF.k hK1 rfl rfl rfl rfl))
theorem koj_X3_expression_28 {fu : Nat} (rc : RC) (ih : kOI1 rc) {F0 : PF} (F : PF) (G : PG) (hK : COF F0 F) : PP (cb_X3_expression_28 fu rc F G) (fun _ F' _ => COF F0 F') := by
  unfold cb_X3_expression_28
  refine PP.ret ?_
  exact hK
theorem koj_X3_expression_105 {fu : Nat} (rc : RC) (ih : kOI1 rc) {F0 : PF} (F : PF) (G : PG) (hK : COF F0 F) : PP (cb_X3_expression_105 fu rc F G) (fun _ F' _ => COF F0 F') := by
  unfold cb_X3_expression_105
  refine PP.ret ?_
  exact hK
theorem koj_X3_expression_98 {fu : Nat} (rc : RC) (ih : kOI1 rc) {F0 : PF} (F : PF) (G : PG) (hK : COF F0 F) : PP (cb_X3_expression_98 fu rc F G) (fun _ F' _ => COF F0 F') := by
  unfold cb_X3_expression_98
  refine PP.bind (cw_X2_closes F G) ?_
  intro r1 F1 G1 hK1
  dsimp only
  exact koj_X3_expression_105 rc ih F1 G1 (COF.tr hK (COF.k hK1 rfl rfl rfl rfl))
theorem koj_X3_expression_83 {fu : Nat} (rc : RC) (ih : kOI1 rc) {F0 : PF} (x2 : Int32) (F : PF) (G : PG) (hK : COF F0 F) : PP (cb_X3_expression_83 fu rc x2 F G) (fun _ F' _ => COF F0 F') := by
  unfold cb_X3_expression_83
  refine PP.bind (cw_X1_aim x2 (F 6) F G) ?_
  intro r1 F1 G1 hK1
  dsimp only
  exact koj_X3_expression_98 rc ih F1 G1 (COF.tr hK (COF.k hK1 rfl rfl rfl rfl))
theorem koj_X3_expression_79 {fu : Nat} (rc : RC) (ih : kOI1 rc) {F0 : PF} (x2 : Int32) (F : PF) (G : PG) (hK : COF F0 F) : PP (cb_X3_expression_79 fu rc x2 F G) (fun _ F' _ => COF F0 F') := by
  unfold cb_X3_expression_79
  refine PP.bind (ih 1 0 0 F G) ?_
  intro r1 F1 G1 hK1
  dsimp only
  exact koj_X3_expression_83 rc ih x2 F1 G1 (COF.tr hK hK1)
theorem koj_X3_expression_63 {fu : Nat} (rc : RC) (ih : kOI1 rc) {F0 : PF} (x1 : Int32) (z0 : Int32) (F : PF) (G : PG) (hK : COF F0 F) : PP (cb_X3_expression_63 fu rc x1 z0 F G) (fun _ F' _ => COF F0 F') := by
  unfold cb_X3_expression_63
  refine PP.bind (cw_X1_aim x1 (F 6) F G) ?_
  intro r1 F1 G1 hK1
  dsimp only
  exact koj_X3_expression_79 rc ih z0 F1 G1 (COF.tr hK (COF.k hK1 rfl rfl rfl rfl))
theorem koj_X3_expression_53 {fu : Nat} (rc : RC) (ih : kOI1 rc) {F0 : PF} (x1 : Int32) (F : PF) (G : PG) (hK : COF F0 F) : PP (cb_X3_expression_53 fu rc x1 F G) (fun _ F' _ => COF F0 F') := by
  unfold cb_X3_expression_53
  refine PP.bind (ko_X1_addJump (84 : Int32) (-1 : Int32) F G) ?_
  intro r1 F1 G1 hK1
  dsimp only
  exact koj_X3_expression_63 rc ih x1 r1 F1 G1 (COF.tr hK hK1)
theorem koj_X3_expression_44 {fu : Nat} (rc : RC) (ih : kOI1 rc) {F0 : PF} (x1 : Int32) (F : PF) (G : PG) (hK : COF F0 F) : PP (cb_X3_expression_44 fu rc x1 F G) (fun _ F' _ => COF F0 F') := by
  unfold cb_X3_expression_44
  refine PP.bind (cw_X2_expect (28 : Int32) F G) ?_
  intro r1 F1 G1 hK1
  dsimp only
  exact koj_X3_expression_53 rc ih x1 F1 G1 (COF.tr hK (COF.k hK1 rfl rfl rfl rfl))
theorem koj_X3_expression_39 {fu : Nat} (rc : RC) (ih : kOI1 rc) {F0 : PF} (z0 : Int32) (F : PF) (G : PG) (hK : COF F0 F) : PP (cb_X3_expression_39 fu rc z0 F G) (fun _ F' _ => COF F0 F') := by
  unfold cb_X3_expression_39
  refine PP.bind (ih 1 0 0 F G) ?_
  intro r1 F1 G1 hK1
  dsimp only
  exact koj_X3_expression_44 rc ih z0 F1 G1 (COF.tr hK hK1)
theorem koj_X3_expression_29 {fu : Nat} (rc : RC) (ih : kOI1 rc) {F0 : PF} (F : PF) (G : PG) (hK : COF F0 F) : PP (cb_X3_expression_29 fu rc F G) (fun _ F' _ => COF F0 F') := by
  unfold cb_X3_expression_29
  refine PP.bind (ko_X1_addJump (86 : Int32) (-1 : Int32) F G) ?_
  intro r1 F1 G1 hK1
  dsimp only
  exact koj_X3_expression_39 rc ih r1 F1 G1 (COF.tr hK hK1)
theorem koj_X3_expression_25 {fu : Nat} (rc : RC) (ih : kOI1 rc) {F0 : PF} (z0 : Int32) (F : PF) (G : PG) (hK : COF F0 F) : PP (cb_X3_expression_25 fu rc z0 F G) (fun _ F' _ => COF F0 F') := by
  unfold cb_X3_expression_25
  refine PP.ite (fun c_1 => ?_) (fun c_1 => ?_)
  · skip
    exact koj_X3_expression_28 rc ih F G hK
  · skip
    exact koj_X3_expression_29 rc ih F G hK
theorem koj_X3_expression_16 {fu : Nat} (rc : RC) (ih : kOI1 rc) {F0 : PF} (F : PF) (G : PG) (hK : COF F0 F) : PP (cb_X3_expression_16 fu rc F G) (fun _ F' _ => COF F0 F') := by
  unfold cb_X3_expression_16
  refine PP.bind (cw_X2_opens (27 : Int32) F G) ?_
  intro r1 F1 G1 hK1
  dsimp only
  exact koj_X3_expression_25 rc ih r1 F1 G1 (COF.tr hK (COF.k hK1 rfl rfl rfl rfl))
theorem koj_X3_expression_4 {fu : Nat} (rc : RC) (ih : kOI1 rc) {F0 : PF} (F : PF) (G : PG) (hK : COF F0 F) : PP (cb_X3_expression_4 fu rc F G) (fun _ F' _ => COF F0 F') := by
  unfold cb_X3_expression_4
  refine PP.ite (fun c_1 => ?_) (fun c_1 => ?_)
  · skip
    exact koj_X3_expression_16 rc ih F G hK
  · skip
    exact koj_X3_expression_28 rc ih F G hK
theorem kot_X3_expression {fu : Nat} (rc : RC) (ih : kOI1 rc) (F : PF) (G : PG) : PP (ch_X3_expression fu rc F G) (fun _ F' _ => COF F F') := by
  unfold ch_X3_expression
  unfold cb_X3_expression_0
  refine PP.bind (ih 3 0 0 F G) ?_
  intro r1 F1 G1 hK1
  dsimp only
  exact koj_X3_expression_4 rc ih F1 G1 (COF.tr COF.rf hK1)
theorem koj_X3_index_20 {fu : Nat} (rc : RC) (ih : kOI1 rc) {F0 : PF} (F : PF) (G : PG) (hK : COF F0 F) : PP (cb_X3_index_20 fu rc F G) (fun _ F' _ => COF F0 F') := by
  unfold cb_X3_index_20
  refine PP.ret ?_
  exact hK
theorem koj_X3_index_140 {fu : Nat} (rc : RC) (ih : kOI1 rc) {F0 : PF} (F : PF) (G : PG) (hK : COF F0 F) : PP (cb_X3_index_140 fu rc F G) (fun _ F' _ => COF F0 F') := by
  unfold cb_X3_index_140
  refine PP.ret ?_
  exact hK
theorem koj_X3_index_132 {fu : Nat} (rc : RC) (ih : kOI1 rc) {F0 : PF} (x2 : Int32) (F : PF) (G : PG) (hK : COF F0 F) : PP (cb_X3_index_132 fu rc x2 F G) (fun _ F' _ => COF F0 F') := by
  unfold cb_X3_index_132
  refine PP.bind (ko_X1_add x2 F G) ?_
  intro r1 F1 G1 hK1
  dsimp only
  exact koj_X3_index_140 rc ih F1 G1 (COF.tr hK hK1)
theorem koj_X3_index_129 {fu : Nat} (rc : RC) (ih : kOI1 rc) {F0 : PF} (x2 : Int32) (z0 : Int32) (F : PF) (G : PG) (hK : COF F0 F) : PP (cb_X3_index_129 fu rc x2 z0 F G) (fun _ F' _ => COF F0 F') := by
  unfold cb_X3_index_129
  refine PP.bind (ko_X1_add z0 F G) ?_
  intro r1 F1 G1 hK1
  dsimp only
  exact koj_X3_index_132 rc ih x2 F1 G1 (COF.tr hK hK1)
theorem koj_X3_index_124 {fu : Nat} (rc : RC) (ih : kOI1 rc) {F0 : PF} (x2 : Int32) (F : PF) (G : PG) (hK : COF F0 F) : PP (cb_X3_index_124 fu rc x2 F G) (fun _ F' _ => COF F0 F') := by
  unfold cb_X3_index_124
  exact koj_X3_index_129 rc ih x2 (2 : Int32) F G hK
theorem koj_X3_index_128 {fu : Nat} (rc : RC) (ih : kOI1 rc) {F0 : PF} (x2 : Int32) (F : PF) (G : PG) (hK : COF F0 F) : PP (cb_X3_index_128 fu rc x2 F G) (fun _ F' _ => COF F0 F') := by
  unfold cb_X3_index_128
  exact koj_X3_index_129 rc ih x2 (0 : Int32) F G hK
theorem koj_X3_index_120 {fu : Nat} (rc : RC) (ih : kOI1 rc) {F0 : PF} (x2 : Int32) (z0 : Int32) (F : PF) (G : PG) (hK : COF F0 F) : PP (cb_X3_index_120 fu rc x2 z0 F G) (fun _ F' _ => COF F0 F') := by
  unfold cb_X3_index_120
  refine PP.ite (fun c_1 => ?_) (fun c_1 => ?_)
  · skip
    exact koj_X3_index_124 rc ih x2 F G hK
  · skip
    exact koj_X3_index_128 rc ih x2 F G hK
theorem koj_X3_index_108 {fu : Nat} (rc : RC) (ih : kOI1 rc) {F0 : PF} (x1 : Int32) (x2 : Int32) (F : PF) (G : PG) (hK : COF F0 F) : PP (cb_X3_index_108 fu rc x1 x2 F G) (fun _ F' _ => COF F0 F') := by
  unfold cb_X3_index_108
  refine PP.bind (cw_X5_kind x1 F G) ?_
  intro r1 F1 G1 hK1
  dsimp only
  exact koj_X3_index_120 rc ih x2 r1 F1 G1 (COF.tr hK (COF.k hK1 rfl rfl rfl rfl))
theorem koj_X3_index_105 {fu : Nat} (rc : RC) (ih : kOI1 rc) {F0 : PF} (x1 : Int32) (x2 : Int32) (z0 : Int32) (F : PF) (G : PG) (hK : COF F0 F) : PP (cb_X3_index_105 fu rc x1 x2 z0 F G) (fun _ F' _ => COF F0 F') := by
  unfold cb_X3_index_105
  refine PP.bind (ko_X1_add z0 F G) ?_
  intro r1 F1 G1 hK1
  dsimp only
  exact koj_X3_index_108 rc ih x1 x2 F1 G1 (COF.tr hK hK1)
theorem koj_X3_index_93 {fu : Nat} (rc : RC) (ih : kOI1 rc) {F0 : PF} (x1 : Int32) (x2 : Int32) (F : PF) (G : PG) (hK : COF F0 F) : PP (cb_X3_index_93 fu rc x1 x2 F G) (fun _ F' _ => COF F0 F') := by
  unfold cb_X3_index_93
  refine PP.bind (cw_X5_size x1 F G) ?_
  intro r1 F1 G1 hK1
  dsimp only
  exact koj_X3_index_105 rc ih x1 x2 r1 F1 G1 (COF.tr hK (COF.k hK1 rfl rfl rfl rfl))
theorem koj_X3_index_90 {fu : Nat} (rc : RC) (ih : kOI1 rc) {F0 : PF} (x1 : Int32) (x2 : Int32) (z0 : Int32) (z1 : Int32) (F : PF) (G : PG) (hK : COF F0 F) : PP (cb_X3_index_90 fu rc x1 x2 z0 z1 F G) (fun _ F' _ => COF F0 F') := by
  unfold cb_X3_index_90
  refine PP.bind (ko_X1_addPair z1 z0 F G) ?_
  intro r1 F1 G1 hK1
  dsimp only
  exact koj_X3_index_93 rc ih x1 x2 F1 G1 (COF.tr hK hK1)
theorem koj_X3_index_82 {fu : Nat} (rc : RC) (ih : kOI1 rc) {F0 : PF} (x1 : Int32) (x2 : Int32) (z0 : Int32) (F : PF) (G : PG) (hK : COF F0 F) : PP (cb_X3_index_82 fu rc x1 x2 z0 F G) (fun _ F' _ => COF F0 F') := by
  unfold cb_X3_index_82
  refine PP.bind (cw_X5_value x1 F G) ?_
  intro r1 F1 G1 hK1
  dsimp only
  exact koj_X3_index_90 rc ih x1 x2 r1 z0 F1 G1 (COF.tr hK (COF.k hK1 rfl rfl rfl rfl))
theorem koj_X3_index_80 {fu : Nat} (rc : RC) (ih : kOI1 rc) {F0 : PF} (x1 : Int32) (x2 : Int32) (F : PF) (G : PG) (hK : COF F0 F) : PP (cb_X3_index_80 fu rc x1 x2 F G) (fun _ F' _ => COF F0 F') := by
  unfold cb_X3_index_80
  exact koj_X3_index_82 rc ih x1 x2 (75 : Int32) F G hK
theorem koj_X3_index_75 {fu : Nat} (rc : RC) (ih : kOI1 rc) {F0 : PF} (x1 : Int32) (x2 : Int32) (F : PF) (G : PG) (hK : COF F0 F) : PP (cb_X3_index_75 fu rc x1 x2 F G) (fun _ F' _ => COF F0 F') := by
  unfold cb_X3_index_75
  exact koj_X3_index_82 rc ih x1 x2 (74 : Int32) F G hK
theorem koj_X3_index_72 {fu : Nat} (rc : RC) (ih : kOI1 rc) {F0 : PF} (x1 : Int32) (x2 : Int32) (z0 : Int32) (F : PF) (G : PG) (hK : COF F0 F) : PP (cb_X3_index_72 fu rc x1 x2 z0 F G) (fun _ F' _ => COF F0 F') := by
  unfold cb_X3_index_72
  refine PP.ite (fun c_1 => ?_) (fun c_1 => ?_)
  · skip
    exact koj_X3_index_80 rc ih x1 x2 F G hK
  · skip
    exact koj_X3_index_75 rc ih x1 x2 F G hK
theorem koj_X3_index_64 {fu : Nat} (rc : RC) (ih : kOI1 rc) {F0 : PF} (x1 : Int32) (x2 : Int32) (F : PF) (G : PG) (hK : COF F0 F) : PP (cb_X3_index_64 fu rc x1 x2 F G) (fun _ F' _ => COF F0 F') := by
  unfold cb_X3_index_64
  refine PP.bind (cw_X5_isGlobal x1 F G) ?_
  intro r1 F1 G1 hK1
  dsimp only
  exact koj_X3_index_72 rc ih x1 x2 r1 F1 G1 (COF.tr hK (COF.k hK1 rfl rfl rfl rfl))
theorem koj_X3_index_59 {fu : Nat} (rc : RC) (ih : kOI1 rc) {F0 : PF} (x1 : Int32) (x2 : Int32) (F : PF) (G : PG) (hK : COF F0 F) : PP (cb_X3_index_59 fu rc x1 x2 F G) (fun _ F' _ => COF F0 F') := by
  unfold cb_X3_index_59
  exact koj_X3_index_82 rc ih x1 x2 (76 : Int32) F G hK
theorem koj_X3_index_50 {fu : Nat} (rc : RC) (ih : kOI1 rc) {F0 : PF} (x1 : Int32) (x2 : Int32) (z0 : Int32) (F : PF) (G : PG) (hK : COF F0 F) : PP (cb_X3_index_50 fu rc x1 x2 z0 F G) (fun _ F' _ => COF F0 F') := by
  unfold cb_X3_index_50
  refine PP.ite (fun c_1 => ?_) (fun c_1 => ?_)
  · skip
    exact koj_X3_index_64 rc ih x1 x2 F G hK
  · skip
    exact koj_X3_index_59 rc ih x1 x2 F G hK
theorem koj_X3_index_45 {fu : Nat} (rc : RC) (ih : kOI1 rc) {F0 : PF} (x1 : Int32) (x2 : Int32) (F : PF) (G : PG) (hK : COF F0 F) : PP (cb_X3_index_45 fu rc x1 x2 F G) (fun _ F' _ => COF F0 F') := by
  unfold cb_X3_index_45
  exact koj_X3_index_50 rc ih x1 x2 (1 : Int32) F G hK
theorem koj_X3_index_49 {fu : Nat} (rc : RC) (ih : kOI1 rc) {F0 : PF} (x1 : Int32) (x2 : Int32) (F : PF) (G : PG) (hK : COF F0 F) : PP (cb_X3_index_49 fu rc x1 x2 F G) (fun _ F' _ => COF F0 F') := by
  unfold cb_X3_index_49
  exact koj_X3_index_50 rc ih x1 x2 (0 : Int32) F G hK
theorem koj_X3_index_42 {fu : Nat} (rc : RC) (ih : kOI1 rc) {F0 : PF} (x1 : Int32) (x2 : Int32) (z0 : Int32) (F : PF) (G : PG) (hK : COF F0 F) : PP (cb_X3_index_42 fu rc x1 x2 z0 F G) (fun _ F' _ => COF F0 F') := by
  unfold cb_X3_index_42
  refine PP.ite (fun c_1 => ?_) (fun c_1 => ?_)
  · skip
    exact koj_X3_index_45 rc ih x1 x2 F G hK
  · skip
    exact koj_X3_index_49 rc ih x1 x2 F G hK
theorem koj_X3_index_34 {fu : Nat} (rc : RC) (ih : kOI1 rc) {F0 : PF} (x1 : Int32) (x2 : Int32) (F : PF) (G : PG) (hK : COF F0 F) : PP (cb_X3_index_34 fu rc x1 x2 F G) (fun _ F' _ => COF F0 F') := by
  unfold cb_X3_index_34
  refine PP.bind (cw_X5_size x1 F G) ?_
  intro r1 F1 G1 hK1
  dsimp only
  exact koj_X3_index_42 rc ih x1 x2 r1 F1 G1 (COF.tr hK (COF.k hK1 rfl rfl rfl rfl))
theorem koj_X3_index_25 {fu : Nat} (rc : RC) (ih : kOI1 rc) {F0 : PF} (x1 : Int32) (x2 : Int32) (F : PF) (G : PG) (hK : COF F0 F) : PP (cb_X3_index_25 fu rc x1 x2 F G) (fun _ F' _ => COF F0 F') := by
  unfold cb_X3_index_25
  refine PP.bind (cw_X2_closesWith (22 : Int32) F G) ?_
  intro r1 F1 G1 hK1
  dsimp only
  exact koj_X3_index_34 rc ih x1 x2 F1 G1 (COF.tr hK (COF.k hK1 rfl rfl rfl rfl))
theorem koj_X3_index_21 {fu : Nat} (rc : RC) (ih : kOI1 rc) {F0 : PF} (x1 : Int32) (x2 : Int32) (F : PF) (G : PG) (hK : COF F0 F) : PP (cb_X3_index_21 fu rc x1 x2 F G) (fun _ F' _ => COF F0 F') := by
  unfold cb_X3_index_21
  refine PP.bind (ih 1 0 0 F G) ?_
  intro r1 F1 G1 hK1
  dsimp only
  exact koj_X3_index_25 rc ih x1 x2 F1 G1 (COF.tr hK hK1)
theorem koj_X3_index_17 {fu : Nat} (rc : RC) (ih : kOI1 rc) {F0 : PF} (x1 : Int32) (x2 : Int32) (z0 : Int32) (F : PF) (G : PG) (hK : COF F0 F) : PP (cb_X3_index_17 fu rc x1 x2 z0 F G) (fun _ F' _ => COF F0 F') := by
  unfold cb_X3_index_17
  refine PP.ite (fun c_1 => ?_) (fun c_1 => ?_)
  · skip
    exact koj_X3_index_20 rc ih F G hK
  · skip
    exact koj_X3_index_21 rc ih x1 x2 F G hK
theorem kot_X3_index {fu : Nat} (rc : RC) (ih : kOI1 rc) (x1 : Int32) (F : PF) (G : PG) : PP (ch_X3_index fu rc x1 F G) (fun _ F' _ => COF F F') := by
  unfold ch_X3_index
  unfold cb_X3_index_0
  refine PP.bind (cw_X2_opens (21 : Int32) F G) ?_
  intro r1 F1 G1 hK1
  dsimp only
  exact koj_X3_index_17 rc ih x1 (F 13) r1 F1 G1 (COF.tr COF.rf (COF.k hK1 rfl rfl rfl rfl))
theorem koj_X3_joinedOperands_168 {fu : Nat} (rc : RC) (ih : kOI1 rc) {F0 : PF} (F : PF) (G : PG) (hK : COF F0 F) : PP (cb_X3_joinedOperands_168 fu rc F G) (fun _ F' _ => COF F0 F') := by
  unfold cb_X3_joinedOperands_168
  refine PP.ret ?_
  exact hK
theorem koj_X3_joinedOperands_162 {fu : Nat} (rc : RC) (ih : kOI1 rc) {F0 : PF} (x1 : Int32) (F : PF) (G : PG) (hK : COF F0 F) : PP (cb_X3_joinedOperands_162 fu rc x1 F G) (fun _ F' _ => COF F0 F') := by
  unfold cb_X3_joinedOperands_162
  refine PP.bind (ko_X3_settle x1 (0 : Int32) F G) ?_
  intro r1 F1 G1 hK1
  dsimp only
  exact koj_X3_joinedOperands_168 rc ih F1 G1 (COF.tr hK hK1)
theorem koj_X3_joinedOperands_156 {fu : Nat} (rc : RC) (ih : kOI1 rc) {F0 : PF} (ag_9 : Int32 → Int32 → Int32 → PF → PG → PR) (hag_9 : ∀ (x1 : Int32) (x2 : Int32) (x3 : Int32) (F : PF) (G : PG) (hK : COF F0 F), PP (ag_9 x1 x2 x3 F G) (fun _ F' _ => COF F0 F')) (x1 : Int32) (x2 : Int32) (x3 : Int32) (F : PF) (G : PG) (hK : COF F0 F) : PP (cb_X3_joinedOperands_156 fu rc ag_9 x1 x2 x3 F G) (fun _ F' _ => COF F0 F') := by
  unfold cb_X3_joinedOperands_156
  exact hag_9 x1 x2 (x3 + (1 : Int32)) F G hK
theorem koj_X3_joinedOperands_149 {fu : Nat} (rc : RC) (ih : kOI1 rc) {F0 : PF} (ag_9 : Int32 → Int32 → Int32 → PF → PG → PR) (hag_9 : ∀ (x1 : Int32) (x2 : Int32) (x3 : Int32) (F : PF) (G : PG) (hK : COF F0 F), PP (ag_9 x1 x2 x3 F G) (fun _ F' _ => COF F0 F')) (x1 : Int32) (x2 : Int32) (x3 : Int32) (F : PF) (G : PG) (hK : COF F0 F) : PP (cb_X3_joinedOperands_149 fu rc ag_9 x1 x2 x3 F G) (fun _ F' _ => COF F0 F') := by
  unfold cb_X3_joinedOperands_149
  refine PP.bind (cw_X2_next F G) ?_
  intro r1 F1 G1 hK1
  dsimp only
  exact koj_X3_joinedOperands_156 rc ih ag_9 hag_9 x1 x2 x3 F1 G1 (COF.tr hK (COF.k hK1 rfl rfl rfl rfl))
theorem koj_X3_joinedOperands_138 {fu : Nat} (rc : RC) (ih : kOI1 rc) {F0 : PF} (ag_9 : Int32 → Int32 → Int32 → PF → PG → PR) (hag_9 : ∀ (x1 : Int32) (x2 : Int32) (x3 : Int32) (F : PF) (G : PG) (hK : COF F0 F), PP (ag_9 x1 x2 x3 F G) (fun _ F' _ => COF F0 F')) (x1 : Int32) (x2 : Int32) (x3 : Int32) (F : PF) (G : PG) (hK : COF F0 F) : PP (cb_X3_joinedOperands_138 fu rc ag_9 x1 x2 x3 F G) (fun _ F' _ => COF F0 F') := by
  unfold cb_X3_joinedOperands_138
  refine PP.bind (ko_X3_waits (F 11) F G) ?_
  intro r1 F1 G1 hK1
  dsimp only
  exact koj_X3_joinedOperands_149 rc ih ag_9 hag_9 x1 x2 x3 F1 G1 (COF.tr hK hK1)
theorem koj_X3_joinedOperands_135 {fu : Nat} (rc : RC) (ih : kOI1 rc) {F0 : PF} (ag_9 : Int32 → Int32 → Int32 → PF → PG → PR) (hag_9 : ∀ (x1 : Int32) (x2 : Int32) (x3 : Int32) (F : PF) (G : PG) (hK : COF F0 F), PP (ag_9 x1 x2 x3 F G) (fun _ F' _ => COF F0 F')) (x1 : Int32) (x2 : Int32) (x3 : Int32) (z0 : Int32) (z1 : Int32) (F : PF) (G : PG) (hK : COF F0 F) : PP (cb_X3_joinedOperands_135 fu rc ag_9 x1 x2 x3 z0 z1 F G) (fun _ F' _ => COF F0 F') := by
  unfold cb_X3_joinedOperands_135
  refine PP.bind (ko_X3_settle z1 z0 F G) ?_
  intro r1 F1 G1 hK1
  dsimp only
  exact koj_X3_joinedOperands_138 rc ih ag_9 hag_9 x1 x2 x3 F1 G1 (COF.tr hK hK1)
theorem koj_X3_joinedOperands_123 {fu : Nat} (rc : RC) (ih : kOI1 rc) {F0 : PF} (ag_9 : Int32 → Int32 → Int32 → PF → PG → PR) (hag_9 : ∀ (x1 : Int32) (x2 : Int32) (x3 : Int32) (F : PF) (G : PG) (hK : COF F0 F), PP (ag_9 x1 x2 x3 F G) (fun _ F' _ => COF F0 F')) (x1 : Int32) (x2 : Int32) (x3 : Int32) (F : PF) (G : PG) (hK : COF F0 F) : PP (cb_X3_joinedOperands_123 fu rc ag_9 x1 x2 x3 F G) (fun _ F' _ => COF F0 F') := by
  unfold cb_X3_joinedOperands_123
  refine PP.bind (cw_X3_strength (F 11) F G) ?_
  intro r1 F1 G1 hK1
  dsimp only
  exact koj_X3_joinedOperands_135 rc ih ag_9 hag_9 x1 x2 x3 r1 x1 F1 G1 (COF.tr hK (COF.k hK1 rfl rfl rfl rfl))
theorem koj_X3_joinedOperands_118 {fu : Nat} (rc : RC) (ih : kOI1 rc) {F0 : PF} (ag_9 : Int32 → Int32 → Int32 → PF → PG → PR) (hag_9 : ∀ (x1 : Int32) (x2 : Int32) (x3 : Int32) (F : PF) (G : PG) (hK : COF F0 F), PP (ag_9 x1 x2 x3 F G) (fun _ F' _ => COF F0 F')) (x1 : Int32) (x3 : Int32) (z0 : Int32) (F : PF) (G : PG) (hK : COF F0 F) : PP (cb_X3_joinedOperands_118 fu rc ag_9 x1 x3 z0 F G) (fun _ F' _ => COF F0 F') := by
  unfold cb_X3_joinedOperands_118
  refine PP.ite (fun c_1 => ?_) (fun c_1 => ?_)
  · skip
    exact koj_X3_joinedOperands_156 rc ih ag_9 hag_9 x1 z0 x3 F G hK
  · skip
    exact koj_X3_joinedOperands_123 rc ih ag_9 hag_9 x1 z0 x3 F G hK
theorem koj_X3_joinedOperands_117 {fu : Nat} (rc : RC) (ih : kOI1 rc) {F0 : PF} (ag_9 : Int32 → Int32 → Int32 → PF → PG → PR) (hag_9 : ∀ (x1 : Int32) (x2 : Int32) (x3 : Int32) (F : PF) (G : PG) (hK : COF F0 F), PP (ag_9 x1 x2 x3 F G) (fun _ F' _ => COF F0 F')) (x1 : Int32) (x3 : Int32) (F : PF) (G : PG) (hK : COF F0 F) : PP (cb_X3_joinedOperands_117 fu rc ag_9 x1 x3 F G) (fun _ F' _ => COF F0 F') := by
  unfold cb_X3_joinedOperands_117
  exact koj_X3_joinedOperands_118 rc ih ag_9 hag_9 x1 x3 (0 : Int32) F G hK
theorem koj_X3_joinedOperands_113 {fu : Nat} (rc : RC) (ih : kOI1 rc) {F0 : PF} (ag_9 : Int32 → Int32 → Int32 → PF → PG → PR) (hag_9 : ∀ (x1 : Int32) (x2 : Int32) (x3 : Int32) (F : PF) (G : PG) (hK : COF F0 F), PP (ag_9 x1 x2 x3 F G) (fun _ F' _ => COF F0 F')) (x1 : Int32) (x3 : Int32) (F : PF) (G : PG) (hK : COF F0 F) : PP (cb_X3_joinedOperands_113 fu rc ag_9 x1 x3 F G) (fun _ F' _ => COF F0 F') := by
  unfold cb_X3_joinedOperands_113
  exact koj_X3_joinedOperands_118 rc ih ag_9 hag_9 x1 x3 (1 : Int32) F G hK
theorem koj_X3_joinedOperands_101 {fu : Nat} (rc : RC) (ih : kOI1 rc) {F0 : PF} (ag_9 : Int32 → Int32 → Int32 → PF → PG → PR) (hag_9 : ∀ (x1 : Int32) (x2 : Int32) (x3 : Int32) (F : PF) (G : PG) (hK : COF F0 F), PP (ag_9 x1 x2 x3 F G) (fun _ F' _ => COF F0 F')) (x1 : Int32) (x3 : Int32) (F : PF) (G : PG) (hK : COF F0 F) : PP (cb_X3_joinedOperands_101 fu rc ag_9 x1 x3 F G) (fun _ F' _ => COF F0 F') := by
  unfold cb_X3_joinedOperands_101
  refine PP.ite (fun c_1 => ?_) (fun c_1 => ?_)
  · skip
    exact koj_X3_joinedOperands_117 rc ih ag_9 hag_9 x1 x3 F G hK
  · skip
    exact koj_X3_joinedOperands_113 rc ih ag_9 hag_9 x1 x3 F G hK
theorem koj_X3_joinedOperands_89 {fu : Nat} (rc : RC) (ih : kOI1 rc) {F0 : PF} (ag_9 : Int32 → Int32 → Int32 → PF → PG → PR) (hag_9 : ∀ (x1 : Int32) (x2 : Int32) (x3 : Int32) (F : PF) (G : PG) (hK : COF F0 F), PP (ag_9 x1 x2 x3 F G) (fun _ F' _ => COF F0 F')) (x1 : Int32) (x3 : Int32) (F : PF) (G : PG) (hK : COF F0 F) : PP (cb_X3_joinedOperands_89 fu rc ag_9 x1 x3 F G) (fun _ F' _ => COF F0 F') := by
  unfold cb_X3_joinedOperands_89
  refine PP.ite (fun c_1 => ?_) (fun c_1 => ?_)
  · skip
    exact koj_X3_joinedOperands_117 rc ih ag_9 hag_9 x1 x3 F G hK
  · skip
    exact koj_X3_joinedOperands_101 rc ih ag_9 hag_9 x1 x3 F G hK
theorem koj_X3_joinedOperands_85 {fu : Nat} (rc : RC) (ih : kOI1 rc) {F0 : PF} (ag_9 : Int32 → Int32 → Int32 → PF → PG → PR) (hag_9 : ∀ (x1 : Int32) (x2 : Int32) (x3 : Int32) (F : PF) (G : PG) (hK : COF F0 F), PP (ag_9 x1 x2 x3 F G) (fun _ F' _ => COF F0 F')) (x1 : Int32) (x3 : Int32) (F : PF) (G : PG) (hK : COF F0 F) : PP (cb_X3_joinedOperands_85 fu rc ag_9 x1 x3 F G) (fun _ F' _ => COF F0 F') := by
  unfold cb_X3_joinedOperands_85
  refine PP.bind (ih 5 0 0 F G) ?_
  intro r1 F1 G1 hK1
  dsimp only
  exact koj_X3_joinedOperands_89 rc ih ag_9 hag_9 x1 x3 F1 G1 (COF.tr hK hK1)
theorem koj_X3_joinedOperands_79 {fu : Nat} (rc : RC) (ih : kOI1 rc) {F0 : PF} (ag_9 : Int32 → Int32 → Int32 → PF → PG → PR) (hag_9 : ∀ (x1 : Int32) (x2 : Int32) (x3 : Int32) (F : PF) (G : PG) (hK : COF F0 F), PP (ag_9 x1 x2 x3 F G) (fun _ F' _ => COF F0 F')) (ag_23 : Int32 → Int32 → Int32 → PF → PG → PR) (hag_23 : ∀ (x1 : Int32) (x3 : Int32) (x4 : Int32) (F : PF) (G : PG) (hK : COF F0 F), PP (ag_23 x1 x3 x4 F G) (fun _ F' _ => COF F0 F')) (x1 : Int32) (x3 : Int32) (x4 : Int32) (F : PF) (G : PG) (hK : COF F0 F) : PP (cb_X3_joinedOperands_79 fu rc ag_9 ag_23 x1 x3 x4 F G) (fun _ F' _ => COF F0 F') := by
  unfold cb_X3_joinedOperands_79
  exact hag_23 x1 x3 (x4 + (1 : Int32)) F G hK
theorem koj_X3_joinedOperands_72 {fu : Nat} (rc : RC) (ih : kOI1 rc) {F0 : PF} (ag_9 : Int32 → Int32 → Int32 → PF → PG → PR) (hag_9 : ∀ (x1 : Int32) (x2 : Int32) (x3 : Int32) (F : PF) (G : PG) (hK : COF F0 F), PP (ag_9 x1 x2 x3 F G) (fun _ F' _ => COF F0 F')) (ag_23 : Int32 → Int32 → Int32 → PF → PG → PR) (hag_23 : ∀ (x1 : Int32) (x3 : Int32) (x4 : Int32) (F : PF) (G : PG) (hK : COF F0 F), PP (ag_23 x1 x3 x4 F G) (fun _ F' _ => COF F0 F')) (x1 : Int32) (x3 : Int32) (x4 : Int32) (F : PF) (G : PG) (hK : COF F0 F) : PP (cb_X3_joinedOperands_72 fu rc ag_9 ag_23 x1 x3 x4 F G) (fun _ F' _ => COF F0 F') := by
  unfold cb_X3_joinedOperands_72
  refine PP.bind (cw_X2_next F G) ?_
  intro r1 F1 G1 hK1
  dsimp only
  exact koj_X3_joinedOperands_79 rc ih ag_9 hag_9 ag_23 hag_23 x1 x3 x4 F1 G1 (COF.tr hK (COF.k hK1 rfl rfl rfl rfl))
theorem koj_X3_joinedOperands_69 {fu : Nat} (rc : RC) (ih : kOI1 rc) {F0 : PF} (ag_9 : Int32 → Int32 → Int32 → PF → PG → PR) (hag_9 : ∀ (x1 : Int32) (x2 : Int32) (x3 : Int32) (F : PF) (G : PG) (hK : COF F0 F), PP (ag_9 x1 x2 x3 F G) (fun _ F' _ => COF F0 F')) (ag_23 : Int32 → Int32 → Int32 → PF → PG → PR) (hag_23 : ∀ (x1 : Int32) (x3 : Int32) (x4 : Int32) (F : PF) (G : PG) (hK : COF F0 F), PP (ag_23 x1 x3 x4 F G) (fun _ F' _ => COF F0 F')) (x1 : Int32) (x3 : Int32) (x4 : Int32) (z0 : Int32) (F : PF) (G : PG) (hK : COF F0 F) : PP (cb_X3_joinedOperands_69 fu rc ag_9 ag_23 x1 x3 x4 z0 F G) (fun _ F' _ => COF F0 F') := by
  unfold cb_X3_joinedOperands_69
  refine PP.bind (ko_X3_waits z0 F G) ?_
  intro r1 F1 G1 hK1
  dsimp only
  exact koj_X3_joinedOperands_72 rc ih ag_9 hag_9 ag_23 hag_23 x1 x3 x4 F1 G1 (COF.tr hK hK1)
theorem koj_X3_joinedOperands_57 {fu : Nat} (rc : RC) (ih : kOI1 rc) {F0 : PF} (ag_9 : Int32 → Int32 → Int32 → PF → PG → PR) (hag_9 : ∀ (x1 : Int32) (x2 : Int32) (x3 : Int32) (F : PF) (G : PG) (hK : COF F0 F), PP (ag_9 x1 x2 x3 F G) (fun _ F' _ => COF F0 F')) (ag_23 : Int32 → Int32 → Int32 → PF → PG → PR) (hag_23 : ∀ (x1 : Int32) (x3 : Int32) (x4 : Int32) (F : PF) (G : PG) (hK : COF F0 F), PP (ag_23 x1 x3 x4 F G) (fun _ F' _ => COF F0 F')) (x1 : Int32) (x3 : Int32) (x4 : Int32) (F : PF) (G : PG) (hK : COF F0 F) : PP (cb_X3_joinedOperands_57 fu rc ag_9 ag_23 x1 x3 x4 F G) (fun _ F' _ => COF F0 F') := by
  unfold cb_X3_joinedOperands_57
  exact koj_X3_joinedOperands_69 rc ih ag_9 hag_9 ag_23 hag_23 x1 x3 x4 (64 : Int32) F G hK
theorem koj_X3_joinedOperands_62 {fu : Nat} (rc : RC) (ih : kOI1 rc) {F0 : PF} (ag_9 : Int32 → Int32 → Int32 → PF → PG → PR) (hag_9 : ∀ (x1 : Int32) (x2 : Int32) (x3 : Int32) (F : PF) (G : PG) (hK : COF F0 F), PP (ag_9 x1 x2 x3 F G) (fun _ F' _ => COF F0 F')) (ag_23 : Int32 → Int32 → Int32 → PF → PG → PR) (hag_23 : ∀ (x1 : Int32) (x3 : Int32) (x4 : Int32) (F : PF) (G : PG) (hK : COF F0 F), PP (ag_23 x1 x3 x4 F G) (fun _ F' _ => COF F0 F')) (x1 : Int32) (x3 : Int32) (x4 : Int32) (F : PF) (G : PG) (hK : COF F0 F) : PP (cb_X3_joinedOperands_62 fu rc ag_9 ag_23 x1 x3 x4 F G) (fun _ F' _ => COF F0 F') := by
  unfold cb_X3_joinedOperands_62
  exact koj_X3_joinedOperands_69 rc ih ag_9 hag_9 ag_23 hag_23 x1 x3 x4 (F 11) F G hK
theorem koj_X3_joinedOperands_44 {fu : Nat} (rc : RC) (ih : kOI1 rc) {F0 : PF} (ag_9 : Int32 → Int32 → Int32 → PF → PG → PR) (hag_9 : ∀ (x1 : Int32) (x2 : Int32) (x3 : Int32) (F : PF) (G : PG) (hK : COF F0 F), PP (ag_9 x1 x2 x3 F G) (fun _ F' _ => COF F0 F')) (ag_23 : Int32 → Int32 → Int32 → PF → PG → PR) (hag_23 : ∀ (x1 : Int32) (x3 : Int32) (x4 : Int32) (F : PF) (G : PG) (hK : COF F0 F), PP (ag_23 x1 x3 x4 F G) (fun _ F' _ => COF F0 F')) (x1 : Int32) (x3 : Int32) (x4 : Int32) (F : PF) (G : PG) (hK : COF F0 F) : PP (cb_X3_joinedOperands_44 fu rc ag_9 ag_23 x1 x3 x4 F G) (fun _ F' _ => COF F0 F') := by
  unfold cb_X3_joinedOperands_44
  refine PP.ite (fun c_1 => ?_) (fun c_1 => ?_)
  · skip
    exact koj_X3_joinedOperands_57 rc ih ag_9 hag_9 ag_23 hag_23 x1 x3 x4 F G hK
  · skip
    exact koj_X3_joinedOperands_62 rc ih ag_9 hag_9 ag_23 hag_23 x1 x3 x4 F G hK
theorem koj_X3_joinedOperands_41 {fu : Nat} (rc : RC) (ih : kOI1 rc) {F0 : PF} (ag_9 : Int32 → Int32 → Int32 → PF → PG → PR) (hag_9 : ∀ (x1 : Int32) (x2 : Int32) (x3 : Int32) (F : PF) (G : PG) (hK : COF F0 F), PP (ag_9 x1 x2 x3 F G) (fun _ F' _ => COF F0 F')) (ag_23 : Int32 → Int32 → Int32 → PF → PG → PR) (hag_23 : ∀ (x1 : Int32) (x3 : Int32) (x4 : Int32) (F : PF) (G : PG) (hK : COF F0 F), PP (ag_23 x1 x3 x4 F G) (fun _ F' _ => COF F0 F')) (x1 : Int32) (x3 : Int32) (x4 : Int32) (z0 : Int32) (F : PF) (G : PG) (hK : COF F0 F) : PP (cb_X3_joinedOperands_41 fu rc ag_9 ag_23 x1 x3 x4 z0 F G) (fun _ F' _ => COF F0 F') := by
  unfold cb_X3_joinedOperands_41
  refine PP.ite (fun c_1 => ?_) (fun c_1 => ?_)
  · skip
    exact koj_X3_joinedOperands_85 rc ih ag_9 hag_9 x1 x3 F G hK
  · skip
    exact koj_X3_joinedOperands_44 rc ih ag_9 hag_9 ag_23 hag_23 x1 x3 x4 F G hK
theorem koj_X3_joinedOperands_31 {fu : Nat} (rc : RC) (ih : kOI1 rc) {F0 : PF} (ag_9 : Int32 → Int32 → Int32 → PF → PG → PR) (hag_9 : ∀ (x1 : Int32) (x2 : Int32) (x3 : Int32) (F : PF) (G : PG) (hK : COF F0 F), PP (ag_9 x1 x2 x3 F G) (fun _ F' _ => COF F0 F')) (ag_23 : Int32 → Int32 → Int32 → PF → PG → PR) (hag_23 : ∀ (x1 : Int32) (x3 : Int32) (x4 : Int32) (F : PF) (G : PG) (hK : COF F0 F), PP (ag_23 x1 x3 x4 F G) (fun _ F' _ => COF F0 F')) (x1 : Int32) (x3 : Int32) (x4 : Int32) (F : PF) (G : PG) (hK : COF F0 F) : PP (cb_X3_joinedOperands_31 fu rc ag_9 ag_23 x1 x3 x4 F G) (fun _ F' _ => COF F0 F') := by
  unfold cb_X3_joinedOperands_31
  refine PP.bind (cw_X3_isAhead (F 11) F G) ?_
  intro r1 F1 G1 hK1
  dsimp only
  exact koj_X3_joinedOperands_41 rc ih ag_9 hag_9 ag_23 hag_23 x1 x3 x4 r1 F1 G1 (COF.tr hK (COF.k hK1 rfl rfl rfl rfl))
theorem koz_X3_joinedOperands_23 {fu : Nat} (rc : RC) (ih : kOI1 rc) {F0 : PF} (ag_9 : Int32 → Int32 → Int32 → PF → PG → PR) (hag_9 : ∀ (x1 : Int32) (x2 : Int32) (x3 : Int32) (F : PF) (G : PG) (hK : COF F0 F), PP (ag_9 x1 x2 x3 F G) (fun _ F' _ => COF F0 F')) : ∀ (n : Nat) (x1 : Int32) (x3 : Int32) (x4 : Int32) (F : PF) (G : PG) (hK : COF F0 F), PP (cl_X3_joinedOperands_23 fu rc ag_9 n x1 x3 x4 F G) (fun _ F' _ => COF F0 F') := by
  intro n
  induction n with
  | zero =>
    intro x1 x3 x4 F G hK
    exact PP.no
  | succ n ihn =>
    intro x1 x3 x4 F G hK
    show PP (cb_X3_joinedOperands_23 fu rc ag_9 (cl_X3_joinedOperands_23 fu rc ag_9 n) x1 x3 x4 F G) _
    unfold cb_X3_joinedOperands_23
    refine PP.ite (fun c_1 => ?_) (fun c_1 => ?_)
    · skip
      exact koj_X3_joinedOperands_85 rc ih ag_9 hag_9 x1 x3 F G hK
    · skip
      exact koj_X3_joinedOperands_31 rc ih ag_9 hag_9 (cl_X3_joinedOperands_23 fu rc ag_9 n) ihn x1 x3 x4 F G hK
theorem koj_X3_joinedOperands_20 {fu : Nat} (rc : RC) (ih : kOI1 rc) {F0 : PF} (ag_9 : Int32 → Int32 → Int32 → PF → PG → PR) (hag_9 : ∀ (x1 : Int32) (x2 : Int32) (x3 : Int32) (F : PF) (G : PG) (hK : COF F0 F), PP (ag_9 x1 x2 x3 F G) (fun _ F' _ => COF F0 F')) (x1 : Int32) (x3 : Int32) (F : PF) (G : PG) (hK : COF F0 F) : PP (cb_X3_joinedOperands_20 fu rc ag_9 x1 x3 F G) (fun _ F' _ => COF F0 F') := by
  unfold cb_X3_joinedOperands_20
  exact koz_X3_joinedOperands_23 rc ih ag_9 hag_9 fu x1 x3 (0 : Int32) F G hK
theorem koj_X3_joinedOperands_16 {fu : Nat} (rc : RC) (ih : kOI1 rc) {F0 : PF} (ag_9 : Int32 → Int32 → Int32 → PF → PG → PR) (hag_9 : ∀ (x1 : Int32) (x2 : Int32) (x3 : Int32) (F : PF) (G : PG) (hK : COF F0 F), PP (ag_9 x1 x2 x3 F G) (fun _ F' _ => COF F0 F')) (x1 : Int32) (x2 : Int32) (x3 : Int32) (F : PF) (G : PG) (hK : COF F0 F) : PP (cb_X3_joinedOperands_16 fu rc ag_9 x1 x2 x3 F G) (fun _ F' _ => COF F0 F') := by
  unfold cb_X3_joinedOperands_16
  refine PP.ite (fun c_1 => ?_) (fun c_1 => ?_)
  · skip
    exact koj_X3_joinedOperands_162 rc ih x1 F G hK
  · skip
    exact koj_X3_joinedOperands_20 rc ih ag_9 hag_9 x1 x3 F G hK
theorem koz_X3_joinedOperands_9 {fu : Nat} (rc : RC) (ih : kOI1 rc) {F0 : PF} : ∀ (n : Nat) (x1 : Int32) (x2 : Int32) (x3 : Int32) (F : PF) (G : PG) (hK : COF F0 F), PP (cl_X3_joinedOperands_9 fu rc n x1 x2 x3 F G) (fun _ F' _ => COF F0 F') := by
  intro n
  induction n with
  | zero =>
    intro x1 x2 x3 F G hK
    exact PP.no
  | succ n ihn =>
    intro x1 x2 x3 F G hK
    show PP (cb_X3_joinedOperands_9 fu rc (cl_X3_joinedOperands_9 fu rc n) x1 x2 x3 F G) _
    unfold cb_X3_joinedOperands_9
    refine PP.ite (fun c_1 => ?_) (fun c_1 => ?_)
    · skip
      exact koj_X3_joinedOperands_162 rc ih x1 F G hK
    · skip
      exact koj_X3_joinedOperands_16 rc ih (cl_X3_joinedOperands_9 fu rc n) ihn x1 x2 x3 F G hK
theorem kot_X3_joinedOperands {fu : Nat} (rc : RC) (ih : kOI1 rc) (F : PF) (G : PG) : PP (ch_X3_joinedOperands fu rc F G) (fun _ F' _ => COF F F') := by
  unfold ch_X3_joinedOperands
  unfold cb_X3_joinedOperands_0
  exact koz_X3_joinedOperands_9 rc ih fu (F 21) (1 : Int32) (0 : Int32) F G COF.rf
theorem koj_X3_named_98 {fu : Nat} (rc : RC) (ih : kOI1 rc) {F0 : PF} (F : PF) (G : PG) (hK : COF F0 F) : PP (cb_X3_named_98 fu rc F G) (fun _ F' _ => COF F0 F') := by
  unfold cb_X3_named_98
  refine PP.ret ?_
  exact hK
theorem koj_X3_named_65 {fu : Nat} (rc : RC) (ih : kOI1 rc) {F0 : PF} (F : PF) (G : PG) (hK : COF F0 F) : PP (cb_X3_named_65 fu rc F G) (fun _ F' _ => COF F0 F') := by
  unfold cb_X3_named_65
  exact koj_X3_named_98 rc ih F G hK
theorem koj_X3_named_59 {fu : Nat} (rc : RC) (ih : kOI1 rc) {F0 : PF} (x1 : Int32) (x2 : Int32) (F : PF) (G : PG) (hK : COF F0 F) : PP (cb_X3_named_59 fu rc x1 x2 F G) (fun _ F' _ => COF F0 F') := by
  unfold cb_X3_named_59
  refine PP.bind (ih 0 x2 x1 F G) ?_
  intro r1 F1 G1 hK1
  dsimp only
  exact koj_X3_named_65 rc ih F1 G1 (COF.tr hK hK1)
theorem koj_X3_named_90 {fu : Nat} (rc : RC) (ih : kOI1 rc) {F0 : PF} (F : PF) (G : PG) (hK : COF F0 F) : PP (cb_X3_named_90 fu rc F G) (fun _ F' _ => COF F0 F') := by
  unfold cb_X3_named_90
  exact koj_X3_named_98 rc ih F G hK
theorem koj_X3_named_85 {fu : Nat} (rc : RC) (ih : kOI1 rc) {F0 : PF} (x2 : Int32) (F : PF) (G : PG) (hK : COF F0 F) : PP (cb_X3_named_85 fu rc x2 F G) (fun _ F' _ => COF F0 F') := by
  unfold cb_X3_named_85
  refine PP.bind (ko_X3_fetch x2 F G) ?_
  intro r1 F1 G1 hK1
  dsimp only
  exact koj_X3_named_90 rc ih F1 G1 (COF.tr hK hK1)
theorem koj_X3_named_80 {fu : Nat} (rc : RC) (ih : kOI1 rc) {F0 : PF} (x2 : Int32) (F : PF) (G : PG) (hK : COF F0 F) : PP (cb_X3_named_80 fu rc x2 F G) (fun _ F' _ => COF F0 F') := by
  unfold cb_X3_named_80
  refine PP.bind (ih 2 x2 0 F G) ?_
  intro r1 F1 G1 hK1
  dsimp only
  exact koj_X3_named_85 rc ih x2 F1 G1 (COF.tr hK hK1)
theorem koj_X3_named_93 {fu : Nat} (rc : RC) (ih : kOI1 rc) {F0 : PF} (x2 : Int32) (F : PF) (G : PG) (hK : COF F0 F) : PP (cb_X3_named_93 fu rc x2 F G) (fun _ F' _ => COF F0 F') := by
  unfold cb_X3_named_93
  refine PP.bind (ko_X3_load x2 F G) ?_
  intro r1 F1 G1 hK1
  dsimp only
  exact koj_X3_named_98 rc ih F1 G1 (COF.tr hK hK1)
theorem koj_X3_named_68 {fu : Nat} (rc : RC) (ih : kOI1 rc) {F0 : PF} (x2 : Int32) (F : PF) (G : PG) (hK : COF F0 F) : PP (cb_X3_named_68 fu rc x2 F G) (fun _ F' _ => COF F0 F') := by
  unfold cb_X3_named_68
  refine PP.ite (fun c_1 => ?_) (fun c_1 => ?_)
  · skip
    exact koj_X3_named_80 rc ih x2 F G hK
  · skip
    exact koj_X3_named_93 rc ih x2 F G hK
theorem koj_X3_named_47 {fu : Nat} (rc : RC) (ih : kOI1 rc) {F0 : PF} (x1 : Int32) (x2 : Int32) (F : PF) (G : PG) (hK : COF F0 F) : PP (cb_X3_named_47 fu rc x1 x2 F G) (fun _ F' _ => COF F0 F') := by
  unfold cb_X3_named_47
  refine PP.ite (fun c_1 => ?_) (fun c_1 => ?_)
  · skip
    exact koj_X3_named_59 rc ih x1 x2 F G hK
  · skip
    exact koj_X3_named_68 rc ih x2 F G hK
theorem koj_X3_named_31 {fu : Nat} (rc : RC) (ih : kOI1 rc) {F0 : PF} (x1 : Int32) (x2 : Int32) (F : PF) (G : PG) (hK : COF F0 F) : PP (cb_X3_named_31 fu rc x1 x2 F G) (fun _ F' _ => COF F0 F') := by
  unfold cb_X3_named_31
  refine PP.bind (cw_X5_wantValue x2 x1 (F 11) F G) ?_
  intro r1 F1 G1 hK1
  dsimp only
  exact koj_X3_named_47 rc ih x1 x2 F1 G1 (COF.tr hK (COF.k hK1 rfl rfl rfl rfl))
theorem koj_X3_named_23 {fu : Nat} (rc : RC) (ih : kOI1 rc) {F0 : PF} (x1 : Int32) (z0 : Int32) (F : PF) (G : PG) (hK : COF F0 F) : PP (cb_X3_named_23 fu rc x1 z0 F G) (fun _ F' _ => COF F0 F') := by
  unfold cb_X3_named_23
  refine PP.bind (cw_X2_next F G) ?_
  intro r1 F1 G1 hK1
  dsimp only
  exact koj_X3_named_31 rc ih x1 z0 F1 G1 (COF.tr hK (COF.k hK1 rfl rfl rfl rfl))
theorem kot_X3_named {fu : Nat} (rc : RC) (ih : kOI1 rc) (F : PF) (G : PG) : PP (ch_X3_named fu rc F G) (fun _ F' _ => COF F F') := by
  unfold ch_X3_named
  unfold cb_X3_named_0
  refine PP.bind (cw_X5_meant (F 12) (F 13) F G) ?_
  intro r1 F1 G1 hK1
  dsimp only
  exact koj_X3_named_23 rc ih (F 13) r1 F1 G1 (COF.tr COF.rf (COF.k hK1 rfl rfl rfl rfl))
theorem koj_X3_operand_183 {fu : Nat} (rc : RC) (ih : kOI1 rc) {F0 : PF} (F : PF) (G : PG) (hK : COF F0 F) : PP (cb_X3_operand_183 fu rc F G) (fun _ F' _ => COF F0 F') := by
  unfold cb_X3_operand_183
  refine PP.ret ?_
  exact hK
theorem koj_X3_operand_78 {fu : Nat} (rc : RC) (ih : kOI1 rc) {F0 : PF} (F : PF) (G : PG) (hK : COF F0 F) : PP (cb_X3_operand_78 fu rc F G) (fun _ F' _ => COF F0 F') := by
  unfold cb_X3_operand_78
  exact koj_X3_operand_183 rc ih F G hK
theorem koj_X3_operand_74 {fu : Nat} (rc : RC) (ih : kOI1 rc) {F0 : PF} (F : PF) (G : PG) (hK : COF F0 F) : PP (cb_X3_operand_74 fu rc F G) (fun _ F' _ => COF F0 F') := by
  unfold cb_X3_operand_74
  refine PP.bind (ih 4 0 0 F G) ?_
  intro r1 F1 G1 hK1
  dsimp only
  exact koj_X3_operand_78 rc ih F1 G1 (COF.tr hK hK1)
theorem koj_X3_operand_71 {fu : Nat} (rc : RC) (ih : kOI1 rc) {F0 : PF} (F : PF) (G : PG) (hK : COF F0 F) : PP (cb_X3_operand_71 fu rc F G) (fun _ F' _ => COF F0 F') := by
  unfold cb_X3_operand_71
  exact koj_X3_operand_183 rc ih F G hK
theorem koj_X3_operand_64 {fu : Nat} (rc : RC) (ih : kOI1 rc) {F0 : PF} (F : PF) (G : PG) (hK : COF F0 F) : PP (cb_X3_operand_64 fu rc F G) (fun _ F' _ => COF F0 F') := by
  unfold cb_X3_operand_64
  refine PP.bind (cw_X2_next F G) ?_
  intro r1 F1 G1 hK1
  dsimp only
  exact koj_X3_operand_71 rc ih F1 G1 (COF.tr hK (COF.k hK1 rfl rfl rfl rfl))
theorem koj_X3_operand_48 {fu : Nat} (rc : RC) (ih : kOI1 rc) {F0 : PF} (F : PF) (G : PG) (hK : COF F0 F) : PP (cb_X3_operand_48 fu rc F G) (fun _ F' _ => COF F0 F') := by
  unfold cb_X3_operand_48
  refine PP.bind (ko_X1_addPair (66 : Int32) (F 12) F G) ?_
  intro r1 F1 G1 hK1
  dsimp only
  exact koj_X3_operand_64 rc ih F1 G1 (COF.tr hK hK1)
theorem koj_X3_operand_144 {fu : Nat} (rc : RC) (ih : kOI1 rc) {F0 : PF} (F : PF) (G : PG) (hK : COF F0 F) : PP (cb_X3_operand_144 fu rc F G) (fun _ F' _ => COF F0 F') := by
  unfold cb_X3_operand_144
  exact koj_X3_operand_183 rc ih F G hK
theorem koj_X3_operand_135 {fu : Nat} (rc : RC) (ih : kOI1 rc) {F0 : PF} (F : PF) (G : PG) (hK : COF F0 F) : PP (cb_X3_operand_135 fu rc F G) (fun _ F' _ => COF F0 F') := by
  unfold cb_X3_operand_135
  refine PP.bind (ko_X1_add (17 : Int32) F G) ?_
  intro r1 F1 G1 hK1
  dsimp only
  exact koj_X3_operand_144 rc ih F1 G1 (COF.tr hK hK1)
theorem koj_X3_operand_126 {fu : Nat} (rc : RC) (ih : kOI1 rc) {F0 : PF} (F : PF) (G : PG) (hK : COF F0 F) : PP (cb_X3_operand_126 fu rc F G) (fun _ F' _ => COF F0 F') := by
  unfold cb_X3_operand_126
  refine PP.bind (cw_X2_closesWith (20 : Int32) F G) ?_
  intro r1 F1 G1 hK1
  dsimp only
  exact koj_X3_operand_135 rc ih F1 G1 (COF.tr hK (COF.k hK1 rfl rfl rfl rfl))
theorem koj_X3_operand_123 {fu : Nat} (rc : RC) (ih : kOI1 rc) {F0 : PF} (z0 : Int32) (F : PF) (G : PG) (hK : COF F0 F) : PP (cb_X3_operand_123 fu rc z0 F G) (fun _ F' _ => COF F0 F') := by
  unfold cb_X3_operand_123
  refine PP.ite (fun c_1 => ?_) (fun c_1 => ?_)
  · skip
    exact koj_X3_operand_135 rc ih F G hK
  · skip
    exact koj_X3_operand_126 rc ih F G hK
theorem koj_X3_operand_114 {fu : Nat} (rc : RC) (ih : kOI1 rc) {F0 : PF} (F : PF) (G : PG) (hK : COF F0 F) : PP (cb_X3_operand_114 fu rc F G) (fun _ F' _ => COF F0 F') := by
  unfold cb_X3_operand_114
  refine PP.bind (cw_X2_opens (19 : Int32) F G) ?_
  intro r1 F1 G1 hK1
  dsimp only
  exact koj_X3_operand_123 rc ih r1 F1 G1 (COF.tr hK (COF.k hK1 rfl rfl rfl rfl))
theorem koj_X3_operand_107 {fu : Nat} (rc : RC) (ih : kOI1 rc) {F0 : PF} (F : PF) (G : PG) (hK : COF F0 F) : PP (cb_X3_operand_107 fu rc F G) (fun _ F' _ => COF F0 F') := by
  unfold cb_X3_operand_107
  refine PP.bind (cw_X2_next F G) ?_
  intro r1 F1 G1 hK1
  dsimp only
  exact koj_X3_operand_114 rc ih F1 G1 (COF.tr hK (COF.k hK1 rfl rfl rfl rfl))
theorem koj_X3_operand_91 {fu : Nat} (rc : RC) (ih : kOI1 rc) {F0 : PF} (F : PF) (G : PG) (hK : COF F0 F) : PP (cb_X3_operand_91 fu rc F G) (fun _ F' _ => COF F0 F') := by
  unfold cb_X3_operand_91
  refine PP.bind (cw_X5_note (7 : Int32) (F 13) F G) ?_
  intro r1 F1 G1 hK1
  dsimp only
  exact koj_X3_operand_107 rc ih F1 G1 (COF.tr hK (COF.k hK1 rfl rfl rfl rfl))
theorem koj_X3_operand_81 {fu : Nat} (rc : RC) (ih : kOI1 rc) {F0 : PF} (F : PF) (G : PG) (hK : COF F0 F) : PP (cb_X3_operand_81 fu rc F G) (fun _ F' _ => COF F0 F') := by
  unfold cb_X3_operand_81
  refine PP.ite (fun c_1 => ?_) (fun c_1 => ?_)
  · skip
    exact koj_X3_operand_107 rc ih F G hK
  · skip
    exact koj_X3_operand_91 rc ih F G hK
theorem koj_X3_operand_172 {fu : Nat} (rc : RC) (ih : kOI1 rc) {F0 : PF} (F : PF) (G : PG) (hK : COF F0 F) : PP (cb_X3_operand_172 fu rc F G) (fun _ F' _ => COF F0 F') := by
  unfold cb_X3_operand_172
  exact koj_X3_operand_183 rc ih F G hK
theorem koj_X3_operand_163 {fu : Nat} (rc : RC) (ih : kOI1 rc) {F0 : PF} (F : PF) (G : PG) (hK : COF F0 F) : PP (cb_X3_operand_163 fu rc F G) (fun _ F' _ => COF F0 F') := by
  unfold cb_X3_operand_163
  refine PP.bind (cw_X2_closesWith (20 : Int32) F G) ?_
  intro r1 F1 G1 hK1
  dsimp only
  exact koj_X3_operand_172 rc ih F1 G1 (COF.tr hK (COF.k hK1 rfl rfl rfl rfl))
theorem koj_X3_operand_159 {fu : Nat} (rc : RC) (ih : kOI1 rc) {F0 : PF} (F : PF) (G : PG) (hK : COF F0 F) : PP (cb_X3_operand_159 fu rc F G) (fun _ F' _ => COF F0 F') := by
  unfold cb_X3_operand_159
  refine PP.bind (ih 1 0 0 F G) ?_
  intro r1 F1 G1 hK1
  dsimp only
  exact koj_X3_operand_163 rc ih F1 G1 (COF.tr hK hK1)
theorem koj_X3_operand_156 {fu : Nat} (rc : RC) (ih : kOI1 rc) {F0 : PF} (z0 : Int32) (F : PF) (G : PG) (hK : COF F0 F) : PP (cb_X3_operand_156 fu rc z0 F G) (fun _ F' _ => COF F0 F') := by
  unfold cb_X3_operand_156
  refine PP.ite (fun c_1 => ?_) (fun c_1 => ?_)
  · skip
    exact koj_X3_operand_183 rc ih F G hK
  · skip
    exact koj_X3_operand_159 rc ih F G hK
theorem koj_X3_operand_147 {fu : Nat} (rc : RC) (ih : kOI1 rc) {F0 : PF} (F : PF) (G : PG) (hK : COF F0 F) : PP (cb_X3_operand_147 fu rc F G) (fun _ F' _ => COF F0 F') := by
  unfold cb_X3_operand_147
  refine PP.bind (cw_X2_opens (19 : Int32) F G) ?_
  intro r1 F1 G1 hK1
  dsimp only
  exact koj_X3_operand_156 rc ih r1 F1 G1 (COF.tr hK (COF.k hK1 rfl rfl rfl rfl))
theorem koj_X3_operand_175 {fu : Nat} (rc : RC) (ih : kOI1 rc) {F0 : PF} (F : PF) (G : PG) (hK : COF F0 F) : PP (cb_X3_operand_175 fu rc F G) (fun _ F' _ => COF F0 F') := by
  unfold cb_X3_operand_175
  refine PP.bind (cw_X2_fail (2 : Int32) F G) ?_
  intro r1 F1 G1 hK1
  dsimp only
  exact koj_X3_operand_183 rc ih F1 G1 (COF.tr hK (COF.k hK1 rfl rfl rfl rfl))
theorem kot_X3_operand {fu : Nat} (rc : RC) (ih : kOI1 rc) (F : PF) (G : PG) : PP (ch_X3_operand fu rc F G) (fun _ F' _ => COF F F') := by
  unfold ch_X3_operand
  unfold cb_X3_operand_0
  refine PP.ite (fun c_1 => ?_) (fun c_1 => ?_)
  · skip
    exact koj_X3_operand_74 rc ih F G COF.rf
  refine PP.ite (fun c_2 => ?_) (fun c_2 => ?_)
  · skip
    exact koj_X3_operand_48 rc ih F G COF.rf
  refine PP.ite (fun c_3 => ?_) (fun c_3 => ?_)
  · skip
    exact koj_X3_operand_81 rc ih F G COF.rf
  refine PP.ite (fun c_4 => ?_) (fun c_4 => ?_)
  · skip
    exact koj_X3_operand_147 rc ih F G COF.rf
  exact koj_X3_operand_175 rc ih F G COF.rf
theorem koS1 {fu : Nat} : ∀ d : Nat, kOI1 (cS1 fu d) := by
  intro d
  induction d with
  | zero => exact fun _ _ _ _ _ => PP.no
  | succ d ih =>
    intro i x y F G
    exact PP.ite (fun _ => kot_X3_call (cS1 fu d) ih x y F G) (fun _ => PP.ite (fun _ => kot_X3_expression (cS1 fu d) ih F G) (fun _ => PP.ite (fun _ => kot_X3_index (cS1 fu d) ih x F G) (fun _ => PP.ite (fun _ => kot_X3_joinedOperands (cS1 fu d) ih F G) (fun _ => PP.ite (fun _ => kot_X3_named (cS1 fu d) ih F G) (fun _ => PP.ite (fun _ => kot_X3_operand (cS1 fu d) ih F G) (fun _ => PP.no))))))
theorem ko_X3_call {fu : Nat} (x : Int32) (y : Int32) (F : PF) (G : PG) : PP (cf_X3_call fu x y F G) (fun _ F' _ => COF F F') := koS1 300 0 x y F G
theorem ko_X3_expression {fu : Nat} (F : PF) (G : PG) : PP (cf_X3_expression fu F G) (fun _ F' _ => COF F F') := koS1 300 1 0 0 F G
theorem ko_X3_index {fu : Nat} (x : Int32) (F : PF) (G : PG) : PP (cf_X3_index fu x F G) (fun _ F' _ => COF F F') := koS1 300 2 x 0 F G
theorem ko_X3_joinedOperands {fu : Nat} (F : PF) (G : PG) : PP (cf_X3_joinedOperands fu F G) (fun _ F' _ => COF F F') := koS1 300 3 0 0 F G
theorem ko_X3_named {fu : Nat} (F : PF) (G : PG) : PP (cf_X3_named fu F G) (fun _ F' _ => COF F F') := koS1 300 4 0 0 F G
theorem ko_X3_operand {fu : Nat} (F : PF) (G : PG) : PP (cf_X3_operand fu F G) (fun _ F' _ => COF F F') := koS1 300 5 0 0 F G
theorem koj_X3_constant_50 {fu : Nat} {F0 : PF} (x2 : Int32) (F : PF) (G : PG) (hK : COF F0 F) : PP (cb_X3_constant_50 fu x2 F G) (fun _ F' _ => COF F0 F') := by
  unfold cb_X3_constant_50
  refine PP.ret ?_
  exact hK
theorem koj_X3_constant_41 {fu : Nat} {F0 : PF} (x1 : Int32) (z0 : Int32) (F : PF) (G : PG) (hK : COF F0 F) : PP (cb_X3_constant_41 fu x1 z0 F G) (fun _ F' _ => COF F0 F') := by
  unfold cb_X3_constant_41
  refine PP.bind (ko_X1_cut x1 F G) ?_
  intro r1 F1 G1 hK1
  dsimp only
  exact koj_X3_constant_50 z0 F1 G1 (COF.tr hK hK1)
theorem koj_X3_constant_40 {fu : Nat} {F0 : PF} (x1 : Int32) (F : PF) (G : PG) (hK : COF F0 F) : PP (cb_X3_constant_40 fu x1 F G) (fun _ F' _ => COF F0 F') := by
  unfold cb_X3_constant_40
  exact koj_X3_constant_41 x1 (0 : Int32) F G hK
theorem koj_X3_constant_37 {fu : Nat} {F0 : PF} (x1 : Int32) (z0 : Int32) (F : PF) (G : PG) (hK : COF F0 F) : PP (cb_X3_constant_37 fu x1 z0 F G) (fun _ F' _ => COF F0 F') := by
  unfold cb_X3_constant_37
  exact koj_X3_constant_41 x1 z0 F G hK
theorem koj_X3_constant_29 {fu : Nat} {F0 : PF} (x1 : Int32) (F : PF) (G : PG) (hK : COF F0 F) : PP (cb_X3_constant_29 fu x1 F G) (fun _ F' _ => COF F0 F') := by
  unfold cb_X3_constant_29
  refine PP.bind (cw_X6_valueFrom x1 F G) ?_
  intro r1 F1 G1 hK1
  dsimp only
  exact koj_X3_constant_37 x1 r1 F1 G1 (COF.tr hK (COF.k hK1 rfl rfl rfl rfl))
theorem koj_X3_constant_26 {fu : Nat} {F0 : PF} (x1 : Int32) (z0 : Int32) (F : PF) (G : PG) (hK : COF F0 F) : PP (cb_X3_constant_26 fu x1 z0 F G) (fun _ F' _ => COF F0 F') := by
  unfold cb_X3_constant_26
  refine PP.ite (fun c_1 => ?_) (fun c_1 => ?_)
  · skip
    exact koj_X3_constant_40 x1 F G hK
  · skip
    exact koj_X3_constant_29 x1 F G hK
theorem koj_X3_constant_19 {fu : Nat} {F0 : PF} (x1 : Int32) (F : PF) (G : PG) (hK : COF F0 F) : PP (cb_X3_constant_19 fu x1 F G) (fun _ F' _ => COF F0 F') := by
  unfold cb_X3_constant_19
  refine PP.bind (cw_X5_endsConstant F G) ?_
  intro r1 F1 G1 hK1
  dsimp only
  exact koj_X3_constant_26 x1 r1 F1 G1 (COF.tr hK (COF.k hK1 rfl rfl rfl rfl))
theorem koj_X3_constant_15 {fu : Nat} {F0 : PF} (x1 : Int32) (F : PF) (G : PG) (hK : COF F0 F) : PP (cb_X3_constant_15 fu x1 F G) (fun _ F' _ => COF F0 F') := by
  unfold cb_X3_constant_15
  refine PP.bind (ko_X3_expression F G) ?_
  intro r1 F1 G1 hK1
  dsimp only
  exact koj_X3_constant_19 x1 F1 G1 (COF.tr hK hK1)
theorem ko_X3_constant {fu : Nat} (F : PF) (G : PG) : PP (cf_X3_constant fu F G) (fun _ F' _ => COF F F') := by
  unfold cf_X3_constant
  unfold cb_X3_constant_0
  refine PP.bind (cw_X5_startConstant F G) ?_
  intro r1 F1 G1 hK1
  dsimp only
  exact koj_X3_constant_15 (F 6) F1 G1 (COF.tr COF.rf (COF.k hK1 rfl rfl rfl rfl))
theorem koj_X3_arraySize_12 {fu : Nat} {F0 : PF} (F : PF) (G : PG) (hK : COF F0 F) : PP (cb_X3_arraySize_12 fu F G) (fun _ F' _ => COF F0 F') := by
  unfold cb_X3_arraySize_12
  refine PP.ret ?_
  exact hK
theorem koj_X3_arraySize_89 {fu : Nat} {F0 : PF} (x3 : Int32) (F : PF) (G : PG) (hK : COF F0 F) : PP (cb_X3_arraySize_89 fu x3 F G) (fun _ F' _ => COF F0 F') := by
  unfold cb_X3_arraySize_89
  refine PP.ret ?_
  exact hK
theorem koj_X3_arraySize_80 {fu : Nat} {F0 : PF} (x3 : Int32) (F : PF) (G : PG) (hK : COF F0 F) : PP (cb_X3_arraySize_80 fu x3 F G) (fun _ F' _ => COF F0 F') := by
  unfold cb_X3_arraySize_80
  refine PP.bind (cw_X2_closesWith (22 : Int32) F G) ?_
  intro r1 F1 G1 hK1
  dsimp only
  exact koj_X3_arraySize_89 x3 F1 G1 (COF.tr hK (COF.k hK1 rfl rfl rfl rfl))
theorem koj_X3_arraySize_71 {fu : Nat} {F0 : PF} (x2 : Int32) (z0 : Int32) (F : PF) (G : PG) (hK : COF F0 F) : PP (cb_X3_arraySize_71 fu x2 z0 F G) (fun _ F' _ => COF F0 F') := by
  unfold cb_X3_arraySize_71
  refine PP.bind (ko_X1_cut x2 F G) ?_
  intro r1 F1 G1 hK1
  dsimp only
  exact koj_X3_arraySize_80 z0 F1 G1 (COF.tr hK hK1)
theorem koj_X3_arraySize_70 {fu : Nat} {F0 : PF} (x2 : Int32) (F : PF) (G : PG) (hK : COF F0 F) : PP (cb_X3_arraySize_70 fu x2 F G) (fun _ F' _ => COF F0 F') := by
  unfold cb_X3_arraySize_70
  exact koj_X3_arraySize_71 x2 (0 : Int32) F G hK
theorem koj_X3_arraySize_67 {fu : Nat} {F0 : PF} (x2 : Int32) (z0 : Int32) (F : PF) (G : PG) (hK : COF F0 F) : PP (cb_X3_arraySize_67 fu x2 z0 F G) (fun _ F' _ => COF F0 F') := by
  unfold cb_X3_arraySize_67
  exact koj_X3_arraySize_71 x2 z0 F G hK
theorem koj_X3_arraySize_63 {fu : Nat} {F0 : PF} (x1 : Int32) (x2 : Int32) (z0 : Int32) (F : PF) (G : PG) (hK : COF F0 F) : PP (cb_X3_arraySize_63 fu x1 x2 z0 F G) (fun _ F' _ => COF F0 F') := by
  unfold cb_X3_arraySize_63
  refine PP.bind (cw_X5_elements z0 x1 F G) ?_
  intro r1 F1 G1 hK1
  dsimp only
  exact koj_X3_arraySize_67 x2 r1 F1 G1 (COF.tr hK (COF.k hK1 rfl rfl rfl rfl))
theorem koj_X3_arraySize_51 {fu : Nat} {F0 : PF} (x1 : Int32) (x2 : Int32) (F : PF) (G : PG) (hK : COF F0 F) : PP (cb_X3_arraySize_51 fu x1 x2 F G) (fun _ F' _ => COF F0 F') := by
  unfold cb_X3_arraySize_51
  refine PP.bind (cw_X6_valueFrom x2 F G) ?_
  intro r1 F1 G1 hK1
  dsimp only
  exact koj_X3_arraySize_63 x1 x2 r1 F1 G1 (COF.tr hK (COF.k hK1 rfl rfl rfl rfl))
theorem koj_X3_arraySize_48 {fu : Nat} {F0 : PF} (x1 : Int32) (x2 : Int32) (z0 : Int32) (F : PF) (G : PG) (hK : COF F0 F) : PP (cb_X3_arraySize_48 fu x1 x2 z0 F G) (fun _ F' _ => COF F0 F') := by
  unfold cb_X3_arraySize_48
  refine PP.ite (fun c_1 => ?_) (fun c_1 => ?_)
  · skip
    exact koj_X3_arraySize_70 x2 F G hK
  · skip
    exact koj_X3_arraySize_51 x1 x2 F G hK
theorem koj_X3_arraySize_41 {fu : Nat} {F0 : PF} (x1 : Int32) (x2 : Int32) (F : PF) (G : PG) (hK : COF F0 F) : PP (cb_X3_arraySize_41 fu x1 x2 F G) (fun _ F' _ => COF F0 F') := by
  unfold cb_X3_arraySize_41
  refine PP.bind (cw_X5_endsConstant F G) ?_
  intro r1 F1 G1 hK1
  dsimp only
  exact koj_X3_arraySize_48 x1 x2 r1 F1 G1 (COF.tr hK (COF.k hK1 rfl rfl rfl rfl))
theorem koj_X3_arraySize_37 {fu : Nat} {F0 : PF} (x1 : Int32) (x2 : Int32) (F : PF) (G : PG) (hK : COF F0 F) : PP (cb_X3_arraySize_37 fu x1 x2 F G) (fun _ F' _ => COF F0 F') := by
  unfold cb_X3_arraySize_37
  refine PP.bind (ko_X3_expression F G) ?_
  intro r1 F1 G1 hK1
  dsimp only
  exact koj_X3_arraySize_41 x1 x2 F1 G1 (COF.tr hK hK1)
theorem koj_X3_arraySize_14 {fu : Nat} {F0 : PF} (F : PF) (G : PG) (hK : COF F0 F) : PP (cb_X3_arraySize_14 fu F G) (fun _ F' _ => COF F0 F') := by
  unfold cb_X3_arraySize_14
  refine PP.bind (cw_X5_startConstant F G) ?_
  intro r1 F1 G1 hK1
  dsimp only
  exact koj_X3_arraySize_37 (F 13) (F 6) F1 G1 (COF.tr hK (COF.k hK1 rfl rfl rfl rfl))
theorem koj_X3_arraySize_9 {fu : Nat} {F0 : PF} (z0 : Int32) (F : PF) (G : PG) (hK : COF F0 F) : PP (cb_X3_arraySize_9 fu z0 F G) (fun _ F' _ => COF F0 F') := by
  unfold cb_X3_arraySize_9
  refine PP.ite (fun c_1 => ?_) (fun c_1 => ?_)
  · skip
    exact koj_X3_arraySize_12 F G hK
  · skip
    exact koj_X3_arraySize_14 F G hK
theorem ko_X3_arraySize {fu : Nat} (F : PF) (G : PG) : PP (cf_X3_arraySize fu F G) (fun _ F' _ => COF F F') := by
  unfold cf_X3_arraySize
  unfold cb_X3_arraySize_0
  refine PP.bind (cw_X2_opens (21 : Int32) F G) ?_
  intro r1 F1 G1 hK1
  dsimp only
  exact koj_X3_arraySize_9 r1 F1 G1 (COF.tr COF.rf (COF.k hK1 rfl rfl rfl rfl))
theorem koj_X3_keep_26 {fu : Nat} {F0 : PF} (F : PF) (G : PG) (hK : COF F0 F) : PP (cb_X3_keep_26 fu F G) (fun _ F' _ => COF F0 F') := by
  unfold cb_X3_keep_26
  refine PP.ret ?_
  exact hK
theorem koj_X3_keep_23 {fu : Nat} {F0 : PF} (z0 : Int32) (F : PF) (G : PG) (hK : COF F0 F) : PP (cb_X3_keep_23 fu z0 F G) (fun _ F' _ => COF F0 F') := by
  unfold cb_X3_keep_23
  refine PP.bind (ko_X1_add z0 F G) ?_
  intro r1 F1 G1 hK1
  dsimp only
  exact koj_X3_keep_26 F1 G1 (COF.tr hK hK1)
theorem koj_X3_keep_16 {fu : Nat} {F0 : PF} (F : PF) (G : PG) (hK : COF F0 F) : PP (cb_X3_keep_16 fu F G) (fun _ F' _ => COF F0 F') := by
  unfold cb_X3_keep_16
  exact koj_X3_keep_23 (80 : Int32) F G hK
theorem koj_X3_keep_21 {fu : Nat} {F0 : PF} (F : PF) (G : PG) (hK : COF F0 F) : PP (cb_X3_keep_21 fu F G) (fun _ F' _ => COF F0 F') := by
  unfold cb_X3_keep_21
  exact koj_X3_keep_23 (79 : Int32) F G hK
theorem koj_X3_keep_12 {fu : Nat} {F0 : PF} (z0 : Int32) (F : PF) (G : PG) (hK : COF F0 F) : PP (cb_X3_keep_12 fu z0 F G) (fun _ F' _ => COF F0 F') := by
  unfold cb_X3_keep_12
  refine PP.ite (fun c_1 => ?_) (fun c_1 => ?_)
  · skip
    exact koj_X3_keep_16 F G hK
  · skip
    exact koj_X3_keep_21 F G hK
theorem ko_X3_keep {fu : Nat} (x1 : Int32) (F : PF) (G : PG) : PP (cf_X3_keep fu x1 F G) (fun _ F' _ => COF F F') := by
  unfold cf_X3_keep
  unfold cb_X3_keep_0
  refine PP.bind (cw_X5_kind x1 F G) ?_
  intro r1 F1 G1 hK1
  dsimp only
  exact koj_X3_keep_12 r1 F1 G1 (COF.tr COF.rf (COF.k hK1 rfl rfl rfl rfl))
theorem koj_X3_store_33 {fu : Nat} {F0 : PF} (F : PF) (G : PG) (hK : COF F0 F) : PP (cb_X3_store_33 fu F G) (fun _ F' _ => COF F0 F') := by
  unfold cb_X3_store_33
  refine PP.ret ?_
  exact hK
theorem koj_X3_store_30 {fu : Nat} {F0 : PF} (z0 : Int32) (z1 : Int32) (F : PF) (G : PG) (hK : COF F0 F) : PP (cb_X3_store_30 fu z0 z1 F G) (fun _ F' _ => COF F0 F') := by
  unfold cb_X3_store_30
  refine PP.bind (ko_X1_addPair z1 z0 F G) ?_
  intro r1 F1 G1 hK1
  dsimp only
  exact koj_X3_store_33 F1 G1 (COF.tr hK hK1)
theorem koj_X3_store_22 {fu : Nat} {F0 : PF} (x1 : Int32) (z0 : Int32) (F : PF) (G : PG) (hK : COF F0 F) : PP (cb_X3_store_22 fu x1 z0 F G) (fun _ F' _ => COF F0 F') := by
  unfold cb_X3_store_22
  refine PP.bind (cw_X5_value x1 F G) ?_
  intro r1 F1 G1 hK1
  dsimp only
  exact koj_X3_store_30 r1 z0 F1 G1 (COF.tr hK (COF.k hK1 rfl rfl rfl rfl))
theorem koj_X3_store_20 {fu : Nat} {F0 : PF} (x1 : Int32) (F : PF) (G : PG) (hK : COF F0 F) : PP (cb_X3_store_20 fu x1 F G) (fun _ F' _ => COF F0 F') := by
  unfold cb_X3_store_20
  exact koj_X3_store_22 x1 (72 : Int32) F G hK
theorem koj_X3_store_15 {fu : Nat} {F0 : PF} (x1 : Int32) (F : PF) (G : PG) (hK : COF F0 F) : PP (cb_X3_store_15 fu x1 F G) (fun _ F' _ => COF F0 F') := by
  unfold cb_X3_store_15
  exact koj_X3_store_22 x1 (71 : Int32) F G hK
theorem koj_X3_store_12 {fu : Nat} {F0 : PF} (x1 : Int32) (z0 : Int32) (F : PF) (G : PG) (hK : COF F0 F) : PP (cb_X3_store_12 fu x1 z0 F G) (fun _ F' _ => COF F0 F') := by
  unfold cb_X3_store_12
  refine PP.ite (fun c_1 => ?_) (fun c_1 => ?_)
  · skip
    exact koj_X3_store_20 x1 F G hK
  · skip
    exact koj_X3_store_15 x1 F G hK
theorem ko_X3_store {fu : Nat} (x1 : Int32) (F : PF) (G : PG) : PP (cf_X3_store fu x1 F G) (fun _ F' _ => COF F F') := by
  unfold cf_X3_store
  unfold cb_X3_store_0
  refine PP.bind (cw_X5_isGlobal x1 F G) ?_
  intro r1 F1 G1 hK1
  dsimp only
  exact koj_X3_store_12 x1 r1 F1 G1 (COF.tr COF.rf (COF.k hK1 rfl rfl rfl rfl))
theorem koj_X4_globalInt_72 {fu : Nat} {F0 : PF} (F : PF) (G : PG) (hK : COF F0 F) : PP (cb_X4_globalInt_72 fu F G) (fun _ F' _ => COF F0 F') := by
  unfold cb_X4_globalInt_72
  refine PP.ret ?_
  exact hK
theorem koj_X4_globalInt_59 {fu : Nat} {F0 : PF} (x1 : Int32) (x2 : Int32) (x4 : Int32) (F : PF) (G : PG) (hK : COF F0 F) : PP (cb_X4_globalInt_59 fu x1 x2 x4 F G) (fun _ F' _ => COF F0 F') := by
  unfold cb_X4_globalInt_59
  refine PP.bind (cw_X5_tell x1 x2 (1 : Int32) x4 (0 : Int32) F G) ?_
  intro r1 F1 G1 hK1
  dsimp only
  exact koj_X4_globalInt_72 F1 G1 (COF.tr hK (COF.k hK1 rfl rfl rfl rfl))
theorem koj_X4_globalInt_47 {fu : Nat} {F0 : PF} (x1 : Int32) (x2 : Int32) (x3 : Int32) (z0 : Int32) (F : PF) (G : PG) (hK : COF F0 F) : PP (cb_X4_globalInt_47 fu x1 x2 x3 z0 F G) (fun _ F' _ => COF F0 F') := by
  unfold cb_X4_globalInt_47
  refine PP.bind (cw_X8_tellInt z0 x3 F G) ?_
  intro r1 F1 G1 hK1
  dsimp only
  exact koj_X4_globalInt_59 x1 x2 z0 F1 G1 (COF.tr hK (COF.k hK1 rfl rfl rfl rfl))
theorem koj_X4_globalInt_38 {fu : Nat} {F0 : PF} (x1 : Int32) (x2 : Int32) (x3 : Int32) (F : PF) (G : PG) (hK : COF F0 F) : PP (cb_X4_globalInt_38 fu x1 x2 x3 F G) (fun _ F' _ => COF F0 F') := by
  unfold cb_X4_globalInt_38
  refine PP.bind (ko_X5_globalRoom (1 : Int32) x2 F G) ?_
  intro r1 F1 G1 hK1
  dsimp only
  exact koj_X4_globalInt_47 x1 x2 x3 r1 F1 G1 (COF.tr hK hK1)
theorem koj_X4_globalInt_29 {fu : Nat} {F0 : PF} (x1 : Int32) (x2 : Int32) (x3 : Int32) (F : PF) (G : PG) (hK : COF F0 F) : PP (cb_X4_globalInt_29 fu x1 x2 x3 F G) (fun _ F' _ => COF F0 F') := by
  unfold cb_X4_globalInt_29
  refine PP.bind (cw_X2_expect (26 : Int32) F G) ?_
  intro r1 F1 G1 hK1
  dsimp only
  exact koj_X4_globalInt_38 x1 x2 x3 F1 G1 (COF.tr hK (COF.k hK1 rfl rfl rfl rfl))
theorem koj_X4_globalInt_28 {fu : Nat} {F0 : PF} (x1 : Int32) (x2 : Int32) (z0 : Int32) (F : PF) (G : PG) (hK : COF F0 F) : PP (cb_X4_globalInt_28 fu x1 x2 z0 F G) (fun _ F' _ => COF F0 F') := by
  unfold cb_X4_globalInt_28
  exact koj_X4_globalInt_29 x1 x2 z0 F G hK
theorem koj_X4_globalInt_21 {fu : Nat} {F0 : PF} (x1 : Int32) (x2 : Int32) (F : PF) (G : PG) (hK : COF F0 F) : PP (cb_X4_globalInt_21 fu x1 x2 F G) (fun _ F' _ => COF F0 F') := by
  unfold cb_X4_globalInt_21
  refine PP.bind (ko_X3_constant F G) ?_
  intro r1 F1 G1 hK1
  dsimp only
  exact koj_X4_globalInt_28 x1 x2 r1 F1 G1 (COF.tr hK hK1)
theorem koj_X4_globalInt_14 {fu : Nat} {F0 : PF} (x1 : Int32) (x2 : Int32) (F : PF) (G : PG) (hK : COF F0 F) : PP (cb_X4_globalInt_14 fu x1 x2 F G) (fun _ F' _ => COF F0 F') := by
  unfold cb_X4_globalInt_14
  refine PP.bind (cw_X2_next F G) ?_
  intro r1 F1 G1 hK1
  dsimp only
  exact koj_X4_globalInt_21 x1 x2 F1 G1 (COF.tr hK (COF.k hK1 rfl rfl rfl rfl))
theorem ko_X4_globalInt {fu : Nat} (x1 : Int32) (x2 : Int32) (F : PF) (G : PG) : PP (cf_X4_globalInt fu x1 x2 F G) (fun _ F' _ => COF F F') := by
  unfold cf_X4_globalInt
  unfold cb_X4_globalInt_0
  refine PP.ite (fun c_1 => ?_) (fun c_1 => ?_)
  · skip
    exact koj_X4_globalInt_14 x1 x2 F G COF.rf
  · skip
    exact koj_X4_globalInt_29 x1 x2 (0 : Int32) F G COF.rf
theorem koj_X4_endFunction_79 {fu : Nat} {F0 : PF} (F : PF) (G : PG) (hK : COF F0 F) : PP (cb_X4_endFunction_79 fu F G) (fun _ F' _ => COF F0 F') := by
  unfold cb_X4_endFunction_79
  refine PP.ret ?_
  exact hK
theorem koj_X4_endFunction_69 {fu : Nat} {F0 : PF} (F : PF) (G : PG) (hK : COF F0 F) : PP (cb_X4_endFunction_69 fu F G) (fun _ F' _ => COF F0 F') := by
  unfold cb_X4_endFunction_69
  exact koj_X4_endFunction_79 (fup F 28 ((F 28) + (1 : Int32))) G (COF.f (k := 28) rfl hK)
theorem koj_X4_endFunction_62 {fu : Nat} {F0 : PF} (F : PF) (G : PG) (hK : COF F0 F) : PP (cb_X4_endFunction_62 fu F G) (fun _ F' _ => COF F0 F') := by
  unfold cb_X4_endFunction_62
  refine PP.bind (cw_X5_leave F G) ?_
  intro r1 F1 G1 hK1
  dsimp only
  exact koj_X4_endFunction_69 F1 G1 (COF.tr hK (COF.k hK1 rfl rfl rfl rfl))
theorem koj_X4_endFunction_61 {fu : Nat} {F0 : PF} (z0 : Int32) (z1 : Int32) (F : PF) (G : PG) (hK : COF F0 F) : PP (cb_X4_endFunction_61 fu z0 z1 F G) (fun _ F' _ => COF F0 F') := by
  unfold cb_X4_endFunction_61
  refine PP.ix (fun _ => ?_)
  exact koj_X4_endFunction_62 F (gup G 79 z1.toNatClampNeg z0) hK
theorem koj_X4_endFunction_43 {fu : Nat} {F0 : PF} (F : PF) (G : PG) (hK : COF F0 F) : PP (cb_X4_endFunction_43 fu F G) (fun _ F' _ => COF F0 F') := by
  unfold cb_X4_endFunction_43
  refine PP.bind (cw_X5_measure F G) ?_
  intro r1 F1 G1 hK1
  dsimp only
  exact koj_X4_endFunction_61 r1 (F 28) F1 G1 (COF.tr hK (COF.k hK1 rfl rfl rfl rfl))
theorem koj_X4_endFunction_40 {fu : Nat} {F0 : PF} (z0 : Int32) (F : PF) (G : PG) (hK : COF F0 F) : PP (cb_X4_endFunction_40 fu z0 F G) (fun _ F' _ => COF F0 F') := by
  unfold cb_X4_endFunction_40
  refine PP.ite (fun c_1 => ?_) (fun c_1 => ?_)
  · skip
    exact koj_X4_endFunction_62 F G hK
  · skip
    exact koj_X4_endFunction_43 F G hK
theorem koj_X4_endFunction_29 {fu : Nat} {F0 : PF} (F : PF) (G : PG) (hK : COF F0 F) : PP (cb_X4_endFunction_29 fu F G) (fun _ F' _ => COF F0 F') := by
  unfold cb_X4_endFunction_29
  refine PP.bind (cw_X8_has (F 28) F G) ?_
  intro r1 F1 G1 hK1
  dsimp only
  exact koj_X4_endFunction_40 r1 F1 G1 (COF.tr hK (COF.k hK1 rfl rfl rfl rfl))
theorem koj_X4_endFunction_19 {fu : Nat} {F0 : PF} (F : PF) (G : PG) (hK : COF F0 F) : PP (cb_X4_endFunction_19 fu F G) (fun _ F' _ => COF F0 F') := by
  unfold cb_X4_endFunction_19
  refine PP.ite (fun c_1 => ?_) (fun c_1 => ?_)
  · skip
    exact koj_X4_endFunction_62 F G hK
  · skip
    exact koj_X4_endFunction_29 F G hK
theorem koj_X4_endFunction_10 {fu : Nat} {F0 : PF} (F : PF) (G : PG) (hK : COF F0 F) : PP (cb_X4_endFunction_10 fu F G) (fun _ F' _ => COF F0 F') := by
  unfold cb_X4_endFunction_10
  refine PP.bind (ko_X1_add (15 : Int32) F G) ?_
  intro r1 F1 G1 hK1
  dsimp only
  exact koj_X4_endFunction_19 F1 G1 (COF.tr hK hK1)
theorem ko_X4_endFunction {fu : Nat} (F : PF) (G : PG) : PP (cf_X4_endFunction fu F G) (fun _ F' _ => COF F F') := by
  unfold cf_X4_endFunction
  unfold cb_X4_endFunction_0
  refine PP.bind (ko_X1_addPair (66 : Int32) (0 : Int32) F G) ?_
  intro r1 F1 G1 hK1
  dsimp only
  exact koj_X4_endFunction_10 F1 G1 (COF.tr COF.rf hK1)
theorem koj_X4_condition_28 {fu : Nat} {F0 : PF} (F : PF) (G : PG) (hK : COF F0 F) : PP (cb_X4_condition_28 fu F G) (fun _ F' _ => COF F0 F') := by
  unfold cb_X4_condition_28
  refine PP.ret ?_
  exact hK
theorem koj_X4_condition_19 {fu : Nat} {F0 : PF} (F : PF) (G : PG) (hK : COF F0 F) : PP (cb_X4_condition_19 fu F G) (fun _ F' _ => COF F0 F') := by
  unfold cb_X4_condition_19
  refine PP.bind (cw_X2_closesWith (20 : Int32) F G) ?_
  intro r1 F1 G1 hK1
  dsimp only
  exact koj_X4_condition_28 F1 G1 (COF.tr hK (COF.k hK1 rfl rfl rfl rfl))
theorem koj_X4_condition_12 {fu : Nat} {F0 : PF} (F : PF) (G : PG) (hK : COF F0 F) : PP (cb_X4_condition_12 fu F G) (fun _ F' _ => COF F0 F') := by
  unfold cb_X4_condition_12
  refine PP.bind (ko_X3_expression F G) ?_
  intro r1 F1 G1 hK1
  dsimp only
  exact koj_X4_condition_19 F1 G1 (COF.tr hK hK1)
theorem koj_X4_condition_9 {fu : Nat} {F0 : PF} (z0 : Int32) (F : PF) (G : PG) (hK : COF F0 F) : PP (cb_X4_condition_9 fu z0 F G) (fun _ F' _ => COF F0 F') := by
  unfold cb_X4_condition_9
  refine PP.ite (fun c_1 => ?_) (fun c_1 => ?_)
  · skip
    exact koj_X4_condition_28 F G hK
  · skip
    exact koj_X4_condition_12 F G hK
theorem ko_X4_condition {fu : Nat} (F : PF) (G : PG) : PP (cf_X4_condition fu F G) (fun _ F' _ => COF F F') := by
  unfold cf_X4_condition
  unfold cb_X4_condition_0
  refine PP.bind (cw_X2_opens (19 : Int32) F G) ?_
  intro r1 F1 G1 hK1
  dsimp only
  exact koj_X4_condition_9 r1 F1 G1 (COF.tr COF.rf (COF.k hK1 rfl rfl rfl rfl))
theorem koj_X4_handOut_36 {fu : Nat} {F0 : PF} (F : PF) (G : PG) (hK : COF F0 F) : PP (cb_X4_handOut_36 fu F G) (fun _ F' _ => COF F0 F') := by
  unfold cb_X4_handOut_36
  refine PP.ret ?_
  exact hK
theorem koj_X4_handOut_27 {fu : Nat} {F0 : PF} (F : PF) (G : PG) (hK : COF F0 F) : PP (cb_X4_handOut_27 fu F G) (fun _ F' _ => COF F0 F') := by
  unfold cb_X4_handOut_27
  refine PP.bind (cw_X2_expect (26 : Int32) F G) ?_
  intro r1 F1 G1 hK1
  dsimp only
  exact koj_X4_handOut_36 F1 G1 (COF.tr hK (COF.k hK1 rfl rfl rfl rfl))
theorem koj_X4_handOut_19 {fu : Nat} {F0 : PF} (x1 : Int32) (F : PF) (G : PG) (hK : COF F0 F) : PP (cb_X4_handOut_19 fu x1 F G) (fun _ F' _ => COF F0 F') := by
  unfold cb_X4_handOut_19
  refine PP.bind (ko_X1_add x1 F G) ?_
  intro r1 F1 G1 hK1
  dsimp only
  exact koj_X4_handOut_27 F1 G1 (COF.tr hK hK1)
theorem koj_X4_handOut_15 {fu : Nat} {F0 : PF} (x1 : Int32) (F : PF) (G : PG) (hK : COF F0 F) : PP (cb_X4_handOut_15 fu x1 F G) (fun _ F' _ => COF F0 F') := by
  unfold cb_X4_handOut_15
  refine PP.bind (ko_X4_condition F G) ?_
  intro r1 F1 G1 hK1
  dsimp only
  exact koj_X4_handOut_19 x1 F1 G1 (COF.tr hK hK1)
theorem ko_X4_handOut {fu : Nat} (F : PF) (G : PG) : PP (cf_X4_handOut fu F G) (fun _ F' _ => COF F F') := by
  unfold cf_X4_handOut
  unfold cb_X4_handOut_0
  refine PP.bind (cw_X2_next F G) ?_
  intro r1 F1 G1 hK1
  dsimp only
  exact koj_X4_handOut_15 (F 11) F1 G1 (COF.tr COF.rf (COF.k hK1 rfl rfl rfl rfl))
theorem koj_X4_localArray_54 {fu : Nat} {F0 : PF} (F : PF) (G : PG) (hK : COF F0 F) : PP (cb_X4_localArray_54 fu F G) (fun _ F' _ => COF F0 F') := by
  unfold cb_X4_localArray_54
  refine PP.ret ?_
  exact hK
theorem koj_X4_localArray_40 {fu : Nat} {F0 : PF} (x1 : Int32) (x2 : Int32) (x3 : Int32) (x4 : Int32) (x6 : Int32) (F : PF) (G : PG) (hK : COF F0 F) : PP (cb_X4_localArray_40 fu x1 x2 x3 x4 x6 F G) (fun _ F' _ => COF F0 F') := by
  unfold cb_X4_localArray_40
  refine PP.bind (cw_X5_tell x1 x2 x3 x6 x4 F G) ?_
  intro r1 F1 G1 hK1
  dsimp only
  exact koj_X4_localArray_54 F1 G1 (COF.tr hK (COF.k hK1 rfl rfl rfl rfl))
theorem koj_X4_localArray_31 {fu : Nat} {F0 : PF} (x1 : Int32) (x2 : Int32) (x3 : Int32) (x4 : Int32) (x5 : Int32) (x6 : Int32) (F : PF) (G : PG) (hK : COF F0 F) : PP (cb_X4_localArray_31 fu x1 x2 x3 x4 x5 x6 F G) (fun _ F' _ => COF F0 F') := by
  unfold cb_X4_localArray_31
  refine PP.bind (ko_X1_add x5 F G) ?_
  intro r1 F1 G1 hK1
  dsimp only
  exact koj_X4_localArray_40 x1 x2 x3 x4 x6 F1 G1 (COF.tr hK hK1)
theorem koj_X4_localArray_18 {fu : Nat} {F0 : PF} (x1 : Int32) (x2 : Int32) (x3 : Int32) (x4 : Int32) (x5 : Int32) (z0 : Int32) (F : PF) (G : PG) (hK : COF F0 F) : PP (cb_X4_localArray_18 fu x1 x2 x3 x4 x5 z0 F G) (fun _ F' _ => COF F0 F') := by
  unfold cb_X4_localArray_18
  refine PP.bind (ko_X1_addPair (73 : Int32) z0 F G) ?_
  intro r1 F1 G1 hK1
  dsimp only
  exact koj_X4_localArray_31 x1 x2 x3 x4 x5 z0 F1 G1 (COF.tr hK hK1)
theorem koj_X4_localArray_6 {fu : Nat} {F0 : PF} (x1 : Int32) (x2 : Int32) (x3 : Int32) (x4 : Int32) (z0 : Int32) (F : PF) (G : PG) (hK : COF F0 F) : PP (cb_X4_localArray_6 fu x1 x2 x3 x4 z0 F G) (fun _ F' _ => COF F0 F') := by
  unfold cb_X4_localArray_6
  refine PP.bind (cw_X5_localRoom z0 x2 F G) ?_
  intro r1 F1 G1 hK1
  dsimp only
  exact koj_X4_localArray_18 x1 x2 x3 x4 z0 r1 F1 G1 (COF.tr hK (COF.k hK1 rfl rfl rfl rfl))
theorem ko_X4_localArray {fu : Nat} (x1 : Int32) (x2 : Int32) (x3 : Int32) (x4 : Int32) (F : PF) (G : PG) : PP (cf_X4_localArray fu x1 x2 x3 x4 F G) (fun _ F' _ => COF F F') := by
  unfold cf_X4_localArray
  unfold cb_X4_localArray_0
  refine PP.bind (cw_X4_wordsOf x3 x4 F G) ?_
  intro r1 F1 G1 hK1
  dsimp only
  exact koj_X4_localArray_6 x1 x2 x3 x4 r1 F1 G1 (COF.tr COF.rf (COF.k hK1 rfl rfl rfl rfl))
theorem koj_X4_localInt_32 {fu : Nat} {F0 : PF} (F : PF) (G : PG) (hK : COF F0 F) : PP (cb_X4_localInt_32 fu F G) (fun _ F' _ => COF F0 F') := by
  unfold cb_X4_localInt_32
  refine PP.ret ?_
  exact hK
theorem koj_X4_localInt_20 {fu : Nat} {F0 : PF} (x1 : Int32) (x2 : Int32) (x3 : Int32) (F : PF) (G : PG) (hK : COF F0 F) : PP (cb_X4_localInt_20 fu x1 x2 x3 F G) (fun _ F' _ => COF F0 F') := by
  unfold cb_X4_localInt_20
  refine PP.bind (cw_X5_tell x1 x2 (1 : Int32) x3 (0 : Int32) F G) ?_
  intro r1 F1 G1 hK1
  dsimp only
  exact koj_X4_localInt_32 F1 G1 (COF.tr hK (COF.k hK1 rfl rfl rfl rfl))
theorem koj_X4_localInt_9 {fu : Nat} {F0 : PF} (x1 : Int32) (x2 : Int32) (z0 : Int32) (F : PF) (G : PG) (hK : COF F0 F) : PP (cb_X4_localInt_9 fu x1 x2 z0 F G) (fun _ F' _ => COF F0 F') := by
  unfold cb_X4_localInt_9
  refine PP.bind (ko_X1_addPair (72 : Int32) z0 F G) ?_
  intro r1 F1 G1 hK1
  dsimp only
  exact koj_X4_localInt_20 x1 x2 z0 F1 G1 (COF.tr hK hK1)
theorem ko_X4_localInt {fu : Nat} (x1 : Int32) (x2 : Int32) (F : PF) (G : PG) : PP (cf_X4_localInt fu x1 x2 F G) (fun _ F' _ => COF F F') := by
  unfold cf_X4_localInt
  unfold cb_X4_localInt_0
  refine PP.bind (cw_X5_localRoom (1 : Int32) x2 F G) ?_
  intro r1 F1 G1 hK1
  dsimp only
  exact koj_X4_localInt_9 x1 x2 r1 F1 G1 (COF.tr COF.rf (COF.k hK1 rfl rfl rfl rfl))
theorem koj_X4_localTold_168 {fu : Nat} {F0 : PF} (F : PF) (G : PG) (hK : COF F0 F) : PP (cb_X4_localTold_168 fu F G) (fun _ F' _ => COF F0 F') := by
  unfold cb_X4_localTold_168
  refine PP.ret ?_
  exact hK
theorem koj_X4_localTold_112 {fu : Nat} {F0 : PF} (F : PF) (G : PG) (hK : COF F0 F) : PP (cb_X4_localTold_112 fu F G) (fun _ F' _ => COF F0 F') := by
  unfold cb_X4_localTold_112
  exact koj_X4_localTold_168 F G hK
theorem koj_X4_localTold_107 {fu : Nat} {F0 : PF} (x5 : Int32) (z0 : Int32) (z1 : Int32) (z2 : Int32) (F : PF) (G : PG) (hK : COF F0 F) : PP (cb_X4_localTold_107 fu x5 z0 z1 z2 F G) (fun _ F' _ => COF F0 F') := by
  unfold cb_X4_localTold_107
  refine PP.bind (ko_X4_localArray z2 z1 z0 x5 F G) ?_
  intro r1 F1 G1 hK1
  dsimp only
  exact koj_X4_localTold_112 F1 G1 (COF.tr hK hK1)
theorem koj_X4_localTold_102 {fu : Nat} {F0 : PF} (x5 : Int32) (z0 : Int32) (z1 : Int32) (F : PF) (G : PG) (hK : COF F0 F) : PP (cb_X4_localTold_102 fu x5 z0 z1 F G) (fun _ F' _ => COF F0 F') := by
  unfold cb_X4_localTold_102
  exact koj_X4_localTold_107 x5 (2 : Int32) z0 z1 F G hK
theorem koj_X4_localTold_106 {fu : Nat} {F0 : PF} (x5 : Int32) (z0 : Int32) (z1 : Int32) (F : PF) (G : PG) (hK : COF F0 F) : PP (cb_X4_localTold_106 fu x5 z0 z1 F G) (fun _ F' _ => COF F0 F') := by
  unfold cb_X4_localTold_106
  exact koj_X4_localTold_107 x5 (3 : Int32) z0 z1 F G hK
theorem koj_X4_localTold_91 {fu : Nat} {F0 : PF} (x2 : Int32) (x3 : Int32) (x4 : Int32) (z0 : Int32) (F : PF) (G : PG) (hK : COF F0 F) : PP (cb_X4_localTold_91 fu x2 x3 x4 z0 F G) (fun _ F' _ => COF F0 F') := by
  unfold cb_X4_localTold_91
  refine PP.ite (fun c_1 => ?_) (fun c_1 => ?_)
  · skip
    exact koj_X4_localTold_102 z0 x4 x3 F G hK
  · skip
    exact koj_X4_localTold_106 z0 x4 x3 F G hK
theorem koj_X4_localTold_84 {fu : Nat} {F0 : PF} (x2 : Int32) (x3 : Int32) (x4 : Int32) (F : PF) (G : PG) (hK : COF F0 F) : PP (cb_X4_localTold_84 fu x2 x3 x4 F G) (fun _ F' _ => COF F0 F') := by
  unfold cb_X4_localTold_84
  refine PP.bind (ko_X3_arraySize F G) ?_
  intro r1 F1 G1 hK1
  dsimp only
  exact koj_X4_localTold_91 x2 x3 x4 r1 F1 G1 (COF.tr hK hK1)
theorem koj_X4_localTold_148 {fu : Nat} {F0 : PF} (F : PF) (G : PG) (hK : COF F0 F) : PP (cb_X4_localTold_148 fu F G) (fun _ F' _ => COF F0 F') := by
  unfold cb_X4_localTold_148
  exact koj_X4_localTold_168 F G hK
theorem koj_X4_localTold_141 {fu : Nat} {F0 : PF} (x3 : Int32) (x4 : Int32) (F : PF) (G : PG) (hK : COF F0 F) : PP (cb_X4_localTold_141 fu x3 x4 F G) (fun _ F' _ => COF F0 F') := by
  unfold cb_X4_localTold_141
  refine PP.bind (ko_X4_localInt x3 x4 F G) ?_
  intro r1 F1 G1 hK1
  dsimp only
  exact koj_X4_localTold_148 F1 G1 (COF.tr hK hK1)
theorem koj_X4_localTold_134 {fu : Nat} {F0 : PF} (x3 : Int32) (x4 : Int32) (F : PF) (G : PG) (hK : COF F0 F) : PP (cb_X4_localTold_134 fu x3 x4 F G) (fun _ F' _ => COF F0 F') := by
  unfold cb_X4_localTold_134
  refine PP.bind (ko_X3_expression F G) ?_
  intro r1 F1 G1 hK1
  dsimp only
  exact koj_X4_localTold_141 x3 x4 F1 G1 (COF.tr hK hK1)
theorem koj_X4_localTold_127 {fu : Nat} {F0 : PF} (x3 : Int32) (x4 : Int32) (F : PF) (G : PG) (hK : COF F0 F) : PP (cb_X4_localTold_127 fu x3 x4 F G) (fun _ F' _ => COF F0 F') := by
  unfold cb_X4_localTold_127
  refine PP.bind (cw_X2_next F G) ?_
  intro r1 F1 G1 hK1
  dsimp only
  exact koj_X4_localTold_134 x3 x4 F1 G1 (COF.tr hK (COF.k hK1 rfl rfl rfl rfl))
theorem koj_X4_localTold_161 {fu : Nat} {F0 : PF} (x3 : Int32) (x4 : Int32) (F : PF) (G : PG) (hK : COF F0 F) : PP (cb_X4_localTold_161 fu x3 x4 F G) (fun _ F' _ => COF F0 F') := by
  unfold cb_X4_localTold_161
  refine PP.bind (ko_X4_localInt x3 x4 F G) ?_
  intro r1 F1 G1 hK1
  dsimp only
  exact koj_X4_localTold_168 F1 G1 (COF.tr hK hK1)
theorem koj_X4_localTold_151 {fu : Nat} {F0 : PF} (x3 : Int32) (x4 : Int32) (F : PF) (G : PG) (hK : COF F0 F) : PP (cb_X4_localTold_151 fu x3 x4 F G) (fun _ F' _ => COF F0 F') := by
  unfold cb_X4_localTold_151
  refine PP.bind (ko_X1_addPair (66 : Int32) (0 : Int32) F G) ?_
  intro r1 F1 G1 hK1
  dsimp only
  exact koj_X4_localTold_161 x3 x4 F1 G1 (COF.tr hK hK1)
theorem koj_X4_localTold_115 {fu : Nat} {F0 : PF} (x3 : Int32) (x4 : Int32) (F : PF) (G : PG) (hK : COF F0 F) : PP (cb_X4_localTold_115 fu x3 x4 F G) (fun _ F' _ => COF F0 F') := by
  unfold cb_X4_localTold_115
  refine PP.ite (fun c_1 => ?_) (fun c_1 => ?_)
  · skip
    exact koj_X4_localTold_127 x3 x4 F G hK
  · skip
    exact koj_X4_localTold_151 x3 x4 F G hK
theorem koj_X4_localTold_79 {fu : Nat} {F0 : PF} (x2 : Int32) (x3 : Int32) (x4 : Int32) (F : PF) (G : PG) (hK : COF F0 F) : PP (cb_X4_localTold_79 fu x2 x3 x4 F G) (fun _ F' _ => COF F0 F') := by
  unfold cb_X4_localTold_79
  refine PP.ite (fun c_1 => ?_) (fun c_1 => ?_)
  · skip
    exact koj_X4_localTold_84 x2 x3 x4 F G hK
  · skip
    exact koj_X4_localTold_115 x3 x4 F G hK
theorem koj_X4_localTold_67 {fu : Nat} {F0 : PF} (x2 : Int32) (x3 : Int32) (x4 : Int32) (F : PF) (G : PG) (hK : COF F0 F) : PP (cb_X4_localTold_67 fu x2 x3 x4 F G) (fun _ F' _ => COF F0 F') := by
  unfold cb_X4_localTold_67
  refine PP.ite (fun c_1 => ?_) (fun c_1 => ?_)
  · skip
    exact koj_X4_localTold_84 x2 x3 x4 F G hK
  · skip
    exact koj_X4_localTold_79 x2 x3 x4 F G hK
theorem koj_X4_localTold_64 {fu : Nat} {F0 : PF} (F : PF) (G : PG) (hK : COF F0 F) : PP (cb_X4_localTold_64 fu F G) (fun _ F' _ => COF F0 F') := by
  unfold cb_X4_localTold_64
  exact koj_X4_localTold_168 F G hK
theorem koj_X4_localTold_56 {fu : Nat} {F0 : PF} (F : PF) (G : PG) (hK : COF F0 F) : PP (cb_X4_localTold_56 fu F G) (fun _ F' _ => COF F0 F') := by
  unfold cb_X4_localTold_56
  refine PP.bind (cw_X2_fail (2 : Int32) F G) ?_
  intro r1 F1 G1 hK1
  dsimp only
  exact koj_X4_localTold_64 F1 G1 (COF.tr hK (COF.k hK1 rfl rfl rfl rfl))
theorem koj_X4_localTold_44 {fu : Nat} {F0 : PF} (x2 : Int32) (x3 : Int32) (x4 : Int32) (F : PF) (G : PG) (hK : COF F0 F) : PP (cb_X4_localTold_44 fu x2 x3 x4 F G) (fun _ F' _ => COF F0 F') := by
  unfold cb_X4_localTold_44
  refine PP.ite (fun c_1 => ?_) (fun c_1 => ?_)
  · skip
    exact koj_X4_localTold_67 x2 x3 x4 F G hK
  · skip
    exact koj_X4_localTold_56 F G hK
theorem koj_X4_localTold_40 {fu : Nat} {F0 : PF} (x1 : Int32) (x2 : Int32) (x3 : Int32) (x4 : Int32) (F : PF) (G : PG) (hK : COF F0 F) : PP (cb_X4_localTold_40 fu x1 x2 x3 x4 F G) (fun _ F' _ => COF F0 F') := by
  unfold cb_X4_localTold_40
  refine PP.ite (fun c_1 => ?_) (fun c_1 => ?_)
  · skip
    exact koj_X4_localTold_67 x2 x3 x4 F G hK
  · skip
    exact koj_X4_localTold_44 x2 x3 x4 F G hK
theorem koj_X4_localTold_15 {fu : Nat} {F0 : PF} (x1 : Int32) (x2 : Int32) (F : PF) (G : PG) (hK : COF F0 F) : PP (cb_X4_localTold_15 fu x1 x2 F G) (fun _ F' _ => COF F0 F') := by
  unfold cb_X4_localTold_15
  refine PP.bind (cw_X2_expect (2 : Int32) F G) ?_
  intro r1 F1 G1 hK1
  dsimp only
  exact koj_X4_localTold_40 x1 x2 (F 12) (F 13) F1 G1 (COF.tr hK (COF.k hK1 rfl rfl rfl rfl))
theorem ko_X4_localTold {fu : Nat} (x1 : Int32) (F : PF) (G : PG) : PP (cf_X4_localTold fu x1 F G) (fun _ F' _ => COF F F') := by
  unfold cf_X4_localTold
  unfold cb_X4_localTold_0
  refine PP.bind (cw_X2_next F G) ?_
  intro r1 F1 G1 hK1
  dsimp only
  exact koj_X4_localTold_15 x1 (F 11) F1 G1 (COF.tr COF.rf (COF.k hK1 rfl rfl rfl rfl))
theorem koj_X4_leap_88 {fu : Nat} {F0 : PF} (F : PF) (G : PG) (hK : COF F0 F) : PP (cb_X4_leap_88 fu F G) (fun _ F' _ => COF F0 F') := by
  unfold cb_X4_leap_88
  refine PP.ret ?_
  exact hK
theorem koj_X4_leap_79 {fu : Nat} {F0 : PF} (F : PF) (G : PG) (hK : COF F0 F) : PP (cb_X4_leap_79 fu F G) (fun _ F' _ => COF F0 F') := by
  unfold cb_X4_leap_79
  refine PP.bind (cw_X2_expect (26 : Int32) F G) ?_
  intro r1 F1 G1 hK1
  dsimp only
  exact koj_X4_leap_88 F1 G1 (COF.tr hK (COF.k hK1 rfl rfl rfl rfl))
theorem koj_X4_leap_72 {fu : Nat} {F0 : PF} (F : PF) (G : PG) (hK : COF F0 F) : PP (cb_X4_leap_72 fu F G) (fun _ F' _ => COF F0 F') := by
  unfold cb_X4_leap_72
  refine PP.bind (cw_X2_next F G) ?_
  intro r1 F1 G1 hK1
  dsimp only
  exact koj_X4_leap_79 F1 G1 (COF.tr hK (COF.k hK1 rfl rfl rfl rfl))
theorem koj_X4_leap_52 {fu : Nat} {F0 : PF} (F : PF) (G : PG) (hK : COF F0 F) : PP (cb_X4_leap_52 fu F G) (fun _ F' _ => COF F0 F') := by
  unfold cb_X4_leap_52
  exact koj_X4_leap_72 F G hK
theorem koj_X4_leap_49 {fu : Nat} {F0 : PF} (z0 : Int32) (F : PF) (G : PG) (hK : COF F0 F) : PP (cb_X4_leap_49 fu z0 F G) (fun _ F' _ => COF F0 F') := by
  unfold cb_X4_leap_49
  exact koj_X4_leap_52 (fup F 30 z0) G (COF.f (k := 30) rfl hK)
theorem koj_X4_leap_35 {fu : Nat} {F0 : PF} (F : PF) (G : PG) (hK : COF F0 F) : PP (cb_X4_leap_35 fu F G) (fun _ F' _ => COF F0 F') := by
  unfold cb_X4_leap_35
  refine PP.bind (ko_X1_addJump (84 : Int32) (F 30) F G) ?_
  intro r1 F1 G1 hK1
  dsimp only
  exact koj_X4_leap_49 r1 F1 G1 (COF.tr hK hK1)
theorem koj_X4_leap_69 {fu : Nat} {F0 : PF} (z0 : Int32) (F : PF) (G : PG) (hK : COF F0 F) : PP (cb_X4_leap_69 fu z0 F G) (fun _ F' _ => COF F0 F') := by
  unfold cb_X4_leap_69
  exact koj_X4_leap_72 (fup F 31 z0) G (COF.f (k := 31) rfl hK)
theorem koj_X4_leap_55 {fu : Nat} {F0 : PF} (F : PF) (G : PG) (hK : COF F0 F) : PP (cb_X4_leap_55 fu F G) (fun _ F' _ => COF F0 F') := by
  unfold cb_X4_leap_55
  refine PP.bind (ko_X1_addJump (84 : Int32) (F 31) F G) ?_
  intro r1 F1 G1 hK1
  dsimp only
  exact koj_X4_leap_69 r1 F1 G1 (COF.tr hK hK1)
theorem koj_X4_leap_23 {fu : Nat} {F0 : PF} (F : PF) (G : PG) (hK : COF F0 F) : PP (cb_X4_leap_23 fu F G) (fun _ F' _ => COF F0 F') := by
  unfold cb_X4_leap_23
  refine PP.ite (fun c_1 => ?_) (fun c_1 => ?_)
  · skip
    exact koj_X4_leap_35 F G hK
  · skip
    exact koj_X4_leap_55 F G hK
theorem koj_X4_leap_7 {fu : Nat} {F0 : PF} (F : PF) (G : PG) (hK : COF F0 F) : PP (cb_X4_leap_7 fu F G) (fun _ F' _ => COF F0 F') := by
  unfold cb_X4_leap_7
  refine PP.bind (cw_X5_note (6 : Int32) (F 13) F G) ?_
  intro r1 F1 G1 hK1
  dsimp only
  exact koj_X4_leap_23 F1 G1 (COF.tr hK (COF.k hK1 rfl rfl rfl rfl))
theorem ko_X4_leap {fu : Nat} (F : PF) (G : PG) : PP (cf_X4_leap fu F G) (fun _ F' _ => COF F F') := by
  unfold cf_X4_leap
  unfold cb_X4_leap_0
  refine PP.ite (fun c_1 => ?_) (fun c_1 => ?_)
  · skip
    exact koj_X4_leap_7 F G COF.rf
  · skip
    exact koj_X4_leap_23 F G COF.rf
theorem koj_X4_returnStatement_93 {fu : Nat} {F0 : PF} (F : PF) (G : PG) (hK : COF F0 F) : PP (cb_X4_returnStatement_93 fu F G) (fun _ F' _ => COF F0 F') := by
  unfold cb_X4_returnStatement_93
  refine PP.ret ?_
  exact hK
theorem koj_X4_returnStatement_84 {fu : Nat} {F0 : PF} (F : PF) (G : PG) (hK : COF F0 F) : PP (cb_X4_returnStatement_84 fu F G) (fun _ F' _ => COF F0 F') := by
  unfold cb_X4_returnStatement_84
  refine PP.bind (cw_X2_expect (26 : Int32) F G) ?_
  intro r1 F1 G1 hK1
  dsimp only
  exact koj_X4_returnStatement_93 F1 G1 (COF.tr hK (COF.k hK1 rfl rfl rfl rfl))
theorem koj_X4_returnStatement_75 {fu : Nat} {F0 : PF} (F : PF) (G : PG) (hK : COF F0 F) : PP (cb_X4_returnStatement_75 fu F G) (fun _ F' _ => COF F0 F') := by
  unfold cb_X4_returnStatement_75
  refine PP.bind (ko_X1_add (15 : Int32) F G) ?_
  intro r1 F1 G1 hK1
  dsimp only
  exact koj_X4_returnStatement_84 F1 G1 (COF.tr hK hK1)
theorem koj_X4_returnStatement_68 {fu : Nat} {F0 : PF} (F : PF) (G : PG) (hK : COF F0 F) : PP (cb_X4_returnStatement_68 fu F G) (fun _ F' _ => COF F0 F') := by
  unfold cb_X4_returnStatement_68
  refine PP.bind (ko_X3_expression F G) ?_
  intro r1 F1 G1 hK1
  dsimp only
  exact koj_X4_returnStatement_75 F1 G1 (COF.tr hK hK1)
theorem koj_X4_returnStatement_65 {fu : Nat} {F0 : PF} (F : PF) (G : PG) (hK : COF F0 F) : PP (cb_X4_returnStatement_65 fu F G) (fun _ F' _ => COF F0 F') := by
  unfold cb_X4_returnStatement_65
  exact koj_X4_returnStatement_75 F G hK
theorem koj_X4_returnStatement_55 {fu : Nat} {F0 : PF} (F : PF) (G : PG) (hK : COF F0 F) : PP (cb_X4_returnStatement_55 fu F G) (fun _ F' _ => COF F0 F') := by
  unfold cb_X4_returnStatement_55
  refine PP.bind (ko_X1_addPair (66 : Int32) (0 : Int32) F G) ?_
  intro r1 F1 G1 hK1
  dsimp only
  exact koj_X4_returnStatement_65 F1 G1 (COF.tr hK hK1)
theorem koj_X4_returnStatement_51 {fu : Nat} {F0 : PF} (x1 : Int32) (F : PF) (G : PG) (hK : COF F0 F) : PP (cb_X4_returnStatement_51 fu x1 F G) (fun _ F' _ => COF F0 F') := by
  unfold cb_X4_returnStatement_51
  refine PP.ite (fun c_1 => ?_) (fun c_1 => ?_)
  · skip
    exact koj_X4_returnStatement_68 F G hK
  · skip
    exact koj_X4_returnStatement_55 F G hK
theorem koj_X4_returnStatement_36 {fu : Nat} {F0 : PF} (x1 : Int32) (F : PF) (G : PG) (hK : COF F0 F) : PP (cb_X4_returnStatement_36 fu x1 F G) (fun _ F' _ => COF F0 F') := by
  unfold cb_X4_returnStatement_36
  refine PP.bind (cw_X5_note (3 : Int32) (F 13) F G) ?_
  intro r1 F1 G1 hK1
  dsimp only
  exact koj_X4_returnStatement_51 x1 F1 G1 (COF.tr hK (COF.k hK1 rfl rfl rfl rfl))
theorem koj_X4_returnStatement_24 {fu : Nat} {F0 : PF} (z0 : Int32) (F : PF) (G : PG) (hK : COF F0 F) : PP (cb_X4_returnStatement_24 fu z0 F G) (fun _ F' _ => COF F0 F') := by
  unfold cb_X4_returnStatement_24
  refine PP.ite (fun c_1 => ?_) (fun c_1 => ?_)
  · skip
    exact koj_X4_returnStatement_36 z0 F G hK
  · skip
    exact koj_X4_returnStatement_51 z0 F G hK
theorem koj_X4_returnStatement_19 {fu : Nat} {F0 : PF} (F : PF) (G : PG) (hK : COF F0 F) : PP (cb_X4_returnStatement_19 fu F G) (fun _ F' _ => COF F0 F') := by
  unfold cb_X4_returnStatement_19
  exact koj_X4_returnStatement_24 (1 : Int32) F G hK
theorem koj_X4_returnStatement_23 {fu : Nat} {F0 : PF} (F : PF) (G : PG) (hK : COF F0 F) : PP (cb_X4_returnStatement_23 fu F G) (fun _ F' _ => COF F0 F') := by
  unfold cb_X4_returnStatement_23
  exact koj_X4_returnStatement_24 (0 : Int32) F G hK
theorem koj_X4_returnStatement_7 {fu : Nat} {F0 : PF} (F : PF) (G : PG) (hK : COF F0 F) : PP (cb_X4_returnStatement_7 fu F G) (fun _ F' _ => COF F0 F') := by
  unfold cb_X4_returnStatement_7
  refine PP.ite (fun c_1 => ?_) (fun c_1 => ?_)
  · skip
    exact koj_X4_returnStatement_19 F G hK
  · skip
    exact koj_X4_returnStatement_23 F G hK
theorem ko_X4_returnStatement {fu : Nat} (F : PF) (G : PG) : PP (cf_X4_returnStatement fu F G) (fun _ F' _ => COF F F') := by
  unfold cf_X4_returnStatement
  unfold cb_X4_returnStatement_0
  refine PP.bind (cw_X2_next F G) ?_
  intro r1 F1 G1 hK1
  dsimp only
  exact koj_X4_returnStatement_7 F1 G1 (COF.tr COF.rf (COF.k hK1 rfl rfl rfl rfl))
theorem koj_X4_oldValue_32 {fu : Nat} {F0 : PF} (F : PF) (G : PG) (hK : COF F0 F) : PP (cb_X4_oldValue_32 fu F G) (fun _ F' _ => COF F0 F') := by
  unfold cb_X4_oldValue_32
  refine PP.ret ?_
  exact hK
theorem koj_X4_oldValue_24 {fu : Nat} {F0 : PF} (x1 : Int32) (F : PF) (G : PG) (hK : COF F0 F) : PP (cb_X4_oldValue_24 fu x1 F G) (fun _ F' _ => COF F0 F') := by
  unfold cb_X4_oldValue_24
  refine PP.bind (ko_X3_load x1 F G) ?_
  intro r1 F1 G1 hK1
  dsimp only
  exact koj_X4_oldValue_32 F1 G1 (COF.tr hK hK1)
theorem koj_X4_oldValue_21 {fu : Nat} {F0 : PF} (F : PF) (G : PG) (hK : COF F0 F) : PP (cb_X4_oldValue_21 fu F G) (fun _ F' _ => COF F0 F') := by
  unfold cb_X4_oldValue_21
  exact koj_X4_oldValue_32 F G hK
theorem koj_X4_oldValue_13 {fu : Nat} {F0 : PF} (x1 : Int32) (F : PF) (G : PG) (hK : COF F0 F) : PP (cb_X4_oldValue_13 fu x1 F G) (fun _ F' _ => COF F0 F') := by
  unfold cb_X4_oldValue_13
  refine PP.bind (ko_X3_fetch x1 F G) ?_
  intro r1 F1 G1 hK1
  dsimp only
  exact koj_X4_oldValue_21 F1 G1 (COF.tr hK hK1)
theorem koj_X4_oldValue_4 {fu : Nat} {F0 : PF} (x1 : Int32) (F : PF) (G : PG) (hK : COF F0 F) : PP (cb_X4_oldValue_4 fu x1 F G) (fun _ F' _ => COF F0 F') := by
  unfold cb_X4_oldValue_4
  refine PP.bind (ko_X1_add (67 : Int32) F G) ?_
  intro r1 F1 G1 hK1
  dsimp only
  exact koj_X4_oldValue_13 x1 F1 G1 (COF.tr hK hK1)
theorem ko_X4_oldValue {fu : Nat} (x1 : Int32) (x2 : Int32) (F : PF) (G : PG) : PP (cf_X4_oldValue fu x1 x2 F G) (fun _ F' _ => COF F F') := by
  unfold cf_X4_oldValue
  unfold cb_X4_oldValue_0
  refine PP.ite (fun c_1 => ?_) (fun c_1 => ?_)
  · skip
    exact koj_X4_oldValue_24 x1 F G COF.rf
  · skip
    exact koj_X4_oldValue_4 x1 F G COF.rf
theorem koj_X4_simple_36 {fu : Nat} {F0 : PF} (F : PF) (G : PG) (hK : COF F0 F) : PP (cb_X4_simple_36 fu F G) (fun _ F' _ => COF F0 F') := by
  unfold cb_X4_simple_36
  refine PP.ret ?_
  exact hK
theorem koj_X4_simple_93 {fu : Nat} {F0 : PF} (F : PF) (G : PG) (hK : COF F0 F) : PP (cb_X4_simple_93 fu F G) (fun _ F' _ => COF F0 F') := by
  unfold cb_X4_simple_93
  refine PP.ret ?_
  exact hK
theorem koj_X4_simple_84 {fu : Nat} {F0 : PF} (F : PF) (G : PG) (hK : COF F0 F) : PP (cb_X4_simple_84 fu F G) (fun _ F' _ => COF F0 F') := by
  unfold cb_X4_simple_84
  refine PP.bind (ko_X1_add (68 : Int32) F G) ?_
  intro r1 F1 G1 hK1
  dsimp only
  exact koj_X4_simple_93 F1 G1 (COF.tr hK hK1)
theorem koj_X4_simple_75 {fu : Nat} {F0 : PF} (x1 : Int32) (x3 : Int32) (F : PF) (G : PG) (hK : COF F0 F) : PP (cb_X4_simple_75 fu x1 x3 F G) (fun _ F' _ => COF F0 F') := by
  unfold cb_X4_simple_75
  refine PP.bind (ko_X3_call x3 x1 F G) ?_
  intro r1 F1 G1 hK1
  dsimp only
  exact koj_X4_simple_84 F1 G1 (COF.tr hK hK1)
theorem koj_X4_simple_157 {fu : Nat} {F0 : PF} (F : PF) (G : PG) (hK : COF F0 F) : PP (cb_X4_simple_157 fu F G) (fun _ F' _ => COF F0 F') := by
  unfold cb_X4_simple_157
  refine PP.ret ?_
  exact hK
theorem koj_X4_simple_149 {fu : Nat} {F0 : PF} (F : PF) (G : PG) (hK : COF F0 F) : PP (cb_X4_simple_149 fu F G) (fun _ F' _ => COF F0 F') := by
  unfold cb_X4_simple_149
  refine PP.bind (cw_X2_fail (2 : Int32) F G) ?_
  intro r1 F1 G1 hK1
  dsimp only
  exact koj_X4_simple_157 F1 G1 (COF.tr hK (COF.k hK1 rfl rfl rfl rfl))
theorem koj_X4_simple_253 {fu : Nat} {F0 : PF} (F : PF) (G : PG) (hK : COF F0 F) : PP (cb_X4_simple_253 fu F G) (fun _ F' _ => COF F0 F') := by
  unfold cb_X4_simple_253
  refine PP.ret ?_
  exact hK
theorem koj_X4_simple_245 {fu : Nat} {F0 : PF} (x3 : Int32) (F : PF) (G : PG) (hK : COF F0 F) : PP (cb_X4_simple_245 fu x3 F G) (fun _ F' _ => COF F0 F') := by
  unfold cb_X4_simple_245
  refine PP.bind (ko_X3_store x3 F G) ?_
  intro r1 F1 G1 hK1
  dsimp only
  exact koj_X4_simple_253 F1 G1 (COF.tr hK hK1)
theorem koj_X4_simple_242 {fu : Nat} {F0 : PF} (F : PF) (G : PG) (hK : COF F0 F) : PP (cb_X4_simple_242 fu F G) (fun _ F' _ => COF F0 F') := by
  unfold cb_X4_simple_242
  exact koj_X4_simple_253 F G hK
theorem koj_X4_simple_234 {fu : Nat} {F0 : PF} (x3 : Int32) (F : PF) (G : PG) (hK : COF F0 F) : PP (cb_X4_simple_234 fu x3 F G) (fun _ F' _ => COF F0 F') := by
  unfold cb_X4_simple_234
  refine PP.bind (ko_X3_keep x3 F G) ?_
  intro r1 F1 G1 hK1
  dsimp only
  exact koj_X4_simple_242 F1 G1 (COF.tr hK hK1)
theorem koj_X4_simple_229 {fu : Nat} {F0 : PF} (x3 : Int32) (x4 : Int32) (F : PF) (G : PG) (hK : COF F0 F) : PP (cb_X4_simple_229 fu x3 x4 F G) (fun _ F' _ => COF F0 F') := by
  unfold cb_X4_simple_229
  refine PP.ite (fun c_1 => ?_) (fun c_1 => ?_)
  · skip
    exact koj_X4_simple_245 x3 F G hK
  · skip
    exact koj_X4_simple_234 x3 F G hK
theorem koj_X4_simple_213 {fu : Nat} {F0 : PF} (x3 : Int32) (x4 : Int32) (x5 : Int32) (F : PF) (G : PG) (hK : COF F0 F) : PP (cb_X4_simple_213 fu x3 x4 x5 F G) (fun _ F' _ => COF F0 F') := by
  unfold cb_X4_simple_213
  refine PP.ix (fun _ => ?_)
  refine PP.bind (ko_X1_add (tb_5 (x5 - (30 : Int32)).toNatClampNeg) F G) ?_
  intro r1 F1 G1 hK1
  dsimp only
  exact koj_X4_simple_229 x3 x4 F1 G1 (COF.tr hK hK1)
theorem koj_X4_simple_206 {fu : Nat} {F0 : PF} (x3 : Int32) (x4 : Int32) (x5 : Int32) (F : PF) (G : PG) (hK : COF F0 F) : PP (cb_X4_simple_206 fu x3 x4 x5 F G) (fun _ F' _ => COF F0 F') := by
  unfold cb_X4_simple_206
  refine PP.ite (fun c_1 => ?_) (fun c_1 => ?_)
  · skip
    exact koj_X4_simple_229 x3 x4 F G hK
  · skip
    exact koj_X4_simple_213 x3 x4 x5 F G hK
theorem koj_X4_simple_196 {fu : Nat} {F0 : PF} (x3 : Int32) (x4 : Int32) (x5 : Int32) (F : PF) (G : PG) (hK : COF F0 F) : PP (cb_X4_simple_196 fu x3 x4 x5 F G) (fun _ F' _ => COF F0 F') := by
  unfold cb_X4_simple_196
  refine PP.bind (ko_X1_addPair (66 : Int32) (1 : Int32) F G) ?_
  intro r1 F1 G1 hK1
  dsimp only
  exact koj_X4_simple_206 x3 x4 x5 F1 G1 (COF.tr hK hK1)
theorem koj_X4_simple_193 {fu : Nat} {F0 : PF} (x3 : Int32) (x4 : Int32) (x5 : Int32) (F : PF) (G : PG) (hK : COF F0 F) : PP (cb_X4_simple_193 fu x3 x4 x5 F G) (fun _ F' _ => COF F0 F') := by
  unfold cb_X4_simple_193
  exact koj_X4_simple_206 x3 x4 x5 F G hK
theorem koj_X4_simple_186 {fu : Nat} {F0 : PF} (x3 : Int32) (x4 : Int32) (x5 : Int32) (F : PF) (G : PG) (hK : COF F0 F) : PP (cb_X4_simple_186 fu x3 x4 x5 F G) (fun _ F' _ => COF F0 F') := by
  unfold cb_X4_simple_186
  refine PP.bind (ko_X3_expression F G) ?_
  intro r1 F1 G1 hK1
  dsimp only
  exact koj_X4_simple_193 x3 x4 x5 F1 G1 (COF.tr hK hK1)
theorem koj_X4_simple_179 {fu : Nat} {F0 : PF} (x3 : Int32) (x4 : Int32) (x5 : Int32) (F : PF) (G : PG) (hK : COF F0 F) : PP (cb_X4_simple_179 fu x3 x4 x5 F G) (fun _ F' _ => COF F0 F') := by
  unfold cb_X4_simple_179
  refine PP.ite (fun c_1 => ?_) (fun c_1 => ?_)
  · skip
    exact koj_X4_simple_196 x3 x4 x5 F G hK
  · skip
    exact koj_X4_simple_186 x3 x4 x5 F G hK
theorem koj_X4_simple_172 {fu : Nat} {F0 : PF} (x3 : Int32) (x4 : Int32) (x5 : Int32) (F : PF) (G : PG) (hK : COF F0 F) : PP (cb_X4_simple_172 fu x3 x4 x5 F G) (fun _ F' _ => COF F0 F') := by
  unfold cb_X4_simple_172
  refine PP.bind (ko_X4_oldValue x3 x4 F G) ?_
  intro r1 F1 G1 hK1
  dsimp only
  exact koj_X4_simple_179 x3 x4 x5 F1 G1 (COF.tr hK hK1)
theorem koj_X4_simple_165 {fu : Nat} {F0 : PF} (x3 : Int32) (x4 : Int32) (x5 : Int32) (F : PF) (G : PG) (hK : COF F0 F) : PP (cb_X4_simple_165 fu x3 x4 x5 F G) (fun _ F' _ => COF F0 F') := by
  unfold cb_X4_simple_165
  refine PP.ite (fun c_1 => ?_) (fun c_1 => ?_)
  · skip
    exact koj_X4_simple_179 x3 x4 x5 F G hK
  · skip
    exact koj_X4_simple_172 x3 x4 x5 F G hK
theorem koj_X4_simple_158 {fu : Nat} {F0 : PF} (x3 : Int32) (x4 : Int32) (x5 : Int32) (F : PF) (G : PG) (hK : COF F0 F) : PP (cb_X4_simple_158 fu x3 x4 x5 F G) (fun _ F' _ => COF F0 F') := by
  unfold cb_X4_simple_158
  refine PP.bind (cw_X2_next F G) ?_
  intro r1 F1 G1 hK1
  dsimp only
  exact koj_X4_simple_165 x3 x4 x5 F1 G1 (COF.tr hK (COF.k hK1 rfl rfl rfl rfl))
theorem koj_X4_simple_142 {fu : Nat} {F0 : PF} (x3 : Int32) (x4 : Int32) (x5 : Int32) (F : PF) (G : PG) (hK : COF F0 F) : PP (cb_X4_simple_142 fu x3 x4 x5 F G) (fun _ F' _ => COF F0 F') := by
  unfold cb_X4_simple_142
  refine PP.ite (fun c_1 => ?_) (fun c_1 => ?_)
  · skip
    exact koj_X4_simple_158 x3 x4 x5 F G hK
  · skip
    exact koj_X4_simple_149 F G hK
theorem koj_X4_simple_126 {fu : Nat} {F0 : PF} (x3 : Int32) (x4 : Int32) (F : PF) (G : PG) (hK : COF F0 F) : PP (cb_X4_simple_126 fu x3 x4 F G) (fun _ F' _ => COF F0 F') := by
  unfold cb_X4_simple_126
  refine PP.ite (fun c_1 => ?_) (fun c_1 => ?_)
  · skip
    exact koj_X4_simple_149 F G hK
  · skip
    exact koj_X4_simple_142 x3 x4 (F 11) F G hK
theorem koj_X4_simple_118 {fu : Nat} {F0 : PF} (x3 : Int32) (x4 : Int32) (F : PF) (G : PG) (hK : COF F0 F) : PP (cb_X4_simple_118 fu x3 x4 F G) (fun _ F' _ => COF F0 F') := by
  unfold cb_X4_simple_118
  refine PP.bind (ko_X3_index x3 F G) ?_
  intro r1 F1 G1 hK1
  dsimp only
  exact koj_X4_simple_126 x3 x4 F1 G1 (COF.tr hK hK1)
theorem koj_X4_simple_111 {fu : Nat} {F0 : PF} (x3 : Int32) (z0 : Int32) (F : PF) (G : PG) (hK : COF F0 F) : PP (cb_X4_simple_111 fu x3 z0 F G) (fun _ F' _ => COF F0 F') := by
  unfold cb_X4_simple_111
  refine PP.ite (fun c_1 => ?_) (fun c_1 => ?_)
  · skip
    exact koj_X4_simple_126 x3 z0 F G hK
  · skip
    exact koj_X4_simple_118 x3 z0 F G hK
theorem koj_X4_simple_106 {fu : Nat} {F0 : PF} (x3 : Int32) (F : PF) (G : PG) (hK : COF F0 F) : PP (cb_X4_simple_106 fu x3 F G) (fun _ F' _ => COF F0 F') := by
  unfold cb_X4_simple_106
  exact koj_X4_simple_111 x3 (1 : Int32) F G hK
theorem koj_X4_simple_110 {fu : Nat} {F0 : PF} (x3 : Int32) (F : PF) (G : PG) (hK : COF F0 F) : PP (cb_X4_simple_110 fu x3 F G) (fun _ F' _ => COF F0 F') := by
  unfold cb_X4_simple_110
  exact koj_X4_simple_111 x3 (0 : Int32) F G hK
theorem koj_X4_simple_94 {fu : Nat} {F0 : PF} (x3 : Int32) (F : PF) (G : PG) (hK : COF F0 F) : PP (cb_X4_simple_94 fu x3 F G) (fun _ F' _ => COF F0 F') := by
  unfold cb_X4_simple_94
  refine PP.ite (fun c_1 => ?_) (fun c_1 => ?_)
  · skip
    exact koj_X4_simple_106 x3 F G hK
  · skip
    exact koj_X4_simple_110 x3 F G hK
theorem koj_X4_simple_63 {fu : Nat} {F0 : PF} (x1 : Int32) (x3 : Int32) (F : PF) (G : PG) (hK : COF F0 F) : PP (cb_X4_simple_63 fu x1 x3 F G) (fun _ F' _ => COF F0 F') := by
  unfold cb_X4_simple_63
  refine PP.ite (fun c_1 => ?_) (fun c_1 => ?_)
  · skip
    exact koj_X4_simple_75 x1 x3 F G hK
  · skip
    exact koj_X4_simple_94 x3 F G hK
theorem koj_X4_simple_46 {fu : Nat} {F0 : PF} (x1 : Int32) (z0 : Int32) (F : PF) (G : PG) (hK : COF F0 F) : PP (cb_X4_simple_46 fu x1 z0 F G) (fun _ F' _ => COF F0 F') := by
  unfold cb_X4_simple_46
  refine PP.bind (cw_X5_wantPlace z0 x1 (F 11) F G) ?_
  intro r1 F1 G1 hK1
  dsimp only
  exact koj_X4_simple_63 x1 z0 F1 G1 (COF.tr hK (COF.k hK1 rfl rfl rfl rfl))
theorem koj_X4_simple_37 {fu : Nat} {F0 : PF} (x1 : Int32) (x2 : Int32) (F : PF) (G : PG) (hK : COF F0 F) : PP (cb_X4_simple_37 fu x1 x2 F G) (fun _ F' _ => COF F0 F') := by
  unfold cb_X4_simple_37
  refine PP.bind (cw_X5_meant x2 x1 F G) ?_
  intro r1 F1 G1 hK1
  dsimp only
  exact koj_X4_simple_46 x1 r1 F1 G1 (COF.tr hK (COF.k hK1 rfl rfl rfl rfl))
theorem koj_X4_simple_24 {fu : Nat} {F0 : PF} (x1 : Int32) (x2 : Int32) (F : PF) (G : PG) (hK : COF F0 F) : PP (cb_X4_simple_24 fu x1 x2 F G) (fun _ F' _ => COF F0 F') := by
  unfold cb_X4_simple_24
  refine PP.ite (fun c_1 => ?_) (fun c_1 => ?_)
  · skip
    exact koj_X4_simple_36 F G hK
  · skip
    exact koj_X4_simple_37 x1 x2 F G hK
theorem ko_X4_simple {fu : Nat} (F : PF) (G : PG) : PP (cf_X4_simple fu F G) (fun _ F' _ => COF F F') := by
  unfold cf_X4_simple
  unfold cb_X4_simple_0
  refine PP.bind (cw_X2_expect (2 : Int32) F G) ?_
  intro r1 F1 G1 hK1
  dsimp only
  exact koj_X4_simple_24 (F 13) (F 12) F1 G1 (COF.tr COF.rf (COF.k hK1 rfl rfl rfl rfl))
def kOI2 (rc : RC) : Prop := ∀ (i : Nat) (x y : Int32) (F : PF) (G : PG), PP (rc i x y F G) (fun _ F' _ => COF F F')
theorem koj_X4_block_12 {fu : Nat} (rc : RC) (ih : kOI2 rc) {F0 : PF} (F : PF) (G : PG) (hK : COF F0 F) : PP (cb_X4_block_12 fu rc F G) (fun _ F' _ => COF F0 F') := by
  unfold cb_X4_block_12
  refine PP.ret ?_
  exact hK
theorem koj_X4_block_65 {fu : Nat} (rc : RC) (ih : kOI2 rc) {F0 : PF} (F : PF) (G : PG) (hK : COF F0 F) : PP (cb_X4_block_65 fu rc F G) (fun _ F' _ => COF F0 F') := by
  unfold cb_X4_block_65
  refine PP.ret ?_
  exact hK
theorem koj_X4_block_56 {fu : Nat} (rc : RC) (ih : kOI2 rc) {F0 : PF} (F : PF) (G : PG) (hK : COF F0 F) : PP (cb_X4_block_56 fu rc F G) (fun _ F' _ => COF F0 F') := by
  unfold cb_X4_block_56
  refine PP.bind (cw_X2_closesWith (24 : Int32) F G) ?_
  intro r1 F1 G1 hK1
  dsimp only
  exact koj_X4_block_65 rc ih F1 G1 (COF.tr hK (COF.k hK1 rfl rfl rfl rfl))
theorem koj_X4_block_50 {fu : Nat} (rc : RC) (ih : kOI2 rc) {F0 : PF} (ag_15 : Int32 → PF → PG → PR) (hag_15 : ∀ (x1 : Int32) (F : PF) (G : PG) (hK : COF F0 F), PP (ag_15 x1 F G) (fun _ F' _ => COF F0 F')) (x1 : Int32) (F : PF) (G : PG) (hK : COF F0 F) : PP (cb_X4_block_50 fu rc ag_15 x1 F G) (fun _ F' _ => COF F0 F') := by
  unfold cb_X4_block_50
  exact hag_15 (x1 + (1 : Int32)) F G hK
theorem koj_X4_block_46 {fu : Nat} (rc : RC) (ih : kOI2 rc) {F0 : PF} (ag_15 : Int32 → PF → PG → PR) (hag_15 : ∀ (x1 : Int32) (F : PF) (G : PG) (hK : COF F0 F), PP (ag_15 x1 F G) (fun _ F' _ => COF F0 F')) (x1 : Int32) (F : PF) (G : PG) (hK : COF F0 F) : PP (cb_X4_block_46 fu rc ag_15 x1 F G) (fun _ F' _ => COF F0 F') := by
  unfold cb_X4_block_46
  refine PP.bind (ih 6 0 0 F G) ?_
  intro r1 F1 G1 hK1
  dsimp only
  exact koj_X4_block_50 rc ih ag_15 hag_15 x1 F1 G1 (COF.tr hK hK1)
theorem koj_X4_block_34 {fu : Nat} (rc : RC) (ih : kOI2 rc) {F0 : PF} (ag_15 : Int32 → PF → PG → PR) (hag_15 : ∀ (x1 : Int32) (F : PF) (G : PG) (hK : COF F0 F), PP (ag_15 x1 F G) (fun _ F' _ => COF F0 F')) (x1 : Int32) (F : PF) (G : PG) (hK : COF F0 F) : PP (cb_X4_block_34 fu rc ag_15 x1 F G) (fun _ F' _ => COF F0 F') := by
  unfold cb_X4_block_34
  refine PP.ite (fun c_1 => ?_) (fun c_1 => ?_)
  · skip
    exact koj_X4_block_56 rc ih F G hK
  · skip
    exact koj_X4_block_46 rc ih ag_15 hag_15 x1 F G hK
theorem koj_X4_block_22 {fu : Nat} (rc : RC) (ih : kOI2 rc) {F0 : PF} (ag_15 : Int32 → PF → PG → PR) (hag_15 : ∀ (x1 : Int32) (F : PF) (G : PG) (hK : COF F0 F), PP (ag_15 x1 F G) (fun _ F' _ => COF F0 F')) (x1 : Int32) (F : PF) (G : PG) (hK : COF F0 F) : PP (cb_X4_block_22 fu rc ag_15 x1 F G) (fun _ F' _ => COF F0 F') := by
  unfold cb_X4_block_22
  refine PP.ite (fun c_1 => ?_) (fun c_1 => ?_)
  · skip
    exact koj_X4_block_56 rc ih F G hK
  · skip
    exact koj_X4_block_34 rc ih ag_15 hag_15 x1 F G hK
theorem koz_X4_block_15 {fu : Nat} (rc : RC) (ih : kOI2 rc) {F0 : PF} : ∀ (n : Nat) (x1 : Int32) (F : PF) (G : PG) (hK : COF F0 F), PP (cl_X4_block_15 fu rc n x1 F G) (fun _ F' _ => COF F0 F') := by
  intro n
  induction n with
  | zero =>
    intro x1 F G hK
    exact PP.no
  | succ n ihn =>
    intro x1 F G hK
    show PP (cb_X4_block_15 fu rc (cl_X4_block_15 fu rc n) x1 F G) _
    unfold cb_X4_block_15
    refine PP.ite (fun c_1 => ?_) (fun c_1 => ?_)
    · skip
      exact koj_X4_block_56 rc ih F G hK
    · skip
      exact koj_X4_block_22 rc ih (cl_X4_block_15 fu rc n) ihn x1 F G hK
theorem koj_X4_block_13 {fu : Nat} (rc : RC) (ih : kOI2 rc) {F0 : PF} (F : PF) (G : PG) (hK : COF F0 F) : PP (cb_X4_block_13 fu rc F G) (fun _ F' _ => COF F0 F') := by
  unfold cb_X4_block_13
  exact koz_X4_block_15 rc ih fu (0 : Int32) F G hK
theorem koj_X4_block_9 {fu : Nat} (rc : RC) (ih : kOI2 rc) {F0 : PF} (z0 : Int32) (F : PF) (G : PG) (hK : COF F0 F) : PP (cb_X4_block_9 fu rc z0 F G) (fun _ F' _ => COF F0 F') := by
  unfold cb_X4_block_9
  refine PP.ite (fun c_1 => ?_) (fun c_1 => ?_)
  · skip
    exact koj_X4_block_12 rc ih F G hK
  · skip
    exact koj_X4_block_13 rc ih F G hK
theorem kot_X4_block {fu : Nat} (rc : RC) (ih : kOI2 rc) (F : PF) (G : PG) : PP (ch_X4_block fu rc F G) (fun _ F' _ => COF F F') := by
  unfold ch_X4_block
  unfold cb_X4_block_0
  refine PP.bind (cw_X2_opens (23 : Int32) F G) ?_
  intro r1 F1 G1 hK1
  dsimp only
  exact koj_X4_block_9 rc ih r1 F1 G1 (COF.tr COF.rf (COF.k hK1 rfl rfl rfl rfl))
theorem koj_X4_doStatement_12 {fu : Nat} (rc : RC) (ih : kOI2 rc) {F0 : PF} (F : PF) (G : PG) (hK : COF F0 F) : PP (cb_X4_doStatement_12 fu rc F G) (fun _ F' _ => COF F0 F') := by
  unfold cb_X4_doStatement_12
  refine PP.ret ?_
  exact hK
theorem koj_X4_doStatement_120 {fu : Nat} (rc : RC) (ih : kOI2 rc) {F0 : PF} (F : PF) (G : PG) (hK : COF F0 F) : PP (cb_X4_doStatement_120 fu rc F G) (fun _ F' _ => COF F0 F') := by
  unfold cb_X4_doStatement_120
  refine PP.ret ?_
  exact hK
theorem koj_X4_doStatement_113 {fu : Nat} (rc : RC) (ih : kOI2 rc) {F0 : PF} (F : PF) (G : PG) (hK : COF F0 F) : PP (cb_X4_doStatement_113 fu rc F G) (fun _ F' _ => COF F0 F') := by
  unfold cb_X4_doStatement_113
  refine PP.bind (cw_X2_closes F G) ?_
  intro r1 F1 G1 hK1
  dsimp only
  exact koj_X4_doStatement_120 rc ih F1 G1 (COF.tr hK (COF.k hK1 rfl rfl rfl rfl))
theorem koj_X4_doStatement_108 {fu : Nat} (rc : RC) (ih : kOI2 rc) {F0 : PF} (x2 : Int32) (F : PF) (G : PG) (hK : COF F0 F) : PP (cb_X4_doStatement_108 fu rc x2 F G) (fun _ F' _ => COF F0 F') := by
  unfold cb_X4_doStatement_108
  exact koj_X4_doStatement_113 rc ih (fup F 31 x2) G (COF.f (k := 31) rfl hK)
theorem koj_X4_doStatement_103 {fu : Nat} (rc : RC) (ih : kOI2 rc) {F0 : PF} (x1 : Int32) (x2 : Int32) (F : PF) (G : PG) (hK : COF F0 F) : PP (cb_X4_doStatement_103 fu rc x1 x2 F G) (fun _ F' _ => COF F0 F') := by
  unfold cb_X4_doStatement_103
  exact koj_X4_doStatement_108 rc ih x2 (fup F 30 x1) G (COF.f (k := 30) rfl hK)
theorem koj_X4_doStatement_85 {fu : Nat} (rc : RC) (ih : kOI2 rc) {F0 : PF} (x1 : Int32) (x2 : Int32) (F : PF) (G : PG) (hK : COF F0 F) : PP (cb_X4_doStatement_85 fu rc x1 x2 F G) (fun _ F' _ => COF F0 F') := by
  unfold cb_X4_doStatement_85
  refine PP.bind (cw_X1_aim (F 30) (F 6) F G) ?_
  intro r1 F1 G1 hK1
  dsimp only
  exact koj_X4_doStatement_103 rc ih x1 x2 F1 G1 (COF.tr hK (COF.k hK1 rfl rfl rfl rfl))
theorem koj_X4_doStatement_75 {fu : Nat} (rc : RC) (ih : kOI2 rc) {F0 : PF} (x1 : Int32) (x2 : Int32) (x3 : Int32) (F : PF) (G : PG) (hK : COF F0 F) : PP (cb_X4_doStatement_75 fu rc x1 x2 x3 F G) (fun _ F' _ => COF F0 F') := by
  unfold cb_X4_doStatement_75
  refine PP.bind (ko_X1_addPair (85 : Int32) x3 F G) ?_
  intro r1 F1 G1 hK1
  dsimp only
  exact koj_X4_doStatement_85 rc ih x1 x2 F1 G1 (COF.tr hK hK1)
theorem koj_X4_doStatement_66 {fu : Nat} (rc : RC) (ih : kOI2 rc) {F0 : PF} (x1 : Int32) (x2 : Int32) (x3 : Int32) (F : PF) (G : PG) (hK : COF F0 F) : PP (cb_X4_doStatement_66 fu rc x1 x2 x3 F G) (fun _ F' _ => COF F0 F') := by
  unfold cb_X4_doStatement_66
  refine PP.bind (cw_X2_expect (26 : Int32) F G) ?_
  intro r1 F1 G1 hK1
  dsimp only
  exact koj_X4_doStatement_75 rc ih x1 x2 x3 F1 G1 (COF.tr hK (COF.k hK1 rfl rfl rfl rfl))
theorem koj_X4_doStatement_62 {fu : Nat} (rc : RC) (ih : kOI2 rc) {F0 : PF} (x1 : Int32) (x2 : Int32) (x3 : Int32) (F : PF) (G : PG) (hK : COF F0 F) : PP (cb_X4_doStatement_62 fu rc x1 x2 x3 F G) (fun _ F' _ => COF F0 F') := by
  unfold cb_X4_doStatement_62
  refine PP.bind (ko_X4_condition F G) ?_
  intro r1 F1 G1 hK1
  dsimp only
  exact koj_X4_doStatement_66 rc ih x1 x2 x3 F1 G1 (COF.tr hK hK1)
theorem koj_X4_doStatement_53 {fu : Nat} (rc : RC) (ih : kOI2 rc) {F0 : PF} (x1 : Int32) (x2 : Int32) (x3 : Int32) (F : PF) (G : PG) (hK : COF F0 F) : PP (cb_X4_doStatement_53 fu rc x1 x2 x3 F G) (fun _ F' _ => COF F0 F') := by
  unfold cb_X4_doStatement_53
  refine PP.bind (cw_X2_expect (10 : Int32) F G) ?_
  intro r1 F1 G1 hK1
  dsimp only
  exact koj_X4_doStatement_62 rc ih x1 x2 x3 F1 G1 (COF.tr hK (COF.k hK1 rfl rfl rfl rfl))
theorem koj_X4_doStatement_35 {fu : Nat} (rc : RC) (ih : kOI2 rc) {F0 : PF} (x1 : Int32) (x2 : Int32) (x3 : Int32) (F : PF) (G : PG) (hK : COF F0 F) : PP (cb_X4_doStatement_35 fu rc x1 x2 x3 F G) (fun _ F' _ => COF F0 F') := by
  unfold cb_X4_doStatement_35
  refine PP.bind (cw_X1_aim (F 31) (F 6) F G) ?_
  intro r1 F1 G1 hK1
  dsimp only
  exact koj_X4_doStatement_53 rc ih x1 x2 x3 F1 G1 (COF.tr hK (COF.k hK1 rfl rfl rfl rfl))
theorem koj_X4_doStatement_13 {fu : Nat} (rc : RC) (ih : kOI2 rc) {F0 : PF} (F : PF) (G : PG) (hK : COF F0 F) : PP (cb_X4_doStatement_13 fu rc F G) (fun _ F' _ => COF F0 F') := by
  unfold cb_X4_doStatement_13
  refine PP.bind (ih 5 0 0 F G) ?_
  intro r1 F1 G1 hK1
  dsimp only
  exact koj_X4_doStatement_35 rc ih (F 30) (F 31) (F 6) F1 G1 (COF.tr hK hK1)
theorem koj_X4_doStatement_9 {fu : Nat} (rc : RC) (ih : kOI2 rc) {F0 : PF} (z0 : Int32) (F : PF) (G : PG) (hK : COF F0 F) : PP (cb_X4_doStatement_9 fu rc z0 F G) (fun _ F' _ => COF F0 F') := by
  unfold cb_X4_doStatement_9
  refine PP.ite (fun c_1 => ?_) (fun c_1 => ?_)
  · skip
    exact koj_X4_doStatement_12 rc ih F G hK
  · skip
    exact koj_X4_doStatement_13 rc ih F G hK
theorem kot_X4_doStatement {fu : Nat} (rc : RC) (ih : kOI2 rc) (F : PF) (G : PG) : PP (ch_X4_doStatement fu rc F G) (fun _ F' _ => COF F F') := by
  unfold ch_X4_doStatement
  unfold cb_X4_doStatement_0
  refine PP.bind (cw_X2_opens (11 : Int32) F G) ?_
  intro r1 F1 G1 hK1
  dsimp only
  exact koj_X4_doStatement_9 rc ih r1 F1 G1 (COF.tr COF.rf (COF.k hK1 rfl rfl rfl rfl))
theorem koj_X4_forStatement_12 {fu : Nat} (rc : RC) (ih : kOI2 rc) {F0 : PF} (F : PF) (G : PG) (hK : COF F0 F) : PP (cb_X4_forStatement_12 fu rc F G) (fun _ F' _ => COF F0 F') := by
  unfold cb_X4_forStatement_12
  refine PP.ret ?_
  exact hK
theorem koj_X4_forStatement_303 {fu : Nat} (rc : RC) (ih : kOI2 rc) {F0 : PF} (F : PF) (G : PG) (hK : COF F0 F) : PP (cb_X4_forStatement_303 fu rc F G) (fun _ F' _ => COF F0 F') := by
  unfold cb_X4_forStatement_303
  refine PP.ret ?_
  exact hK
theorem koj_X4_forStatement_296 {fu : Nat} (rc : RC) (ih : kOI2 rc) {F0 : PF} (F : PF) (G : PG) (hK : COF F0 F) : PP (cb_X4_forStatement_296 fu rc F G) (fun _ F' _ => COF F0 F') := by
  unfold cb_X4_forStatement_296
  refine PP.bind (cw_X2_closes F G) ?_
  intro r1 F1 G1 hK1
  dsimp only
  exact koj_X4_forStatement_303 rc ih F1 G1 (COF.tr hK (COF.k hK1 rfl rfl rfl rfl))
theorem koj_X4_forStatement_291 {fu : Nat} (rc : RC) (ih : kOI2 rc) {F0 : PF} (x2 : Int32) (F : PF) (G : PG) (hK : COF F0 F) : PP (cb_X4_forStatement_291 fu rc x2 F G) (fun _ F' _ => COF F0 F') := by
  unfold cb_X4_forStatement_291
  exact koj_X4_forStatement_296 rc ih (fup F 31 x2) G (COF.f (k := 31) rfl hK)
theorem koj_X4_forStatement_286 {fu : Nat} (rc : RC) (ih : kOI2 rc) {F0 : PF} (x1 : Int32) (x2 : Int32) (F : PF) (G : PG) (hK : COF F0 F) : PP (cb_X4_forStatement_286 fu rc x1 x2 F G) (fun _ F' _ => COF F0 F') := by
  unfold cb_X4_forStatement_286
  exact koj_X4_forStatement_291 rc ih x2 (fup F 30 x1) G (COF.f (k := 30) rfl hK)
theorem koj_X4_forStatement_279 {fu : Nat} (rc : RC) (ih : kOI2 rc) {F0 : PF} (x1 : Int32) (x2 : Int32) (F : PF) (G : PG) (hK : COF F0 F) : PP (cb_X4_forStatement_279 fu rc x1 x2 F G) (fun _ F' _ => COF F0 F') := by
  unfold cb_X4_forStatement_279
  refine PP.bind (cw_X5_leave F G) ?_
  intro r1 F1 G1 hK1
  dsimp only
  exact koj_X4_forStatement_286 rc ih x1 x2 F1 G1 (COF.tr hK (COF.k hK1 rfl rfl rfl rfl))
