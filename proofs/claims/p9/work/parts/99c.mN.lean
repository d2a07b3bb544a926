def M7 (F F1 : PF) : Prop := F1 47 = 0 → F 47 = 0
theorem M7.rf {F : PF} : M7 F F := id
theorem M7.tr {F F1 F2 : PF} (h : M7 F F1) (h1 : M7 F1 F2) : M7 F F2 := fun q => h (h1 q)
theorem M7.f {F F1 : PF} {k : Nat} {x : Int32} (e : 47 ≠ k) (h : M7 F F1) : M7 F (fup F1 k x) := fun q => h ((fup_n e).symm.trans q)
theorem M7.kx {a b : List Nat} {F F1 : PF} {G G1 : PG} (h : KX a b F G F1 G1) (e : a.contains 47 = false) : M7 F F1 := fun q => (h.1 47 e).symm.trans q
def mNI (rc : RC) : Prop := ∀ (i : Nat) (x y : Int32) (F : PF) (G : PG), PP (rc i x y F G) (fun _ F1 _ => M7 F F1)
theorem mn_argument {fu : Nat} (x : Int32) (y : Int32) (F : PF) (G : PG) : PP (mf_argument fu x y F G) (fun _ F' _ => M7 F F') := PP.mono (mm_argument x y F G) (fun _ _ _ h => h.1)
theorem mn_call {fu : Nat} (x : Int32) (y : Int32) (F : PF) (G : PG) : PP (mf_call fu x y F G) (fun _ F' _ => M7 F F') := PP.mono (mm_call x y F G) (fun _ _ _ h => h.1)
theorem mn_chain {fu : Nat} (F : PF) (G : PG) : PP (mf_chain fu F G) (fun _ F' _ => M7 F F') := PP.mono (mm_chain F G) (fun _ _ _ h => h.1)
theorem mn_element {fu : Nat} (x : Int32) (F : PF) (G : PG) : PP (mf_element fu x F G) (fun _ F' _ => M7 F F') := PP.mono (mm_element x F G) (fun _ _ _ h => h.1)
theorem mn_expression {fu : Nat} (F : PF) (G : PG) : PP (mf_expression fu F G) (fun _ F' _ => M7 F F') := PP.mono (mm_expression F G) (fun _ _ _ h => h.1)
theorem mn_inConstant {fu : Nat} (x : Int32) (F : PF) (G : PG) : PP (mf_inConstant fu x F G) (fun _ F' _ => M7 F F') := PP.mono (mm_inConstant x F G) (fun _ _ _ h => h.1)
theorem mn_named {fu : Nat} (x : Int32) (F : PF) (G : PG) : PP (mf_named fu x F G) (fun _ F' _ => M7 F F') := PP.mono (mm_named x F G) (fun _ _ _ h => h.1)
theorem mn_operand {fu : Nat} (F : PF) (G : PG) : PP (mf_operand fu F G) (fun _ F' _ => M7 F F') := PP.mono (mm_operand F G) (fun _ _ _ h => h.1)
theorem mn_plain {fu : Nat} (F : PF) (G : PG) : PP (mf_plain fu F G) (fun _ F' _ => M7 F F') := PP.mono (mm_plain F G) (fun _ _ _ h => h.1)
theorem mnj_value_60 {fu : Nat} {F0 : PF} (x2 : Int32) (z0 : Int32) (F : PF) (G : PG) (hM : M7 F0 F) : PP (mb_value_60 fu x2 z0 F G) (fun _ F' _ => M7 F0 F') := by
  unfold mb_value_60
  unfold mb_value_66
  refine PP.ret ?_
  exact (M7.f (k := 60) (by decide) hM)
theorem mnj_value_51 {fu : Nat} {F0 : PF} (x2 : Int32) (F : PF) (G : PG) (hM : M7 F0 F) : PP (mb_value_51 fu x2 F G) (fun _ F' _ => M7 F0 F') := by
  unfold mb_value_51
  exact mnj_value_60 x2 (0 : Int32) F G hM
theorem mn_value {fu : Nat} (F : PF) (G : PG) : PP (mf_value fu F G) (fun _ F' _ => M7 F F') := by
  unfold mf_value
  unfold mb_value_0
  unfold mb_value_10
  unfold mb_value_15
  refine PP.bind (mn_expression (fup (fup F 54 (1 : Int32)) 55 (0 : Int32)) G) ?_
  intro r1 F1 G1 hM1
  dsimp only
  unfold mb_value_24
  refine PP.bz (fun _ => ?_)
  unfold mb_value_30
  refine PP.ite (fun c_2 => ?_) (fun c_2 => ?_)
  · skip
    exact mnj_value_51 (F 60) (fup F1 54 (F 54)) G1 (M7.f (k := 54) (by decide) (M7.tr (M7.f (k := 55) (by decide) (M7.f (k := 54) (by decide) M7.rf)) hM1))
  · skip
    unfold mb_value_37
    refine PP.ite (fun c_3 => ?_) (fun c_3 => ?_)
    · skip
      exact mnj_value_51 (F 60) (fup F1 54 (F 54)) G1 (M7.f (k := 54) (by decide) (M7.tr (M7.f (k := 55) (by decide) (M7.f (k := 54) (by decide) M7.rf)) hM1))
    · skip
      unfold mb_value_44
      refine PP.ite (fun c_4 => ?_) (fun c_4 => ?_)
      · skip
        unfold mb_value_55
        refine PP.bind (mw_reckon (F 60) (fup F1 54 (F 54)) G1) ?_
        intro r5 F5 G5 hM5
        dsimp only
        exact mnj_value_60 (F 60) r5 F5 G5 (M7.tr (M7.f (k := 54) (by decide) (M7.tr (M7.f (k := 55) (by decide) (M7.f (k := 54) (by decide) M7.rf)) hM1)) (M7.kx hM5 rfl))
      · skip
        exact mnj_value_51 (F 60) (fup F1 54 (F 54)) G1 (M7.f (k := 54) (by decide) (M7.tr (M7.f (k := 55) (by decide) (M7.f (k := 54) (by decide) M7.rf)) hM1))
theorem mnj_sizeHere_29 {fu : Nat} {F0 : PF} (F : PF) (G : PG) (hM : M7 F0 F) : PP (mb_sizeHere_29 fu F G) (fun _ F' _ => M7 F0 F') := by
  unfold mb_sizeHere_29
  refine PP.ret ?_
  exact hM
theorem mnj_sizeHere_54 {fu : Nat} {F0 : PF} (x1 : Int32) (F : PF) (G : PG) (hM : M7 F0 F) : PP (mb_sizeHere_54 fu x1 F G) (fun _ F' _ => M7 F0 F') := by
  unfold mb_sizeHere_54
  refine PP.bind (mm_note (10 : Int32) x1 (by decide) F G) ?_
  intro r1 F1 G1 hM1
  dsimp only
  unfold mb_sizeHere_61
  refine PP.ret ?_
  exact (M7.tr hM hM1.1)
theorem mn_sizeHere {fu : Nat} (F : PF) (G : PG) : PP (mf_sizeHere fu F G) (fun _ F' _ => M7 F F') := by
  unfold mf_sizeHere
  unfold mb_sizeHere_0
  refine PP.ix (fun _ => ?_)
  refine PP.bind (mn_value F G) ?_
  intro r1 F1 G1 hM1
  dsimp only
  unfold mb_sizeHere_14
  refine PP.ite (fun c_2 => ?_) (fun c_2 => ?_)
  · skip
    exact mnj_sizeHere_29 F1 G1 (M7.tr M7.rf hM1)
  · skip
    unfold mb_sizeHere_22
    refine PP.ite (fun c_3 => ?_) (fun c_3 => ?_)
    · skip
      exact mnj_sizeHere_29 F1 G1 (M7.tr M7.rf hM1)
    · skip
      unfold mb_sizeHere_31
      refine PP.ite (fun c_4 => ?_) (fun c_4 => ?_)
      · skip
        unfold mb_sizeHere_40
        refine PP.ite (fun c_5 => ?_) (fun c_5 => ?_)
        · skip
          exact mnj_sizeHere_54 (G 6 (F 42).toNatClampNeg) F1 G1 (M7.tr M7.rf hM1)
        · skip
          unfold mb_sizeHere_45
          refine PP.ite (fun c_6 => ?_) (fun c_6 => ?_)
          · skip
            exact mnj_sizeHere_54 (G 6 (F 42).toNatClampNeg) F1 G1 (M7.tr M7.rf hM1)
          · skip
            unfold mb_sizeHere_52
            refine PP.ret ?_
            exact (M7.tr M7.rf hM1)
      · skip
        unfold mb_sizeHere_38
        refine PP.ret ?_
        exact (M7.tr M7.rf hM1)
theorem mnj_twice_142 {fu : Nat} {F0 : PF} (F : PF) (G : PG) (hM : M7 F0 F) : PP (mb_twice_142 fu F G) (fun _ F' _ => M7 F0 F') := by
  unfold mb_twice_142
  refine PP.ret ?_
  exact hM
theorem mnj_twice_127 {fu : Nat} {F0 : PF} (x1 : Int32) (x2 : Int32) (F : PF) (G : PG) (hM : M7 F0 F) : PP (mb_twice_127 fu x1 x2 F G) (fun _ F' _ => M7 F0 F') := by
  unfold mb_twice_127
  refine PP.ite (fun c_1 => ?_) (fun c_1 => ?_)
  · skip
    exact mnj_twice_142 F G hM
  · skip
    unfold mb_twice_131
    refine PP.ix (fun _ => ?_)
    refine PP.bind (mm_note (5 : Int32) (G 6 x1.toNatClampNeg) (by decide) F G) ?_
    intro r2 F2 G2 hM2
    dsimp only
    exact mnj_twice_142 F2 G2 (M7.tr hM hM2.1)
theorem mnj_twice_120 {fu : Nat} {F0 : PF} (ag_66 : Int32 → Int32 → Int32 → PF → PG → PR) (hag_66 : ∀ (x1 : Int32) (x2 : Int32) (x3 : Int32) (F : PF) (G : PG) (hM : M7 F0 F), PP (ag_66 x1 x2 x3 F G) (fun _ F' _ => M7 F0 F')) (x1 : Int32) (x3 : Int32) (z0 : Int32) (F : PF) (G : PG) (hM : M7 F0 F) : PP (mb_twice_120 fu ag_66 x1 x3 z0 F G) (fun _ F' _ => M7 F0 F') := by
  unfold mb_twice_120
  exact hag_66 x1 z0 (x3 + (1 : Int32)) F G hM
theorem mnj_twice_119 {fu : Nat} {F0 : PF} (ag_66 : Int32 → Int32 → Int32 → PF → PG → PR) (hag_66 : ∀ (x1 : Int32) (x2 : Int32) (x3 : Int32) (F : PF) (G : PG) (hM : M7 F0 F), PP (ag_66 x1 x2 x3 F G) (fun _ F' _ => M7 F0 F')) (x1 : Int32) (x3 : Int32) (F : PF) (G : PG) (hM : M7 F0 F) : PP (mb_twice_119 fu ag_66 x1 x3 F G) (fun _ F' _ => M7 F0 F') := by
  unfold mb_twice_119
  exact mnj_twice_120 ag_66 hag_66 x1 x3 (0 : Int32) F G hM
theorem mnj_twice_115 {fu : Nat} {F0 : PF} (ag_66 : Int32 → Int32 → Int32 → PF → PG → PR) (hag_66 : ∀ (x1 : Int32) (x2 : Int32) (x3 : Int32) (F : PF) (G : PG) (hM : M7 F0 F), PP (ag_66 x1 x2 x3 F G) (fun _ F' _ => M7 F0 F')) (x1 : Int32) (x3 : Int32) (F : PF) (G : PG) (hM : M7 F0 F) : PP (mb_twice_115 fu ag_66 x1 x3 F G) (fun _ F' _ => M7 F0 F') := by
  unfold mb_twice_115
  exact mnj_twice_120 ag_66 hag_66 x1 x3 (1 : Int32) F G hM
theorem mnz_twice_66 {fu : Nat} {F0 : PF} : ∀ (n : Nat) (x1 : Int32) (x2 : Int32) (x3 : Int32) (F : PF) (G : PG) (hM : M7 F0 F), PP (ml_twice_66 fu n x1 x2 x3 F G) (fun _ F' _ => M7 F0 F') := by
  intro n
  induction n with
  | zero =>
    intro x1 x2 x3 F G hM
    exact PP.no
  | succ n ihn =>
    intro x1 x2 x3 F G hM
    show PP (mb_twice_66 fu (ml_twice_66 fu n) x1 x2 x3 F G) _
    unfold mb_twice_66
    refine PP.ite (fun c_1 => ?_) (fun c_1 => ?_)
    · skip
      exact mnj_twice_127 x1 x2 F G hM
    · skip
      unfold mb_twice_74
      refine PP.ite (fun c_2 => ?_) (fun c_2 => ?_)
      · skip
        unfold mb_twice_81
        refine PP.ite (fun c_3 => ?_) (fun c_3 => ?_)
        · skip
          unfold mb_twice_85
          refine PP.ix (fun _ => ?_)
          refine PP.ix (fun _ => ?_)
          refine PP.ite (fun c_4 => ?_) (fun c_4 => ?_)
          · skip
            unfold mb_twice_100
            refine PP.ix (fun _ => ?_)
            refine PP.ix (fun _ => ?_)
            refine PP.ite (fun c_5 => ?_) (fun c_5 => ?_)
            · skip
              exact mnj_twice_119 (ml_twice_66 fu n) ihn x1 x3 F G hM
            · skip
              exact mnj_twice_115 (ml_twice_66 fu n) ihn x1 x3 F G hM
          · skip
            exact mnj_twice_119 (ml_twice_66 fu n) ihn x1 x3 F G hM
        · skip
          exact mnj_twice_115 (ml_twice_66 fu n) ihn x1 x3 F G hM
      · skip
        exact mnj_twice_127 x1 x2 F G hM
theorem mnj_twice_57 {fu : Nat} {F0 : PF} (ag_12 : Int32 → Int32 → Int32 → PF → PG → PR) (hag_12 : ∀ (x1 : Int32) (x2 : Int32) (x3 : Int32) (F : PF) (G : PG) (hM : M7 F0 F), PP (ag_12 x1 x2 x3 F G) (fun _ F' _ => M7 F0 F')) (x1 : Int32) (x3 : Int32) (z0 : Int32) (F : PF) (G : PG) (hM : M7 F0 F) : PP (mb_twice_57 fu ag_12 x1 x3 z0 F G) (fun _ F' _ => M7 F0 F') := by
  unfold mb_twice_57
  exact hag_12 x1 z0 (x3 + (1 : Int32)) F G hM
theorem mnj_twice_52 {fu : Nat} {F0 : PF} (ag_12 : Int32 → Int32 → Int32 → PF → PG → PR) (hag_12 : ∀ (x1 : Int32) (x2 : Int32) (x3 : Int32) (F : PF) (G : PG) (hM : M7 F0 F), PP (ag_12 x1 x2 x3 F G) (fun _ F' _ => M7 F0 F')) (x1 : Int32) (x3 : Int32) (F : PF) (G : PG) (hM : M7 F0 F) : PP (mb_twice_52 fu ag_12 x1 x3 F G) (fun _ F' _ => M7 F0 F') := by
  unfold mb_twice_52
  exact mnj_twice_57 ag_12 hag_12 x1 x3 (1 : Int32) F G hM
theorem mnj_twice_56 {fu : Nat} {F0 : PF} (ag_12 : Int32 → Int32 → Int32 → PF → PG → PR) (hag_12 : ∀ (x1 : Int32) (x2 : Int32) (x3 : Int32) (F : PF) (G : PG) (hM : M7 F0 F), PP (ag_12 x1 x2 x3 F G) (fun _ F' _ => M7 F0 F')) (x1 : Int32) (x3 : Int32) (F : PF) (G : PG) (hM : M7 F0 F) : PP (mb_twice_56 fu ag_12 x1 x3 F G) (fun _ F' _ => M7 F0 F') := by
  unfold mb_twice_56
  exact mnj_twice_57 ag_12 hag_12 x1 x3 (0 : Int32) F G hM
theorem mnz_twice_12 {fu : Nat} {F0 : PF} : ∀ (n : Nat) (x1 : Int32) (x2 : Int32) (x3 : Int32) (F : PF) (G : PG) (hM : M7 F0 F), PP (ml_twice_12 fu n x1 x2 x3 F G) (fun _ F' _ => M7 F0 F') := by
  intro n
  induction n with
  | zero =>
    intro x1 x2 x3 F G hM
    exact PP.no
  | succ n ihn =>
    intro x1 x2 x3 F G hM
    show PP (mb_twice_12 fu (ml_twice_12 fu n) x1 x2 x3 F G) _
    unfold mb_twice_12
    refine PP.ite (fun c_1 => ?_) (fun c_1 => ?_)
    · skip
      unfold mb_twice_64
      exact mnz_twice_66 fu x1 x2 (0 : Int32) F G hM
    · skip
      unfold mb_twice_20
      refine PP.ite (fun c_2 => ?_) (fun c_2 => ?_)
      · skip
        unfold mb_twice_24
        refine PP.ix (fun _ => ?_)
        refine PP.ite (fun c_3 => ?_) (fun c_3 => ?_)
        · skip
          unfold mb_twice_37
          refine PP.ix (fun _ => ?_)
          refine PP.ix (fun _ => ?_)
          refine PP.ite (fun c_4 => ?_) (fun c_4 => ?_)
          · skip
            exact mnj_twice_52 (ml_twice_12 fu n) ihn x1 x3 F G hM
          · skip
            exact mnj_twice_56 (ml_twice_12 fu n) ihn x1 x3 F G hM
        · skip
          exact mnj_twice_56 (ml_twice_12 fu n) ihn x1 x3 F G hM
      · skip
        exact mnj_twice_52 (ml_twice_12 fu n) ihn x1 x3 F G hM
theorem mn_twice {fu : Nat} (x1 : Int32) (F : PF) (G : PG) : PP (mf_twice fu x1 F G) (fun _ F' _ => M7 F F') := by
  unfold mf_twice
  unfold mb_twice_0
  refine PP.ite (fun c_1 => ?_) (fun c_1 => ?_)
  · skip
    unfold mb_twice_7
    refine PP.ret ?_
    exact M7.rf
  · skip
    unfold mb_twice_8
    exact mnz_twice_12 fu x1 (0 : Int32) (0 : Int32) F G M7.rf
theorem mnj_array_459 {fu : Nat} {F0 : PF} (z0 : Int32) (z1 : Int32) (z2 : Int32) (z3 : Int32) (z4 : Int32) (F : PF) (G : PG) (hM : M7 F0 F) : PP (mb_array_459 fu z0 z1 z2 z3 z4 F G) (fun _ F' _ => M7 F0 F') := by
  unfold mb_array_459
  refine PP.bind (mw_declare z4 z3 z2 z1 z0 (0 : Int32) F G) ?_
  intro r1 F1 G1 hM1
  dsimp only
  unfold mb_array_463
  refine PP.ret ?_
  exact (M7.tr hM (M7.kx hM1 rfl))
theorem mnj_array_443 {fu : Nat} {F0 : PF} (x1 : Int32) (x2 : Int32) (x3 : Int32) (x4 : Int32) (F : PF) (G : PG) (hM : M7 F0 F) : PP (mb_array_443 fu x1 x2 x3 x4 F G) (fun _ F' _ => M7 F0 F') := by
  unfold mb_array_443
  refine PP.ite (fun c_1 => ?_) (fun c_1 => ?_)
  · skip
    unfold mb_array_454
    exact mnj_array_459 (1 : Int32) x4 x2 (2 : Int32) x1 F G hM
  · skip
    unfold mb_array_458
    exact mnj_array_459 x3 x4 x2 (2 : Int32) x1 F G hM
theorem mnj_array_432 {fu : Nat} {F0 : PF} (x1 : Int32) (x2 : Int32) (x3 : Int32) (x4 : Int32) (F : PF) (G : PG) (hM : M7 F0 F) : PP (mb_array_432 fu x1 x2 x3 x4 F G) (fun _ F' _ => M7 F0 F') := by
  unfold mb_array_432
  refine PP.bind (mw_closeSign (27 : Int32) F G) ?_
  intro r1 F1 G1 hM1
  dsimp only
  unfold mb_array_438
  refine PP.ite (fun c_2 => ?_) (fun c_2 => ?_)
  · skip
    unfold mb_array_441
    refine PP.ret ?_
    exact (M7.tr hM (M7.kx hM1 rfl))
  · skip
    exact mnj_array_443 x1 x2 x3 x4 F1 G1 (M7.tr hM (M7.kx hM1 rfl))
theorem mnj_array_425 {fu : Nat} {F0 : PF} (ag_297 : Int32 → Int32 → Int32 → Int32 → Int32 → Int32 → Int32 → PF → PG → PR) (hag_297 : ∀ (x1 : Int32) (x2 : Int32) (x3 : Int32) (x4 : Int32) (x7 : Int32) (x8 : Int32) (x9 : Int32) (F : PF) (G : PG) (hM : M7 F0 F), PP (ag_297 x1 x2 x3 x4 x7 x8 x9 F G) (fun _ F' _ => M7 F0 F')) (x1 : Int32) (x2 : Int32) (x3 : Int32) (x4 : Int32) (x7 : Int32) (x8 : Int32) (x9 : Int32) (z0 : Int32) (z1 : Int32) (F : PF) (G : PG) (hM : M7 F0 F) : PP (mb_array_425 fu ag_297 x1 x2 x3 x4 x7 x8 x9 z0 z1 F G) (fun _ F' _ => M7 F0 F') := by
  unfold mb_array_425
  unfold mb_array_429
  exact hag_297 x1 x2 x3 x4 x7 x8 x9 (fup F 42 (z1 + z0)) G (M7.f (k := 42) (by decide) hM)
theorem mnj_array_408 {fu : Nat} {F0 : PF} (ag_297 : Int32 → Int32 → Int32 → Int32 → Int32 → Int32 → Int32 → PF → PG → PR) (hag_297 : ∀ (x1 : Int32) (x2 : Int32) (x3 : Int32) (x4 : Int32) (x7 : Int32) (x8 : Int32) (x9 : Int32) (F : PF) (G : PG) (hM : M7 F0 F), PP (ag_297 x1 x2 x3 x4 x7 x8 x9 F G) (fun _ F' _ => M7 F0 F')) (x1 : Int32) (x2 : Int32) (x3 : Int32) (x4 : Int32) (x7 : Int32) (x8 : Int32) (z0 : Int32) (F : PF) (G : PG) (hM : M7 F0 F) : PP (mb_array_408 fu ag_297 x1 x2 x3 x4 x7 x8 z0 F G) (fun _ F' _ => M7 F0 F') := by
  unfold mb_array_408
  refine PP.ite (fun c_1 => ?_) (fun c_1 => ?_)
  · skip
    unfold mb_array_424
    exact mnj_array_425 ag_297 hag_297 x1 x2 x3 x4 x7 x8 z0 (0 : Int32) (F 42) F G hM
  · skip
    unfold mb_array_420
    exact mnj_array_425 ag_297 hag_297 x1 x2 x3 x4 x7 x8 z0 (1 : Int32) (F 42) F G hM
theorem mnj_array_407 {fu : Nat} {F0 : PF} (ag_297 : Int32 → Int32 → Int32 → Int32 → Int32 → Int32 → Int32 → PF → PG → PR) (hag_297 : ∀ (x1 : Int32) (x2 : Int32) (x3 : Int32) (x4 : Int32) (x7 : Int32) (x8 : Int32) (x9 : Int32) (F : PF) (G : PG) (hM : M7 F0 F), PP (ag_297 x1 x2 x3 x4 x7 x8 x9 F G) (fun _ F' _ => M7 F0 F')) (x1 : Int32) (x2 : Int32) (x3 : Int32) (x4 : Int32) (x7 : Int32) (x8 : Int32) (F : PF) (G : PG) (hM : M7 F0 F) : PP (mb_array_407 fu ag_297 x1 x2 x3 x4 x7 x8 F G) (fun _ F' _ => M7 F0 F') := by
  unfold mb_array_407
  exact mnj_array_408 ag_297 hag_297 x1 x2 x3 x4 x7 x8 (0 : Int32) F G hM
theorem mnj_array_384 {fu : Nat} {F0 : PF} (ag_297 : Int32 → Int32 → Int32 → Int32 → Int32 → Int32 → Int32 → PF → PG → PR) (hag_297 : ∀ (x1 : Int32) (x2 : Int32) (x3 : Int32) (x4 : Int32) (x7 : Int32) (x8 : Int32) (x9 : Int32) (F : PF) (G : PG) (hM : M7 F0 F), PP (ag_297 x1 x2 x3 x4 x7 x8 x9 F G) (fun _ F' _ => M7 F0 F')) (x1 : Int32) (x2 : Int32) (x3 : Int32) (x4 : Int32) (x7 : Int32) (x8 : Int32) (F : PF) (G : PG) (hM : M7 F0 F) : PP (mb_array_384 fu ag_297 x1 x2 x3 x4 x7 x8 F G) (fun _ F' _ => M7 F0 F') := by
  unfold mb_array_384
  refine PP.ite (fun c_1 => ?_) (fun c_1 => ?_)
  · skip
    unfold mb_array_394
    refine PP.bind (mw_isSign (28 : Int32) F G) ?_
    intro r2 F2 G2 hM2
    dsimp only
    unfold mb_array_400
    refine PP.ite (fun c_3 => ?_) (fun c_3 => ?_)
    · skip
      exact mnj_array_407 ag_297 hag_297 x1 x2 x3 x4 x7 (x8 + (1 : Int32)) F2 G2 (M7.tr hM (M7.kx hM2 rfl))
    · skip
      unfold mb_array_403
      exact mnj_array_408 ag_297 hag_297 x1 x2 x3 x4 x7 (x8 + (1 : Int32)) (1 : Int32) F2 G2 (M7.tr hM (M7.kx hM2 rfl))
  · skip
    exact mnj_array_407 ag_297 hag_297 x1 x2 x3 x4 x7 (x8 + (1 : Int32)) F G hM
theorem mnj_array_383 {fu : Nat} {F0 : PF} (ag_297 : Int32 → Int32 → Int32 → Int32 → Int32 → Int32 → Int32 → PF → PG → PR) (hag_297 : ∀ (x1 : Int32) (x2 : Int32) (x3 : Int32) (x4 : Int32) (x7 : Int32) (x8 : Int32) (x9 : Int32) (F : PF) (G : PG) (hM : M7 F0 F), PP (ag_297 x1 x2 x3 x4 x7 x8 x9 F G) (fun _ F' _ => M7 F0 F')) (x1 : Int32) (x2 : Int32) (x3 : Int32) (x4 : Int32) (x7 : Int32) (x8 : Int32) (z0 : Int32) (z1 : Int32) (F : PF) (G : PG) (hM : M7 F0 F) : PP (mb_array_383 fu ag_297 x1 x2 x3 x4 x7 x8 z0 z1 F G) (fun _ F' _ => M7 F0 F') := by
  unfold mb_array_383
  refine PP.ix (fun _ => ?_)
  exact mnj_array_384 ag_297 hag_297 x1 x2 x3 x4 x7 x8 F (gup G 41 z1.toNatClampNeg z0) hM
theorem mnj_array_345 {fu : Nat} {F0 : PF} (ag_297 : Int32 → Int32 → Int32 → Int32 → Int32 → Int32 → Int32 → PF → PG → PR) (hag_297 : ∀ (x1 : Int32) (x2 : Int32) (x3 : Int32) (x4 : Int32) (x7 : Int32) (x8 : Int32) (x9 : Int32) (F : PF) (G : PG) (hM : M7 F0 F), PP (ag_297 x1 x2 x3 x4 x7 x8 x9 F G) (fun _ F' _ => M7 F0 F')) (x1 : Int32) (x2 : Int32) (x3 : Int32) (x4 : Int32) (x7 : Int32) (x8 : Int32) (x11 : Int32) (F : PF) (G : PG) (hM : M7 F0 F) : PP (mb_array_345 fu ag_297 x1 x2 x3 x4 x7 x8 x11 F G) (fun _ F' _ => M7 F0 F') := by
  unfold mb_array_345
  refine PP.ite (fun c_1 => ?_) (fun c_1 => ?_)
  · skip
    exact mnj_array_384 ag_297 hag_297 x1 x2 x3 x4 x7 x8 F G hM
  · skip
    unfold mb_array_352
    refine PP.ite (fun c_2 => ?_) (fun c_2 => ?_)
    · skip
      exact mnj_array_384 ag_297 hag_297 x1 x2 x3 x4 x7 x8 F G hM
    · skip
      unfold mb_array_359
      refine PP.ite (fun c_3 => ?_) (fun c_3 => ?_)
      · skip
        unfold mb_array_381
        exact mnj_array_383 ag_297 hag_297 x1 x2 x3 x4 x7 x8 x11 (x4 + x8) F G hM
      · skip
        unfold mb_array_372
        exact mnj_array_383 ag_297 hag_297 x1 x2 x3 x4 x7 x8 (x11 &&& (255 : Int32)) (x4 + x8) F G hM
theorem mnz_array_297 {fu : Nat} {F0 : PF} : ∀ (n : Nat) (x1 : Int32) (x2 : Int32) (x3 : Int32) (x4 : Int32) (x7 : Int32) (x8 : Int32) (x9 : Int32) (F : PF) (G : PG) (hM : M7 F0 F), PP (ml_array_297 fu n x1 x2 x3 x4 x7 x8 x9 F G) (fun _ F' _ => M7 F0 F') := by
  intro n
  induction n with
  | zero =>
    intro x1 x2 x3 x4 x7 x8 x9 F G hM
    exact PP.no
  | succ n ihn =>
    intro x1 x2 x3 x4 x7 x8 x9 F G hM
    show PP (mb_array_297 fu (ml_array_297 fu n) x1 x2 x3 x4 x7 x8 x9 F G) _
    unfold mb_array_297
    refine PP.ite (fun c_1 => ?_) (fun c_1 => ?_)
    · skip
      exact mnj_array_432 x1 x2 x3 x4 F G hM
    · skip
      unfold mb_array_302
      refine PP.ite (fun c_2 => ?_) (fun c_2 => ?_)
      · skip
        unfold mb_array_309
        refine PP.ix (fun _ => ?_)
        refine PP.bind (mn_value F G) ?_
        intro r3 F3 G3 hM3
        dsimp only
        unfold mb_array_324
        refine PP.ite (fun c_4 => ?_) (fun c_4 => ?_)
        · skip
          exact mnj_array_345 (ml_array_297 fu n) ihn x1 x2 x3 x4 x7 x8 r3 F3 G3 (M7.tr hM hM3)
        · skip
          unfold mb_array_331
          refine PP.ite (fun c_5 => ?_) (fun c_5 => ?_)
          · skip
            unfold mb_array_337
            refine PP.bind (mm_note (10 : Int32) (G 6 (F 42).toNatClampNeg) (by decide) F3 G3) ?_
            intro r6 F6 G6 hM6
            dsimp only
            exact mnj_array_345 (ml_array_297 fu n) ihn x1 x2 x3 x4 x7 x8 r3 F6 G6 (M7.tr (M7.tr hM hM3) hM6.1)
          · skip
            exact mnj_array_345 (ml_array_297 fu n) ihn x1 x2 x3 x4 x7 x8 r3 F3 G3 (M7.tr hM hM3)
      · skip
        exact mnj_array_432 x1 x2 x3 x4 F G hM
theorem mnz_array_224 {fu : Nat} {F0 : PF} : ∀ (n : Nat) (x1 : Int32) (x2 : Int32) (x3 : Int32) (x4 : Int32) (x7 : Int32) (x8 : Int32) (F : PF) (G : PG) (hM : M7 F0 F), PP (ml_array_224 fu n x1 x2 x3 x4 x7 x8 F G) (fun _ F' _ => M7 F0 F') := by
  intro n
  induction n with
  | zero =>
    intro x1 x2 x3 x4 x7 x8 F G hM
    exact PP.no
  | succ n ihn =>
    intro x1 x2 x3 x4 x7 x8 F G hM
    show PP (mb_array_224 fu (ml_array_224 fu n) x1 x2 x3 x4 x7 x8 F G) _
    unfold mb_array_224
    refine PP.ite (fun c_1 => ?_) (fun c_1 => ?_)
    · skip
      unfold mb_array_250
      unfold mb_array_261
      refine PP.bind (mw_isSign (32 : Int32) (fup F 37 ((F 37) + x7)) G) ?_
      intro r2 F2 G2 hM2
      dsimp only
      unfold mb_array_267
      refine PP.ite (fun c_3 => ?_) (fun c_3 => ?_)
      · skip
        exact mnj_array_443 x1 x2 x3 x4 F2 G2 (M7.tr (M7.f (k := 37) (by decide) hM) (M7.kx hM2 rfl))
      · skip
        unfold mb_array_270
        unfold mb_array_280
        refine PP.bind (mw_openSign (26 : Int32) (fup F2 42 ((F2 42) + (1 : Int32))) G2) ?_
        intro r4 F4 G4 hM4
        dsimp only
        unfold mb_array_286
        refine PP.ite (fun c_5 => ?_) (fun c_5 => ?_)
        · skip
          unfold mb_array_289
          refine PP.ret ?_
          exact (M7.tr (M7.f (k := 42) (by decide) (M7.tr (M7.f (k := 37) (by decide) hM) (M7.kx hM2 rfl))) (M7.kx hM4 rfl))
        · skip
          unfold mb_array_291
          exact mnz_array_297 fu x1 x2 x3 x4 x7 (0 : Int32) (1 : Int32) F4 G4 (M7.tr (M7.f (k := 42) (by decide) (M7.tr (M7.f (k := 37) (by decide) hM) (M7.kx hM2 rfl))) (M7.kx hM4 rfl))
    · skip
      unfold mb_array_231
      refine PP.ix (fun _ => ?_)
      unfold mb_array_244
      exact ihn x1 x2 x3 x4 x7 (x8 + (1 : Int32)) F (gup G 41 ((F 37) + x8).toNatClampNeg (0 : Int32)) hM
theorem mnj_array_219 {fu : Nat} {F0 : PF} (x1 : Int32) (x2 : Int32) (x3 : Int32) (x4 : Int32) (z0 : Int32) (F : PF) (G : PG) (hM : M7 F0 F) : PP (mb_array_219 fu x1 x2 x3 x4 z0 F G) (fun _ F' _ => M7 F0 F') := by
  unfold mb_array_219
  exact mnz_array_224 fu x1 x2 x3 x4 z0 (0 : Int32) F G hM
theorem mnj_array_214 {fu : Nat} {F0 : PF} (x1 : Int32) (x2 : Int32) (x3 : Int32) (x4 : Int32) (F : PF) (G : PG) (hM : M7 F0 F) : PP (mb_array_214 fu x1 x2 x3 x4 F G) (fun _ F' _ => M7 F0 F') := by
  unfold mb_array_214
  exact mnj_array_219 x1 x2 x3 x4 (0 : Int32) F G hM
theorem mnj_array_193 {fu : Nat} {F0 : PF} (x1 : Int32) (x2 : Int32) (x3 : Int32) (x4 : Int32) (x5 : Int32) (x6 : Int32) (F : PF) (G : PG) (hM : M7 F0 F) : PP (mb_array_193 fu x1 x2 x3 x4 x5 x6 F G) (fun _ F' _ => M7 F0 F') := by
  unfold mb_array_193
  unfold mb_array_204
  refine PP.ite (fun c_1 => ?_) (fun c_1 => ?_)
  · skip
    exact mnj_array_214 x1 x2 x3 x4 (fup F 36 ((F 36) + x5)) G (M7.f (k := 36) (by decide) hM)
  · skip
    unfold mb_array_209
    refine PP.ite (fun c_2 => ?_) (fun c_2 => ?_)
    · skip
      exact mnj_array_214 x1 x2 x3 x4 (fup F 36 ((F 36) + x5)) G (M7.f (k := 36) (by decide) hM)
    · skip
      unfold mb_array_218
      exact mnj_array_219 x1 x2 x3 x4 x3 (fup F 36 ((F 36) + x5)) G (M7.f (k := 36) (by decide) hM)
theorem mnj_array_186 {fu : Nat} {F0 : PF} (ag_102 : Int32 → Int32 → Int32 → Int32 → Int32 → Int32 → Int32 → PF → PG → PR) (hag_102 : ∀ (x1 : Int32) (x2 : Int32) (x3 : Int32) (x4 : Int32) (x5 : Int32) (x6 : Int32) (x7 : Int32) (F : PF) (G : PG) (hM : M7 F0 F), PP (ag_102 x1 x2 x3 x4 x5 x6 x7 F G) (fun _ F' _ => M7 F0 F')) (x1 : Int32) (x2 : Int32) (x3 : Int32) (x4 : Int32) (x5 : Int32) (x6 : Int32) (x7 : Int32) (z0 : Int32) (z1 : Int32) (F : PF) (G : PG) (hM : M7 F0 F) : PP (mb_array_186 fu ag_102 x1 x2 x3 x4 x5 x6 x7 z0 z1 F G) (fun _ F' _ => M7 F0 F') := by
  unfold mb_array_186
  refine PP.ix (fun _ => ?_)
  unfold mb_array_187
  exact hag_102 x1 x2 x3 x4 x5 x6 (x7 + (1 : Int32)) F (gup G 38 z1.toNatClampNeg z0) hM
theorem mnj_array_142 {fu : Nat} {F0 : PF} (ag_102 : Int32 → Int32 → Int32 → Int32 → Int32 → Int32 → Int32 → PF → PG → PR) (hag_102 : ∀ (x1 : Int32) (x2 : Int32) (x3 : Int32) (x4 : Int32) (x5 : Int32) (x6 : Int32) (x7 : Int32) (F : PF) (G : PG) (hM : M7 F0 F), PP (ag_102 x1 x2 x3 x4 x5 x6 x7 F G) (fun _ F' _ => M7 F0 F')) (x1 : Int32) (x2 : Int32) (x3 : Int32) (x4 : Int32) (x5 : Int32) (x6 : Int32) (x7 : Int32) (z0 : Int32) (z1 : Int32) (z2 : Int32) (F : PF) (G : PG) (hM : M7 F0 F) : PP (mb_array_142 fu ag_102 x1 x2 x3 x4 x5 x6 x7 z0 z1 z2 F G) (fun _ F' _ => M7 F0 F') := by
  unfold mb_array_142
  refine PP.ix (fun _ => ?_)
  unfold mb_array_144
  refine PP.ix (fun _ => ?_)
  unfold mb_array_157
  refine PP.ite (fun c_1 => ?_) (fun c_1 => ?_)
  · skip
    unfold mb_array_185
    exact mnj_array_186 ag_102 hag_102 x1 x2 x3 x4 x5 x6 x7 (1 : Int32) ((F 36) + x7) F (gup (gup G 39 z2.toNatClampNeg (z1 + z0)) 40 ((F 36) + x7).toNatClampNeg (vp_nar .boolean x2)) hM
  · skip
    unfold mb_array_172
    unfold mb_array_182
    exact mnj_array_186 ag_102 hag_102 x1 x2 x3 x4 x5 x6 x7 (if (x3 - ((4 : Int32) * x7)) < (4 : Int32) then (x3 - ((4 : Int32) * x7)) else (4 : Int32)) ((F 36) + x7) F (gup (gup G 39 z2.toNatClampNeg (z1 + z0)) 40 ((F 36) + x7).toNatClampNeg (vp_nar .boolean x2)) hM
theorem mnz_array_102 {fu : Nat} {F0 : PF} : ∀ (n : Nat) (x1 : Int32) (x2 : Int32) (x3 : Int32) (x4 : Int32) (x5 : Int32) (x6 : Int32) (x7 : Int32) (F : PF) (G : PG) (hM : M7 F0 F), PP (ml_array_102 fu n x1 x2 x3 x4 x5 x6 x7 F G) (fun _ F' _ => M7 F0 F') := by
  intro n
  induction n with
  | zero =>
    intro x1 x2 x3 x4 x5 x6 x7 F G hM
    exact PP.no
  | succ n ihn =>
    intro x1 x2 x3 x4 x5 x6 x7 F G hM
    show PP (mb_array_102 fu (ml_array_102 fu n) x1 x2 x3 x4 x5 x6 x7 F G) _
    unfold mb_array_102
    refine PP.ite (fun c_1 => ?_) (fun c_1 => ?_)
    · skip
      exact mnj_array_193 x1 x2 x3 x4 x5 x6 F G hM
    · skip
      unfold mb_array_109
      refine PP.ite (fun c_2 => ?_) (fun c_2 => ?_)
      · skip
        exact mnj_array_193 x1 x2 x3 x4 x5 x6 F G hM
      · skip
        unfold mb_array_114
        refine PP.ite (fun c_3 => ?_) (fun c_3 => ?_)
        · skip
          unfold mb_array_140
          exact mnj_array_142 (ml_array_102 fu n) ihn x1 x2 x3 x4 x5 x6 x7 x7 (F 37) ((F 36) + x7) F G hM
        · skip
          unfold mb_array_133
          exact mnj_array_142 (ml_array_102 fu n) ihn x1 x2 x3 x4 x5 x6 x7 ((4 : Int32) * x7) (F 37) ((F 36) + x7) F G hM
theorem mnj_array_99 {fu : Nat} {F0 : PF} (x1 : Int32) (x2 : Int32) (x3 : Int32) (x4 : Int32) (x5 : Int32) (x6 : Int32) (F : PF) (G : PG) (hM : M7 F0 F) : PP (mb_array_99 fu x1 x2 x3 x4 x5 x6 F G) (fun _ F' _ => M7 F0 F') := by
  unfold mb_array_99
  exact mnz_array_102 fu x1 x2 x3 x4 x5 x6 (0 : Int32) F G hM
theorem mnj_array_80 {fu : Nat} {F0 : PF} (x1 : Int32) (x2 : Int32) (x3 : Int32) (x4 : Int32) (x5 : Int32) (z0 : Int32) (F : PF) (G : PG) (hM : M7 F0 F) : PP (mb_array_80 fu x1 x2 x3 x4 x5 z0 F G) (fun _ F' _ => M7 F0 F') := by
  unfold mb_array_80
  refine PP.ite (fun c_1 => ?_) (fun c_1 => ?_)
  · skip
    unfold mb_array_87
    refine PP.ix (fun _ => ?_)
    refine PP.bind (mm_note (11 : Int32) (G 6 x1.toNatClampNeg) (by decide) F G) ?_
    intro r2 F2 G2 hM2
    dsimp only
    exact mnj_array_99 x1 x2 x3 x4 x5 z0 F2 G2 (M7.tr hM hM2.1)
  · skip
    exact mnj_array_99 x1 x2 x3 x4 x5 z0 F G hM
theorem mnj_array_60 {fu : Nat} {F0 : PF} (x1 : Int32) (x2 : Int32) (x3 : Int32) (x4 : Int32) (z0 : Int32) (F : PF) (G : PG) (hM : M7 F0 F) : PP (mb_array_60 fu x1 x2 x3 x4 z0 F G) (fun _ F' _ => M7 F0 F') := by
  unfold mb_array_60
  refine PP.ite (fun c_1 => ?_) (fun c_1 => ?_)
  · skip
    unfold mb_array_79
    exact mnj_array_80 x1 x2 x3 x4 z0 (0 : Int32) F G hM
  · skip
    unfold mb_array_75
    exact mnj_array_80 x1 x2 x3 x4 z0 (1 : Int32) F G hM
theorem mn_array {fu : Nat} (x1 : Int32) (x2 : Int32) (F : PF) (G : PG) : PP (mf_array fu x1 x2 F G) (fun _ F' _ => M7 F F') := by
  unfold mf_array
  unfold mb_array_0
  refine PP.bind (mn_twice x1 F G) ?_
  intro r1 F1 G1 hM1
  dsimp only
  unfold mb_array_5
  refine PP.bind (mw_openSign (24 : Int32) F1 G1) ?_
  intro r2 F2 G2 hM2
  dsimp only
  unfold mb_array_11
  refine PP.ite (fun c_3 => ?_) (fun c_3 => ?_)
  · skip
    unfold mb_array_14
    refine PP.ret ?_
    exact (M7.tr (M7.tr M7.rf hM1) (M7.kx hM2 rfl))
  · skip
    unfold mb_array_16
    refine PP.bind (mn_sizeHere F2 G2) ?_
    intro r4 F4 G4 hM4
    dsimp only
    unfold mb_array_20
    refine PP.bind (mw_closeSign (25 : Int32) F4 G4) ?_
    intro r5 F5 G5 hM5
    dsimp only
    unfold mb_array_27
    refine PP.ite (fun c_6 => ?_) (fun c_6 => ?_)
    · skip
      unfold mb_array_30
      refine PP.ret ?_
      exact (M7.tr (M7.tr (M7.tr (M7.tr M7.rf hM1) (M7.kx hM2 rfl)) hM4) (M7.kx hM5 rfl))
    · skip
      unfold mb_array_32
      refine PP.ite (fun c_7 => ?_) (fun c_7 => ?_)
      · skip
        unfold mb_array_43
        exact mnj_array_60 x1 x2 r4 (F5 37) (0 : Int32) F5 G5 (M7.tr (M7.tr (M7.tr (M7.tr M7.rf hM1) (M7.kx hM2 rfl)) hM4) (M7.kx hM5 rfl))
      · skip
        unfold mb_array_47
        refine PP.ite (fun c_8 => ?_) (fun c_8 => ?_)
        · skip
          unfold mb_array_59
          exact mnj_array_60 x1 x2 r4 (F5 37) r4 F5 G5 (M7.tr (M7.tr (M7.tr (M7.tr M7.rf hM1) (M7.kx hM2 rfl)) hM4) (M7.kx hM5 rfl))
        · skip
          unfold mb_array_51
          exact mnj_array_60 x1 x2 r4 (F5 37) ((r4 + (3 : Int32)) / (4 : Int32)) F5 G5 (M7.tr (M7.tr (M7.tr (M7.tr M7.rf hM1) (M7.kx hM2 rfl)) hM4) (M7.kx hM5 rfl))
theorem mnj_constantTold_54 {fu : Nat} {F0 : PF} (z0 : Int32) (z1 : Int32) (z2 : Int32) (z3 : Int32) (z4 : Int32) (F : PF) (G : PG) (hM : M7 F0 F) : PP (mb_constantTold_54 fu z0 z1 z2 z3 z4 F G) (fun _ F' _ => M7 F0 F') := by
  unfold mb_constantTold_54
  refine PP.bind (mw_declare z4 z3 z2 z1 z0 (0 : Int32) F G) ?_
  intro r1 F1 G1 hM1
  dsimp only
  unfold mb_constantTold_58
  refine PP.bind (mw_sign (29 : Int32) F1 G1) ?_
  intro r2 F2 G2 hM2
  dsimp only
  unfold mb_constantTold_64
  refine PP.bz (fun _ => ?_)
  refine PP.ret ?_
  exact (M7.tr (M7.tr hM (M7.kx hM1 rfl)) (M7.kx hM2 rfl))
theorem mn_constantTold {fu : Nat} (F : PF) (G : PG) : PP (mf_constantTold fu F G) (fun _ F' _ => M7 F F') := by
  unfold mf_constantTold
  unfold mb_constantTold_0
  refine PP.bind (mw_name F G) ?_
  intro r1 F1 G1 hM1
  dsimp only
  unfold mb_constantTold_4
  refine PP.bind (mw_sign (32 : Int32) F1 G1) ?_
  intro r2 F2 G2 hM2
  dsimp only
  unfold mb_constantTold_11
  refine PP.ite (fun c_3 => ?_) (fun c_3 => ?_)
  · skip
    unfold mb_constantTold_14
    refine PP.ret ?_
    exact (M7.tr (M7.tr M7.rf (M7.kx hM1 rfl)) (M7.kx hM2 rfl))
  · skip
    unfold mb_constantTold_16
    refine PP.bind (mn_value F2 G2) ?_
    intro r4 F4 G4 hM4
    dsimp only
    unfold mb_constantTold_20
    refine PP.ite (fun c_5 => ?_) (fun c_5 => ?_)
    · skip
      unfold mb_constantTold_30
      refine PP.bind (mn_twice r1 F4 G4) ?_
      intro r6 F6 G6 hM6
      dsimp only
      unfold mb_constantTold_40
      refine PP.ite (fun c_7 => ?_) (fun c_7 => ?_)
      · skip
        unfold mb_constantTold_53
        exact mnj_constantTold_54 (1 : Int32) r4 (0 : Int32) (0 : Int32) r1 F6 G6 (M7.tr (M7.tr (M7.tr (M7.tr M7.rf (M7.kx hM1 rfl)) (M7.kx hM2 rfl)) hM4) hM6)
      · skip
        unfold mb_constantTold_49
        exact mnj_constantTold_54 (-1 : Int32) r4 (0 : Int32) (0 : Int32) r1 F6 G6 (M7.tr (M7.tr (M7.tr (M7.tr M7.rf (M7.kx hM1 rfl)) (M7.kx hM2 rfl)) hM4) hM6)
    · skip
      unfold mb_constantTold_28
      refine PP.ret ?_
      exact (M7.tr (M7.tr (M7.tr M7.rf (M7.kx hM1 rfl)) (M7.kx hM2 rfl)) hM4)
theorem mnj_globalAt_100 {fu : Nat} {F0 : PF} (x2 : Int32) (F : PF) (G : PG) (hM : M7 F0 F) : PP (mb_globalAt_100 fu x2 F G) (fun _ F' _ => M7 F0 F') := by
  unfold mb_globalAt_100
  refine PP.ret ?_
  exact hM
theorem mnj_globalAt_73 {fu : Nat} {F0 : PF} (x2 : Int32) (F : PF) (G : PG) (hM : M7 F0 F) : PP (mb_globalAt_73 fu x2 F G) (fun _ F' _ => M7 F0 F') := by
  unfold mb_globalAt_73
  refine PP.ite (fun c_1 => ?_) (fun c_1 => ?_)
  · skip
    exact mnj_globalAt_100 x2 F G hM
  · skip
    unfold mb_globalAt_80
    refine PP.ix (fun _ => ?_)
    unfold mb_globalAt_90
    exact mnj_globalAt_100 x2 (fup F 37 ((F 37) + (1 : Int32))) (gup G 41 (F 37).toNatClampNeg (0 : Int32)) (M7.f (k := 37) (by decide) hM)
theorem mnj_globalAt_42 {fu : Nat} {F0 : PF} (x2 : Int32) (F : PF) (G : PG) (hM : M7 F0 F) : PP (mb_globalAt_42 fu x2 F G) (fun _ F' _ => M7 F0 F') := by
  unfold mb_globalAt_42
  refine PP.ite (fun c_1 => ?_) (fun c_1 => ?_)
  · skip
    exact mnj_globalAt_73 x2 F G hM
  · skip
    unfold mb_globalAt_49
    refine PP.ix (fun _ => ?_)
    unfold mb_globalAt_56
    refine PP.ix (fun _ => ?_)
    unfold mb_globalAt_63
    refine PP.ix (fun _ => ?_)
    exact mnj_globalAt_73 x2 F (gup (gup (gup G 38 x2.toNatClampNeg (1 : Int32)) 40 x2.toNatClampNeg (vp_nar .boolean (0 : Int32))) 39 x2.toNatClampNeg (F 37)) hM
theorem mn_globalAt {fu : Nat} (x1 : Int32) (F : PF) (G : PG) : PP (mf_globalAt fu x1 F G) (fun _ F' _ => M7 F F') := by
  unfold mf_globalAt
  unfold mb_globalAt_0
  refine PP.bind (mn_twice x1 F G) ?_
  intro r1 F1 G1 hM1
  dsimp only
  unfold mb_globalAt_5
  unfold mb_globalAt_20
  refine PP.ite (fun c_2 => ?_) (fun c_2 => ?_)
  · skip
    exact mnj_globalAt_42 (F1 36) (fup F1 36 ((F1 36) + (1 : Int32))) G1 (M7.f (k := 36) (by decide) (M7.tr M7.rf hM1))
  · skip
    unfold mb_globalAt_30
    refine PP.ix (fun _ => ?_)
    refine PP.bind (mm_note (11 : Int32) (G1 6 x1.toNatClampNeg) (by decide) (fup F1 36 ((F1 36) + (1 : Int32))) G1) ?_
    intro r3 F3 G3 hM3
    dsimp only
    exact mnj_globalAt_42 (F1 36) F3 G3 (M7.tr (M7.f (k := 36) (by decide) (M7.tr M7.rf hM1)) hM3.1)
theorem mn_globalInt {fu : Nat} (x1 : Int32) (F : PF) (G : PG) : PP (mf_globalInt fu x1 F G) (fun _ F' _ => M7 F F') := by
  unfold mf_globalInt
  unfold mb_globalInt_0
  refine PP.bind (mn_globalAt x1 F G) ?_
  intro r1 F1 G1 hM1
  dsimp only
  unfold mb_globalInt_5
  unfold mb_globalInt_21
  refine PP.ix (fun _ => ?_)
  refine PP.bind (mw_declare x1 (1 : Int32) (0 : Int32) (G1 39 (if (2000 : Int32) < r1 then (2000 : Int32) else r1).toNatClampNeg) (1 : Int32) (0 : Int32) F1 G1) ?_
  intro r2 F2 G2 hM2
  dsimp only
  unfold mb_globalInt_27
  refine PP.ret ?_
  exact (M7.tr (M7.tr M7.rf hM1) (M7.kx hM2 rfl))
theorem mnj_formalHere_185 {fu : Nat} {F0 : PF} (z0 : Int32) (F : PF) (G : PG) (hM : M7 F0 F) : PP (mb_formalHere_185 fu z0 F G) (fun _ F' _ => M7 F0 F') := by
  unfold mb_formalHere_185
  refine PP.ret ?_
  exact hM
theorem mnj_formalHere_163 {fu : Nat} {F0 : PF} (x2 : Int32) (x4 : Int32) (z0 : Int32) (z1 : Int32) (F : PF) (G : PG) (hM : M7 F0 F) : PP (mb_formalHere_163 fu x2 x4 z0 z1 F G) (fun _ F' _ => M7 F0 F') := by
  unfold mb_formalHere_163
  unfold mb_formalHere_167
  refine PP.ite (fun c_1 => ?_) (fun c_1 => ?_)
  · skip
    unfold mb_formalHere_172
    exact mnj_formalHere_185 (0 : Int32) (fup F 53 (z1 + z0)) G (M7.f (k := 53) (by decide) hM)
  · skip
    unfold mb_formalHere_176
    refine PP.ite (fun c_2 => ?_) (fun c_2 => ?_)
    · skip
      unfold mb_formalHere_184
      exact mnj_formalHere_185 (1 : Int32) (fup F 53 (z1 + z0)) G (M7.f (k := 53) (by decide) hM)
    · skip
      unfold mb_formalHere_180
      exact mnj_formalHere_185 (2 : Int32) (fup F 53 (z1 + z0)) G (M7.f (k := 53) (by decide) hM)
theorem mnj_formalHere_144 {fu : Nat} {F0 : PF} (x2 : Int32) (x4 : Int32) (z0 : Int32) (z1 : Int32) (z2 : Int32) (z3 : Int32) (z4 : Int32) (F : PF) (G : PG) (hM : M7 F0 F) : PP (mb_formalHere_144 fu x2 x4 z0 z1 z2 z3 z4 F G) (fun _ F' _ => M7 F0 F') := by
  unfold mb_formalHere_144
  refine PP.bind (mw_declare z4 z3 z2 z1 z0 (1 : Int32) F G) ?_
  intro r1 F1 G1 hM1
  dsimp only
  unfold mb_formalHere_148
  refine PP.ite (fun c_2 => ?_) (fun c_2 => ?_)
  · skip
    unfold mb_formalHere_162
    exact mnj_formalHere_163 x2 x4 (1 : Int32) (F1 53) F1 G1 (M7.tr hM (M7.kx hM1 rfl))
  · skip
    unfold mb_formalHere_158
    exact mnj_formalHere_163 x2 x4 (2 : Int32) (F1 53) F1 G1 (M7.tr hM (M7.kx hM1 rfl))
theorem mnj_formalHere_129 {fu : Nat} {F0 : PF} (x2 : Int32) (x4 : Int32) (z0 : Int32) (z1 : Int32) (F : PF) (G : PG) (hM : M7 F0 F) : PP (mb_formalHere_129 fu x2 x4 z0 z1 F G) (fun _ F' _ => M7 F0 F') := by
  unfold mb_formalHere_129
  refine PP.ite (fun c_1 => ?_) (fun c_1 => ?_)
  · skip
    unfold mb_formalHere_143
    exact mnj_formalHere_144 x2 x4 (1 : Int32) (F 53) x2 z0 z1 F G hM
  · skip
    unfold mb_formalHere_139
    exact mnj_formalHere_144 x2 x4 (-1 : Int32) (F 53) x2 z0 z1 F G hM
theorem mnj_formalHere_117 {fu : Nat} {F0 : PF} (x2 : Int32) (x3 : Int32) (x4 : Int32) (F : PF) (G : PG) (hM : M7 F0 F) : PP (mb_formalHere_117 fu x2 x3 x4 F G) (fun _ F' _ => M7 F0 F') := by
  unfold mb_formalHere_117
  refine PP.ite (fun c_1 => ?_) (fun c_1 => ?_)
  · skip
    unfold mb_formalHere_128
    exact mnj_formalHere_129 x2 x4 (1 : Int32) x3 F G hM
  · skip
    unfold mb_formalHere_124
    exact mnj_formalHere_129 x2 x4 (2 : Int32) x3 F G hM
theorem mnj_formalHere_115 {fu : Nat} {F0 : PF} (F : PF) (G : PG) (hM : M7 F0 F) : PP (mb_formalHere_115 fu F G) (fun _ F' _ => M7 F0 F') := by
  unfold mb_formalHere_115
  refine PP.ret ?_
  exact hM
theorem mnj_formalHere_90 {fu : Nat} {F0 : PF} (x2 : Int32) (x3 : Int32) (z0 : Int32) (F : PF) (G : PG) (hM : M7 F0 F) : PP (mb_formalHere_90 fu x2 x3 z0 F G) (fun _ F' _ => M7 F0 F') := by
  unfold mb_formalHere_90
  refine PP.ite (fun c_1 => ?_) (fun c_1 => ?_)
  · skip
    exact mnj_formalHere_117 x2 x3 z0 F G hM
  · skip
    unfold mb_formalHere_97
    refine PP.bind (mw_openSign (24 : Int32) F G) ?_
    intro r2 F2 G2 hM2
    dsimp only
    unfold mb_formalHere_103
    refine PP.ite (fun c_3 => ?_) (fun c_3 => ?_)
    · skip
      exact mnj_formalHere_115 F2 G2 (M7.tr hM (M7.kx hM2 rfl))
    · skip
      unfold mb_formalHere_106
      refine PP.bind (mw_closeSign (25 : Int32) F2 G2) ?_
      intro r4 F4 G4 hM4
      dsimp only
      unfold mb_formalHere_112
      refine PP.ite (fun c_5 => ?_) (fun c_5 => ?_)
      · skip
        exact mnj_formalHere_115 F4 G4 (M7.tr (M7.tr hM (M7.kx hM2 rfl)) (M7.kx hM4 rfl))
      · skip
        exact mnj_formalHere_117 x2 x3 z0 F4 G4 (M7.tr (M7.tr hM (M7.kx hM2 rfl)) (M7.kx hM4 rfl))
theorem mnj_formalHere_85 {fu : Nat} {F0 : PF} (x2 : Int32) (x3 : Int32) (F : PF) (G : PG) (hM : M7 F0 F) : PP (mb_formalHere_85 fu x2 x3 F G) (fun _ F' _ => M7 F0 F') := by
  unfold mb_formalHere_85
  exact mnj_formalHere_90 x2 x3 (1 : Int32) F G hM
theorem mnj_formalHere_72 {fu : Nat} {F0 : PF} (x2 : Int32) (x3 : Int32) (F : PF) (G : PG) (hM : M7 F0 F) : PP (mb_formalHere_72 fu x2 x3 F G) (fun _ F' _ => M7 F0 F') := by
  unfold mb_formalHere_72
  refine PP.ite (fun c_1 => ?_) (fun c_1 => ?_)
  · skip
    unfold mb_formalHere_76
    refine PP.bind (mw_isSign (24 : Int32) F G) ?_
    intro r2 F2 G2 hM2
    dsimp only
    unfold mb_formalHere_82
    refine PP.ite (fun c_3 => ?_) (fun c_3 => ?_)
    · skip
      unfold mb_formalHere_89
      exact mnj_formalHere_90 x2 x3 (0 : Int32) F2 G2 (M7.tr hM (M7.kx hM2 rfl))
    · skip
      exact mnj_formalHere_85 x2 x3 F2 G2 (M7.tr hM (M7.kx hM2 rfl))
  · skip
    exact mnj_formalHere_85 x2 x3 F G hM
theorem mnj_formalHere_26 {fu : Nat} {F0 : PF} (x1 : Int32) (x2 : Int32) (F : PF) (G : PG) (hM : M7 F0 F) : PP (mb_formalHere_26 fu x1 x2 F G) (fun _ F' _ => M7 F0 F') := by
  unfold mb_formalHere_26
  unfold mb_formalHere_36
  refine PP.bind (mw_name (fup F 42 ((F 42) + (1 : Int32))) G) ?_
  intro r1 F1 G1 hM1
  dsimp only
  unfold mb_formalHere_40
  refine PP.ite (fun c_2 => ?_) (fun c_2 => ?_)
  · skip
    unfold mb_formalHere_50
    refine PP.bind (mn_twice r1 F1 G1) ?_
    intro r3 F3 G3 hM3
    dsimp only
    unfold mb_formalHere_55
    refine PP.ite (fun c_4 => ?_) (fun c_4 => ?_)
    · skip
      unfold mb_formalHere_60
      refine PP.ix (fun _ => ?_)
      refine PP.bind (mm_note (11 : Int32) (G3 6 r1.toNatClampNeg) (by decide) F3 G3) ?_
      intro r5 F5 G5 hM5
      dsimp only
      exact mnj_formalHere_72 x2 r1 F5 G5 (M7.tr (M7.tr (M7.tr (M7.f (k := 42) (by decide) hM) (M7.kx hM1 rfl)) hM3) hM5.1)
    · skip
      exact mnj_formalHere_72 x2 r1 F3 G3 (M7.tr (M7.tr (M7.f (k := 42) (by decide) hM) (M7.kx hM1 rfl)) hM3)
  · skip
    unfold mb_formalHere_48
    refine PP.ret ?_
    exact (M7.tr (M7.f (k := 42) (by decide) hM) (M7.kx hM1 rfl))
theorem mn_formalHere {fu : Nat} (x1 : Int32) (F : PF) (G : PG) : PP (mf_formalHere fu x1 F G) (fun _ F' _ => M7 F F') := by
  unfold mf_formalHere
  unfold mb_formalHere_0
  refine PP.bind (mw_isWord (1 : Int32) F G) ?_
  intro r1 F1 G1 hM1
  dsimp only
  unfold mb_formalHere_5
  refine PP.ite (fun c_2 => ?_) (fun c_2 => ?_)
  · skip
    unfold mb_formalHere_10
    refine PP.bind (mw_isWord (0 : Int32) F1 G1) ?_
    intro r3 F3 G3 hM3
    dsimp only
    unfold mb_formalHere_15
    refine PP.ite (fun c_4 => ?_) (fun c_4 => ?_)
    · skip
      unfold mb_formalHere_18
      refine PP.bind (mw_fails (2 : Int32) F3 G3) ?_
      intro r5 F5 G5 hM5
      dsimp only
      unfold mb_formalHere_23
      refine PP.ret ?_
      exact (M7.tr (M7.tr (M7.tr M7.rf (M7.kx hM1 rfl)) (M7.kx hM3 rfl)) (M7.kx hM5 rfl))
    · skip
      exact mnj_formalHere_26 x1 r1 F3 G3 (M7.tr (M7.tr M7.rf (M7.kx hM1 rfl)) (M7.kx hM3 rfl))
  · skip
    exact mnj_formalHere_26 x1 r1 F1 G1 (M7.tr M7.rf (M7.kx hM1 rfl))
theorem mnj_condition_30 {fu : Nat} {F0 : PF} (z0 : Int32) (F : PF) (G : PG) (hM : M7 F0 F) : PP (mb_condition_30 fu z0 F G) (fun _ F' _ => M7 F0 F') := by
  unfold mb_condition_30
  refine PP.bz (fun _ => ?_)
  refine PP.ret ?_
  exact hM
theorem mnj_condition_29 {fu : Nat} {F0 : PF} (F : PF) (G : PG) (hM : M7 F0 F) : PP (mb_condition_29 fu F G) (fun _ F' _ => M7 F0 F') := by
  unfold mb_condition_29
  exact mnj_condition_30 (0 : Int32) F G hM
theorem mn_condition {fu : Nat} (F : PF) (G : PG) : PP (mf_condition fu F G) (fun _ F' _ => M7 F F') := by
  unfold mf_condition
  unfold mb_condition_0
  refine PP.bind (mw_openSign (22 : Int32) F G) ?_
  intro r1 F1 G1 hM1
  dsimp only
  unfold mb_condition_6
  refine PP.ite (fun c_2 => ?_) (fun c_2 => ?_)
  · skip
    exact mnj_condition_29 F1 G1 (M7.tr M7.rf (M7.kx hM1 rfl))
  · skip
    unfold mb_condition_9
    refine PP.bind (mn_expression F1 G1) ?_
    intro r3 F3 G3 hM3
    dsimp only
    unfold mb_condition_13
    refine PP.ite (fun c_4 => ?_) (fun c_4 => ?_)
    · skip
      exact mnj_condition_29 F3 G3 (M7.tr (M7.tr M7.rf (M7.kx hM1 rfl)) hM3)
    · skip
      unfold mb_condition_16
      refine PP.bind (mw_closeSign (23 : Int32) F3 G3) ?_
      intro r5 F5 G5 hM5
      dsimp only
      unfold mb_condition_22
      refine PP.ite (fun c_6 => ?_) (fun c_6 => ?_)
      · skip
        exact mnj_condition_29 F5 G5 (M7.tr (M7.tr (M7.tr M7.rf (M7.kx hM1 rfl)) hM3) (M7.kx hM5 rfl))
      · skip
        unfold mb_condition_25
        exact mnj_condition_30 (1 : Int32) F5 G5 (M7.tr (M7.tr (M7.tr M7.rf (M7.kx hM1 rfl)) hM3) (M7.kx hM5 rfl))
theorem mnj_returns_98 {fu : Nat} {F0 : PF} (F : PF) (G : PG) (hM : M7 F0 F) : PP (mb_returns_98 fu F G) (fun _ F' _ => M7 F0 F') := by
  unfold mb_returns_98
  refine PP.bind (mw_step (17 : Int32) (0 : Int32) (0 : Int32) F G) ?_
  intro r1 F1 G1 hM1
  dsimp only
  unfold mb_returns_106
  refine PP.bind (mw_sign (29 : Int32) F1 G1) ?_
  intro r2 F2 G2 hM2
  dsimp only
  unfold mb_returns_113
  refine PP.bz (fun _ => ?_)
  refine PP.ret ?_
  exact (M7.tr (M7.tr hM (M7.kx hM1 rfl)) (M7.kx hM2 rfl))
theorem mnj_returns_89 {fu : Nat} {F0 : PF} (F : PF) (G : PG) (hM : M7 F0 F) : PP (mb_returns_89 fu F G) (fun _ F' _ => M7 F0 F') := by
  unfold mb_returns_89
  refine PP.bind (mn_expression F G) ?_
  intro r1 F1 G1 hM1
  dsimp only
  unfold mb_returns_93
  refine PP.ite (fun c_2 => ?_) (fun c_2 => ?_)
  · skip
    unfold mb_returns_96
    refine PP.ret ?_
    exact (M7.tr hM hM1)
  · skip
    exact mnj_returns_98 F1 G1 (M7.tr hM hM1)
theorem mnj_returns_46 {fu : Nat} {F0 : PF} (F : PF) (G : PG) (hM : M7 F0 F) : PP (mb_returns_46 fu F G) (fun _ F' _ => M7 F0 F') := by
  unfold mb_returns_46
  refine PP.bind (mw_step (0 : Int32) (0 : Int32) (0 : Int32) F G) ?_
  intro r1 F1 G1 hM1
  dsimp only
  unfold mb_returns_53
  exact mnj_returns_98 F1 G1 (M7.tr hM (M7.kx hM1 rfl))
theorem mn_returns {fu : Nat} (F : PF) (G : PG) : PP (mf_returns fu F G) (fun _ F' _ => M7 F F') := by
  unfold mf_returns
  unfold mb_returns_0
  unfold mb_returns_10
  refine PP.bind (mw_isSign (29 : Int32) (fup F 42 ((F 42) + (1 : Int32))) G) ?_
  intro r1 F1 G1 hM1
  dsimp only
  unfold mb_returns_16
  refine PP.ite (fun c_2 => ?_) (fun c_2 => ?_)
  · skip
    unfold mb_returns_57
    refine PP.ix (fun _ => ?_)
    refine PP.ite (fun c_3 => ?_) (fun c_3 => ?_)
    · skip
      exact mnj_returns_89 F1 G1 (M7.tr (M7.f (k := 42) (by decide) M7.rf) (M7.kx hM1 rfl))
    · skip
      unfold mb_returns_69
      refine PP.ix (fun _ => ?_)
      refine PP.bind (mw_rank (7 : Int32) F1 G1) ?_
      intro r4 F4 G4 hM4
      dsimp only
      unfold mb_returns_86
      refine PP.bind (mm_noteAs (8 : Int32) (G1 6 (F1 42).toNatClampNeg) r4 (by decide) F4 G4) ?_
      intro r5 F5 G5 hM5
      dsimp only
      exact mnj_returns_89 F5 G5 (M7.tr (M7.tr (M7.tr (M7.f (k := 42) (by decide) M7.rf) (M7.kx hM1 rfl)) (M7.kx hM4 rfl)) hM5.1)
  · skip
    unfold mb_returns_19
    refine PP.ix (fun _ => ?_)
    refine PP.ite (fun c_6 => ?_) (fun c_6 => ?_)
    · skip
      unfold mb_returns_31
      refine PP.ix (fun _ => ?_)
      refine PP.bind (mm_note (8 : Int32) (G1 6 (F1 42).toNatClampNeg) (by decide) F1 G1) ?_
      intro r7 F7 G7 hM7
      dsimp only
      exact mnj_returns_46 F7 G7 (M7.tr (M7.tr (M7.f (k := 42) (by decide) M7.rf) (M7.kx hM1 rfl)) hM7.1)
    · skip
      exact mnj_returns_46 F1 G1 (M7.tr (M7.f (k := 42) (by decide) M7.rf) (M7.kx hM1 rfl))
theorem mnj_simple_628 {fu : Nat} {F0 : PF} (F : PF) (G : PG) (hM : M7 F0 F) : PP (mb_simple_628 fu F G) (fun _ F' _ => M7 F0 F') := by
  unfold mb_simple_628
  refine PP.ret ?_
  exact hM
theorem mnj_simple_621 {fu : Nat} {F0 : PF} (x8 : Int32) (z0 : Int32) (F : PF) (G : PG) (hM : M7 F0 F) : PP (mb_simple_621 fu x8 z0 F G) (fun _ F' _ => M7 F0 F') := by
  unfold mb_simple_621
  refine PP.bind (mw_step z0 x8 (0 : Int32) F G) ?_
  intro r1 F1 G1 hM1
  dsimp only
  unfold mb_simple_627
  exact mnj_simple_628 F1 G1 (M7.tr hM (M7.kx hM1 rfl))
theorem mnj_simple_602 {fu : Nat} {F0 : PF} (z0 : Int32) (z1 : Int32) (F : PF) (G : PG) (hM : M7 F0 F) : PP (mb_simple_602 fu z0 z1 F G) (fun _ F' _ => M7 F0 F') := by
  unfold mb_simple_602
  refine PP.bind (mw_step z1 z0 (0 : Int32) F G) ?_
  intro r1 F1 G1 hM1
  dsimp only
  unfold mb_simple_606
  exact mnj_simple_628 F1 G1 (M7.tr hM (M7.kx hM1 rfl))
theorem mnj_simple_584 {fu : Nat} {F0 : PF} (x4 : Int32) (x6 : Int32) (x7 : Int32) (x8 : Int32) (F : PF) (G : PG) (hM : M7 F0 F) : PP (mb_simple_584 fu x4 x6 x7 x8 F G) (fun _ F' _ => M7 F0 F') := by
  unfold mb_simple_584
  refine PP.ite (fun c_1 => ?_) (fun c_1 => ?_)
  · skip
    unfold mb_simple_610
    refine PP.ite (fun c_2 => ?_) (fun c_2 => ?_)
    · skip
      unfold mb_simple_620
      exact mnj_simple_621 x8 (4 : Int32) F G hM
    · skip
      unfold mb_simple_616
      exact mnj_simple_621 x8 (2 : Int32) F G hM
  · skip
    unfold mb_simple_589
    refine PP.ite (fun c_3 => ?_) (fun c_3 => ?_)
    · skip
      unfold mb_simple_601
      exact mnj_simple_602 (0 : Int32) (8 : Int32) F G hM
    · skip
      unfold mb_simple_597
      exact mnj_simple_602 (1 : Int32) (8 : Int32) F G hM
theorem mnj_simple_579 {fu : Nat} {F0 : PF} (x4 : Int32) (x6 : Int32) (x7 : Int32) (x8 : Int32) (z0 : Int32) (z1 : Int32) (F : PF) (G : PG) (hM : M7 F0 F) : PP (mb_simple_579 fu x4 x6 x7 x8 z0 z1 F G) (fun _ F' _ => M7 F0 F') := by
  unfold mb_simple_579
  refine PP.bind (mw_step z1 z0 (0 : Int32) F G) ?_
  intro r1 F1 G1 hM1
  dsimp only
  unfold mb_simple_583
  exact mnj_simple_584 x4 x6 x7 x8 F1 G1 (M7.tr hM (M7.kx hM1 rfl))
theorem mnj_simple_461 {fu : Nat} {F0 : PF} (x4 : Int32) (x6 : Int32) (x7 : Int32) (x8 : Int32) (z0 : Int32) (F : PF) (G : PG) (hM : M7 F0 F) : PP (mb_simple_461 fu x4 x6 x7 x8 z0 F G) (fun _ F' _ => M7 F0 F') := by
  unfold mb_simple_461
  exact mnj_simple_579 x4 x6 x7 x8 (38 : Int32) z0 F G hM
theorem mnj_simple_479 {fu : Nat} {F0 : PF} (x4 : Int32) (x6 : Int32) (x7 : Int32) (x8 : Int32) (z0 : Int32) (F : PF) (G : PG) (hM : M7 F0 F) : PP (mb_simple_479 fu x4 x6 x7 x8 z0 F G) (fun _ F' _ => M7 F0 F') := by
  unfold mb_simple_479
  exact mnj_simple_579 x4 x6 x7 x8 (39 : Int32) z0 F G hM
theorem mnj_simple_438 {fu : Nat} {F0 : PF} (x4 : Int32) (x6 : Int32) (x7 : Int32) (x8 : Int32) (x9 : Int32) (F : PF) (G : PG) (hM : M7 F0 F) : PP (mb_simple_438 fu x4 x6 x7 x8 x9 F G) (fun _ F' _ => M7 F0 F') := by
  unfold mb_simple_438
  refine PP.ite (fun c_1 => ?_) (fun c_1 => ?_)
  · skip
    exact mnj_simple_584 x4 x6 x7 x8 F G hM
  · skip
    unfold mb_simple_445
    refine PP.ite (fun c_2 => ?_) (fun c_2 => ?_)
    · skip
      exact mnj_simple_461 x4 x6 x7 x8 (10 : Int32) F G hM
    · skip
      unfold mb_simple_455
      refine PP.ite (fun c_3 => ?_) (fun c_3 => ?_)
      · skip
        exact mnj_simple_461 x4 x6 x7 x8 (10 : Int32) F G hM
      · skip
        unfold mb_simple_466
        refine PP.ite (fun c_4 => ?_) (fun c_4 => ?_)
        · skip
          exact mnj_simple_479 x4 x6 x7 x8 (10 : Int32) F G hM
        · skip
          unfold mb_simple_473
          refine PP.ite (fun c_5 => ?_) (fun c_5 => ?_)
          · skip
            exact mnj_simple_479 x4 x6 x7 x8 (10 : Int32) F G hM
          · skip
            unfold mb_simple_484
            refine PP.ite (fun c_6 => ?_) (fun c_6 => ?_)
            · skip
              unfold mb_simple_491
              exact mnj_simple_579 x4 x6 x7 x8 (40 : Int32) (10 : Int32) F G hM
            · skip
              unfold mb_simple_496
              refine PP.ite (fun c_7 => ?_) (fun c_7 => ?_)
              · skip
                unfold mb_simple_503
                exact mnj_simple_579 x4 x6 x7 x8 (41 : Int32) (10 : Int32) F G hM
              · skip
                unfold mb_simple_508
                refine PP.ite (fun c_8 => ?_) (fun c_8 => ?_)
                · skip
                  unfold mb_simple_515
                  exact mnj_simple_579 x4 x6 x7 x8 (42 : Int32) (10 : Int32) F G hM
                · skip
                  unfold mb_simple_520
                  refine PP.ite (fun c_9 => ?_) (fun c_9 => ?_)
                  · skip
                    unfold mb_simple_527
                    exact mnj_simple_579 x4 x6 x7 x8 (35 : Int32) (10 : Int32) F G hM
                  · skip
                    unfold mb_simple_532
                    refine PP.ite (fun c_10 => ?_) (fun c_10 => ?_)
                    · skip
                      unfold mb_simple_539
                      exact mnj_simple_579 x4 x6 x7 x8 (33 : Int32) (10 : Int32) F G hM
                    · skip
                      unfold mb_simple_544
                      refine PP.ite (fun c_11 => ?_) (fun c_11 => ?_)
                      · skip
                        unfold mb_simple_551
                        exact mnj_simple_579 x4 x6 x7 x8 (34 : Int32) (10 : Int32) F G hM
                      · skip
                        unfold mb_simple_556
                        refine PP.ite (fun c_12 => ?_) (fun c_12 => ?_)
                        · skip
                          unfold mb_simple_562
                          exact mnj_simple_579 x4 x6 x7 x8 (20 : Int32) (10 : Int32) F G hM
                        · skip
                          unfold mb_simple_567
                          refine PP.ite (fun c_13 => ?_) (fun c_13 => ?_)
                          · skip
                            unfold mb_simple_573
                            exact mnj_simple_579 x4 x6 x7 x8 (21 : Int32) (10 : Int32) F G hM
                          · skip
                            unfold mb_simple_578
                            exact mnj_simple_579 x4 x6 x7 x8 (1 : Int32) (10 : Int32) F G hM
theorem mnj_simple_418 {fu : Nat} {F0 : PF} (x4 : Int32) (x6 : Int32) (x7 : Int32) (x8 : Int32) (x9 : Int32) (F : PF) (G : PG) (hM : M7 F0 F) : PP (mb_simple_418 fu x4 x6 x7 x8 x9 F G) (fun _ F' _ => M7 F0 F') := by
  unfold mb_simple_418
  refine PP.bind (mw_step (0 : Int32) (1 : Int32) (0 : Int32) F G) ?_
  intro r1 F1 G1 hM1
  dsimp only
  unfold mb_simple_425
  exact mnj_simple_438 x4 x6 x7 x8 x9 F1 G1 (M7.tr hM (M7.kx hM1 rfl))
theorem mnj_simple_404 {fu : Nat} {F0 : PF} (x4 : Int32) (x6 : Int32) (x7 : Int32) (x8 : Int32) (x9 : Int32) (F : PF) (G : PG) (hM : M7 F0 F) : PP (mb_simple_404 fu x4 x6 x7 x8 x9 F G) (fun _ F' _ => M7 F0 F') := by
  unfold mb_simple_404
  refine PP.ite (fun c_1 => ?_) (fun c_1 => ?_)
  · skip
    exact mnj_simple_418 x4 x6 x7 x8 x9 F G hM
  · skip
    unfold mb_simple_411
    refine PP.ite (fun c_2 => ?_) (fun c_2 => ?_)
    · skip
      exact mnj_simple_418 x4 x6 x7 x8 x9 F G hM
    · skip
      unfold mb_simple_429
      refine PP.bind (mn_expression F G) ?_
      intro r3 F3 G3 hM3
      dsimp only
      unfold mb_simple_433
      refine PP.ite (fun c_4 => ?_) (fun c_4 => ?_)
      · skip
        unfold mb_simple_436
        refine PP.ret ?_
        exact (M7.tr hM hM3)
      · skip
        exact mnj_simple_438 x4 x6 x7 x8 x9 F3 G3 (M7.tr hM hM3)
theorem mnj_simple_397 {fu : Nat} {F0 : PF} (x4 : Int32) (x6 : Int32) (x7 : Int32) (x8 : Int32) (x9 : Int32) (z0 : Int32) (F : PF) (G : PG) (hM : M7 F0 F) : PP (mb_simple_397 fu x4 x6 x7 x8 x9 z0 F G) (fun _ F' _ => M7 F0 F') := by
  unfold mb_simple_397
  refine PP.bind (mw_step z0 x8 (0 : Int32) F G) ?_
  intro r1 F1 G1 hM1
  dsimp only
  unfold mb_simple_403
  exact mnj_simple_404 x4 x6 x7 x8 x9 F1 G1 (M7.tr hM (M7.kx hM1 rfl))
theorem mnj_simple_330 {fu : Nat} {F0 : PF} (x4 : Int32) (x6 : Int32) (x7 : Int32) (x8 : Int32) (x9 : Int32) (z0 : Int32) (F : PF) (G : PG) (hM : M7 F0 F) : PP (mb_simple_330 fu x4 x6 x7 x8 x9 z0 F G) (fun _ F' _ => M7 F0 F') := by
  unfold mb_simple_330
  refine PP.ite (fun c_1 => ?_) (fun c_1 => ?_)
  · skip
    unfold mb_simple_337
    refine PP.bind (mw_fails (2 : Int32) F G) ?_
    intro r2 F2 G2 hM2
    dsimp only
    unfold mb_simple_342
    refine PP.bz (fun _ => ?_)
    refine PP.ret ?_
    exact (M7.tr hM (M7.kx hM2 rfl))
  · skip
    unfold mb_simple_343
    unfold mb_simple_353
    refine PP.ite (fun c_3 => ?_) (fun c_3 => ?_)
    · skip
      exact mnj_simple_404 x4 x6 x7 x8 x9 (fup F 42 ((F 42) + (1 : Int32))) G (M7.f (k := 42) (by decide) hM)
    · skip
      unfold mb_simple_360
      refine PP.ite (fun c_4 => ?_) (fun c_4 => ?_)
      · skip
        unfold mb_simple_386
        refine PP.ite (fun c_5 => ?_) (fun c_5 => ?_)
        · skip
          unfold mb_simple_396
          exact mnj_simple_397 x4 x6 x7 x8 x9 (3 : Int32) (fup F 42 ((F 42) + (1 : Int32))) G (M7.f (k := 42) (by decide) hM)
        · skip
          unfold mb_simple_392
          exact mnj_simple_397 x4 x6 x7 x8 x9 (1 : Int32) (fup F 42 ((F 42) + (1 : Int32))) G (M7.f (k := 42) (by decide) hM)
      · skip
        unfold mb_simple_365
        refine PP.bind (mw_step (9 : Int32) (0 : Int32) (0 : Int32) (fup F 42 ((F 42) + (1 : Int32))) G) ?_
        intro r6 F6 G6 hM6
        dsimp only
        unfold mb_simple_373
        refine PP.bind (mw_step (7 : Int32) (0 : Int32) (0 : Int32) F6 G6) ?_
        intro r7 F7 G7 hM7
        dsimp only
        unfold mb_simple_382
        exact mnj_simple_404 x4 x6 x7 x8 x9 F7 G7 (M7.tr (M7.tr (M7.f (k := 42) (by decide) hM) (M7.kx hM6 rfl)) (M7.kx hM7 rfl))
theorem mnj_simple_325 {fu : Nat} {F0 : PF} (x4 : Int32) (x6 : Int32) (x7 : Int32) (x8 : Int32) (x9 : Int32) (F : PF) (G : PG) (hM : M7 F0 F) : PP (mb_simple_325 fu x4 x6 x7 x8 x9 F G) (fun _ F' _ => M7 F0 F') := by
  unfold mb_simple_325
  exact mnj_simple_330 x4 x6 x7 x8 x9 (1 : Int32) F G hM
theorem mnj_simple_329 {fu : Nat} {F0 : PF} (x4 : Int32) (x6 : Int32) (x7 : Int32) (x8 : Int32) (x9 : Int32) (F : PF) (G : PG) (hM : M7 F0 F) : PP (mb_simple_329 fu x4 x6 x7 x8 x9 F G) (fun _ F' _ => M7 F0 F') := by
  unfold mb_simple_329
  exact mnj_simple_330 x4 x6 x7 x8 x9 (0 : Int32) F G hM
theorem mnj_simple_272 {fu : Nat} {F0 : PF} (x4 : Int32) (x6 : Int32) (x7 : Int32) (x8 : Int32) (z0 : Int32) (F : PF) (G : PG) (hM : M7 F0 F) : PP (mb_simple_272 fu x4 x6 x7 x8 z0 F G) (fun _ F' _ => M7 F0 F') := by
  unfold mb_simple_272
  refine PP.ite (fun c_1 => ?_) (fun c_1 => ?_)
  · skip
    exact mnj_simple_325 x4 x6 x7 x8 z0 F G hM
  · skip
    unfold mb_simple_281
    refine PP.ite (fun c_2 => ?_) (fun c_2 => ?_)
    · skip
      exact mnj_simple_325 x4 x6 x7 x8 z0 F G hM
    · skip
      unfold mb_simple_288
      refine PP.ite (fun c_3 => ?_) (fun c_3 => ?_)
      · skip
        exact mnj_simple_325 x4 x6 x7 x8 z0 F G hM
      · skip
        unfold mb_simple_295
        refine PP.ite (fun c_4 => ?_) (fun c_4 => ?_)
        · skip
          exact mnj_simple_325 x4 x6 x7 x8 z0 F G hM
        · skip
          unfold mb_simple_300
          refine PP.ite (fun c_5 => ?_) (fun c_5 => ?_)
          · skip
            exact mnj_simple_325 x4 x6 x7 x8 z0 F G hM
          · skip
            unfold mb_simple_306
            refine PP.ite (fun c_6 => ?_) (fun c_6 => ?_)
            · skip
              exact mnj_simple_325 x4 x6 x7 x8 z0 F G hM
            · skip
              unfold mb_simple_312
              refine PP.ite (fun c_7 => ?_) (fun c_7 => ?_)
              · skip
                exact mnj_simple_329 x4 x6 x7 x8 z0 F G hM
              · skip
                unfold mb_simple_318
                refine PP.ite (fun c_8 => ?_) (fun c_8 => ?_)
                · skip
                  exact mnj_simple_329 x4 x6 x7 x8 z0 F G hM
                · skip
                  exact mnj_simple_325 x4 x6 x7 x8 z0 F G hM
theorem mnj_simple_246 {fu : Nat} {F0 : PF} (x4 : Int32) (x6 : Int32) (x7 : Int32) (x8 : Int32) (F : PF) (G : PG) (hM : M7 F0 F) : PP (mb_simple_246 fu x4 x6 x7 x8 F G) (fun _ F' _ => M7 F0 F') := by
  unfold mb_simple_246
  refine PP.ix (fun _ => ?_)
  refine PP.ite (fun c_1 => ?_) (fun c_1 => ?_)
  · skip
    unfold mb_simple_259
    refine PP.ix (fun _ => ?_)
    exact mnj_simple_272 x4 x6 x7 x8 (G 5 (F 42).toNatClampNeg) F G hM
  · skip
    unfold mb_simple_271
    exact mnj_simple_272 x4 x6 x7 x8 (-1 : Int32) F G hM
theorem mnj_simple_229 {fu : Nat} {F0 : PF} (x2 : Int32) (x4 : Int32) (x6 : Int32) (x7 : Int32) (z0 : Int32) (F : PF) (G : PG) (hM : M7 F0 F) : PP (mb_simple_229 fu x2 x4 x6 x7 z0 F G) (fun _ F' _ => M7 F0 F') := by
  unfold mb_simple_229
  refine PP.ite (fun c_1 => ?_) (fun c_1 => ?_)
  · skip
    exact mnj_simple_246 x4 x6 x7 z0 F G hM
  · skip
    unfold mb_simple_236
    refine PP.bind (mn_element x2 F G) ?_
    intro r2 F2 G2 hM2
    dsimp only
    unfold mb_simple_241
    refine PP.ite (fun c_3 => ?_) (fun c_3 => ?_)
    · skip
      unfold mb_simple_244
      refine PP.ret ?_
      exact (M7.tr hM hM2)
    · skip
      exact mnj_simple_246 x4 x6 x7 z0 F2 G2 (M7.tr hM hM2)
theorem mnj_simple_212 {fu : Nat} {F0 : PF} (x2 : Int32) (x4 : Int32) (x6 : Int32) (z0 : Int32) (F : PF) (G : PG) (hM : M7 F0 F) : PP (mb_simple_212 fu x2 x4 x6 z0 F G) (fun _ F' _ => M7 F0 F') := by
  unfold mb_simple_212
  refine PP.ite (fun c_1 => ?_) (fun c_1 => ?_)
  · skip
    unfold mb_simple_219
    exact mnj_simple_229 x2 x4 x6 z0 (0 : Int32) F G hM
  · skip
    unfold mb_simple_223
    refine PP.ix (fun _ => ?_)
    exact mnj_simple_229 x2 x4 x6 z0 (G 20 x2.toNatClampNeg) F G hM
theorem mnj_simple_211 {fu : Nat} {F0 : PF} (x2 : Int32) (x4 : Int32) (x6 : Int32) (F : PF) (G : PG) (hM : M7 F0 F) : PP (mb_simple_211 fu x2 x4 x6 F G) (fun _ F' _ => M7 F0 F') := by
  unfold mb_simple_211
  exact mnj_simple_212 x2 x4 x6 (0 : Int32) F G hM
theorem mnj_simple_191 {fu : Nat} {F0 : PF} (x2 : Int32) (x4 : Int32) (z0 : Int32) (F : PF) (G : PG) (hM : M7 F0 F) : PP (mb_simple_191 fu x2 x4 z0 F G) (fun _ F' _ => M7 F0 F') := by
  unfold mb_simple_191
  refine PP.ite (fun c_1 => ?_) (fun c_1 => ?_)
  · skip
    exact mnj_simple_211 x2 x4 z0 F G hM
  · skip
    unfold mb_simple_198
    refine PP.ix (fun _ => ?_)
    refine PP.ite (fun c_2 => ?_) (fun c_2 => ?_)
    · skip
      exact mnj_simple_211 x2 x4 z0 F G hM
    · skip
      unfold mb_simple_207
      exact mnj_simple_212 x2 x4 z0 (1 : Int32) F G hM
theorem mnj_simple_190 {fu : Nat} {F0 : PF} (x2 : Int32) (x4 : Int32) (F : PF) (G : PG) (hM : M7 F0 F) : PP (mb_simple_190 fu x2 x4 F G) (fun _ F' _ => M7 F0 F') := by
  unfold mb_simple_190
  exact mnj_simple_191 x2 x4 (0 : Int32) F G hM
theorem mnj_simple_172 {fu : Nat} {F0 : PF} (x2 : Int32) (x4 : Int32) (F : PF) (G : PG) (hM : M7 F0 F) : PP (mb_simple_172 fu x2 x4 F G) (fun _ F' _ => M7 F0 F') := by
  unfold mb_simple_172
  refine PP.ite (fun c_1 => ?_) (fun c_1 => ?_)
  · skip
    exact mnj_simple_190 x2 x4 F G hM
  · skip
    unfold mb_simple_177
    refine PP.ix (fun _ => ?_)
    refine PP.ite (fun c_2 => ?_) (fun c_2 => ?_)
    · skip
      exact mnj_simple_190 x2 x4 F G hM
    · skip
      unfold mb_simple_186
      exact mnj_simple_191 x2 x4 (1 : Int32) F G hM
theorem mnj_simple_149 {fu : Nat} {F0 : PF} (x1 : Int32) (x2 : Int32) (x3 : Int32) (x4 : Int32) (z0 : Int32) (F : PF) (G : PG) (hM : M7 F0 F) : PP (mb_simple_149 fu x1 x2 x3 x4 z0 F G) (fun _ F' _ => M7 F0 F') := by
  unfold mb_simple_149
  refine PP.ite (fun c_1 => ?_) (fun c_1 => ?_)
  · skip
    unfold mb_simple_155
    refine PP.ite (fun c_2 => ?_) (fun c_2 => ?_)
    · skip
      unfold mb_simple_160
      refine PP.ix (fun _ => ?_)
      refine PP.bind (mm_note (6 : Int32) (G 6 x1.toNatClampNeg) (by decide) F G) ?_
      intro r3 F3 G3 hM3
      dsimp only
      exact mnj_simple_172 x2 x4 F3 G3 (M7.tr hM hM3.1)
    · skip
      exact mnj_simple_172 x2 x4 F G hM
  · skip
    exact mnj_simple_172 x2 x4 F G hM
theorem mnj_simple_148 {fu : Nat} {F0 : PF} (x1 : Int32) (x2 : Int32) (x3 : Int32) (x4 : Int32) (F : PF) (G : PG) (hM : M7 F0 F) : PP (mb_simple_148 fu x1 x2 x3 x4 F G) (fun _ F' _ => M7 F0 F') := by
  unfold mb_simple_148
  exact mnj_simple_149 x1 x2 x3 x4 (0 : Int32) F G hM
theorem mnj_simple_144 {fu : Nat} {F0 : PF} (x1 : Int32) (x2 : Int32) (x3 : Int32) (x4 : Int32) (F : PF) (G : PG) (hM : M7 F0 F) : PP (mb_simple_144 fu x1 x2 x3 x4 F G) (fun _ F' _ => M7 F0 F') := by
  unfold mb_simple_144
  exact mnj_simple_149 x1 x2 x3 x4 (1 : Int32) F G hM
theorem mnj_simple_111 {fu : Nat} {F0 : PF} (x1 : Int32) (x2 : Int32) (x3 : Int32) (x4 : Int32) (F : PF) (G : PG) (hM : M7 F0 F) : PP (mb_simple_111 fu x1 x2 x3 x4 F G) (fun _ F' _ => M7 F0 F') := by
  unfold mb_simple_111
  refine PP.ite (fun c_1 => ?_) (fun c_1 => ?_)
  · skip
    exact mnj_simple_148 x1 x2 x3 x4 F G hM
  · skip
    unfold mb_simple_116
    refine PP.ite (fun c_2 => ?_) (fun c_2 => ?_)
    · skip
      unfold mb_simple_134
      refine PP.ix (fun _ => ?_)
      refine PP.ite (fun c_3 => ?_) (fun c_3 => ?_)
      · skip
        exact mnj_simple_144 x1 x2 x3 x4 F G hM
      · skip
        exact mnj_simple_148 x1 x2 x3 x4 F G hM
    · skip
      unfold mb_simple_121
      refine PP.ix (fun _ => ?_)
      refine PP.ite (fun c_4 => ?_) (fun c_4 => ?_)
      · skip
        unfold mb_simple_131
        exact mnj_simple_144 x1 x2 x3 x4 F G hM
      · skip
        exact mnj_simple_148 x1 x2 x3 x4 F G hM
theorem mnj_simple_87 {fu : Nat} {F0 : PF} (x1 : Int32) (x2 : Int32) (z0 : Int32) (F : PF) (G : PG) (hM : M7 F0 F) : PP (mb_simple_87 fu x1 x2 z0 F G) (fun _ F' _ => M7 F0 F') := by
  unfold mb_simple_87
  refine PP.bind (mw_isSign (24 : Int32) F G) ?_
  intro r1 F1 G1 hM1
  dsimp only
  unfold mb_simple_94
  refine PP.ite (fun c_2 => ?_) (fun c_2 => ?_)
  · skip
    exact mnj_simple_111 x1 x2 z0 r1 F1 G1 (M7.tr hM (M7.kx hM1 rfl))
  · skip
    unfold mb_simple_100
    refine PP.ix (fun _ => ?_)
    refine PP.bind (mm_note (4 : Int32) (G1 6 x1.toNatClampNeg) (by decide) F1 G1) ?_
    intro r3 F3 G3 hM3
    dsimp only
    exact mnj_simple_111 x1 x2 z0 r1 F3 G3 (M7.tr (M7.tr hM (M7.kx hM1 rfl)) hM3.1)
theorem mnj_simple_86 {fu : Nat} {F0 : PF} (x1 : Int32) (x2 : Int32) (F : PF) (G : PG) (hM : M7 F0 F) : PP (mb_simple_86 fu x1 x2 F G) (fun _ F' _ => M7 F0 F') := by
  unfold mb_simple_86
  exact mnj_simple_87 x1 x2 (0 : Int32) F G hM
theorem mnj_simple_61 {fu : Nat} {F0 : PF} (x1 : Int32) (z0 : Int32) (F : PF) (G : PG) (hM : M7 F0 F) : PP (mb_simple_61 fu x1 z0 F G) (fun _ F' _ => M7 F0 F') := by
  unfold mb_simple_61
  refine PP.ite (fun c_1 => ?_) (fun c_1 => ?_)
  · skip
    exact mnj_simple_86 x1 z0 F G hM
  · skip
    unfold mb_simple_69
    refine PP.ite (fun c_2 => ?_) (fun c_2 => ?_)
    · skip
      unfold mb_simple_74
      refine PP.ite (fun c_3 => ?_) (fun c_3 => ?_)
      · skip
        unfold mb_simple_82
        exact mnj_simple_87 x1 z0 (1 : Int32) F G hM
      · skip
        exact mnj_simple_86 x1 z0 F G hM
    · skip
      exact mnj_simple_86 x1 z0 F G hM
theorem mn_simple {fu : Nat} (F : PF) (G : PG) : PP (mf_simple fu F G) (fun _ F' _ => M7 F F') := by
  unfold mf_simple
  unfold mb_simple_0
  refine PP.bind (mw_name F G) ?_
  intro r1 F1 G1 hM1
  dsimp only
  unfold mb_simple_4
  refine PP.ite (fun c_2 => ?_) (fun c_2 => ?_)
  · skip
    unfold mb_simple_14
    refine PP.bind (mw_isSign (22 : Int32) F1 G1) ?_
    intro r3 F3 G3 hM3
    dsimp only
    unfold mb_simple_20
    refine PP.ite (fun c_4 => ?_) (fun c_4 => ?_)
    · skip
      unfold mb_simple_45
      refine PP.ite (fun c_5 => ?_) (fun c_5 => ?_)
      · skip
        unfold mb_simple_52
        exact mnj_simple_61 r1 (-1 : Int32) F3 G3 (M7.tr (M7.tr M7.rf (M7.kx hM1 rfl)) (M7.kx hM3 rfl))
      · skip
        unfold mb_simple_56
        refine PP.bind (mw_meaning r1 F3 G3) ?_
        intro r6 F6 G6 hM6
        dsimp only
        exact mnj_simple_61 r1 r6 F6 G6 (M7.tr (M7.tr (M7.tr M7.rf (M7.kx hM1 rfl)) (M7.kx hM3 rfl)) (M7.kx hM6 rfl))
    · skip
      unfold mb_simple_23
      refine PP.bind (mn_call r1 (0 : Int32) F3 G3) ?_
      intro r7 F7 G7 hM7
      dsimp only
      unfold mb_simple_29
      refine PP.ite (fun c_8 => ?_) (fun c_8 => ?_)
      · skip
        unfold mb_simple_32
        refine PP.ret ?_
        exact (M7.tr (M7.tr (M7.tr M7.rf (M7.kx hM1 rfl)) (M7.kx hM3 rfl)) hM7)
      · skip
        unfold mb_simple_34
        refine PP.bind (mw_step (18 : Int32) (0 : Int32) (0 : Int32) F7 G7) ?_
        intro r9 F9 G9 hM9
        dsimp only
        unfold mb_simple_42
        refine PP.ret ?_
        exact (M7.tr (M7.tr (M7.tr (M7.tr M7.rf (M7.kx hM1 rfl)) (M7.kx hM3 rfl)) hM7) (M7.kx hM9 rfl))
  · skip
    unfold mb_simple_12
    refine PP.ret ?_
    exact (M7.tr M7.rf (M7.kx hM1 rfl))
theorem mnj_tellHere_326 {fu : Nat} {F0 : PF} (x3 : Int32) (x4 : Int32) (F : PF) (G : PG) (hM : M7 F0 F) : PP (mb_tellHere_326 fu x3 x4 F G) (fun _ F' _ => M7 F0 F') := by
  unfold mb_tellHere_326
  refine PP.bind (mw_step (2 : Int32) x4 (0 : Int32) F G) ?_
  intro r1 F1 G1 hM1
  dsimp only
  unfold mb_tellHere_334
  refine PP.bind (mw_declare x3 (1 : Int32) (0 : Int32) x4 (1 : Int32) (1 : Int32) F1 G1) ?_
  intro r2 F2 G2 hM2
  dsimp only
  unfold mb_tellHere_346
  refine PP.ret ?_
  exact (M7.tr (M7.tr hM (M7.kx hM1 rfl)) (M7.kx hM2 rfl))
theorem mnj_tellHere_273 {fu : Nat} {F0 : PF} (x1 : Int32) (x3 : Int32) (x4 : Int32) (z0 : Int32) (z1 : Int32) (F : PF) (G : PG) (hM : M7 F0 F) : PP (mb_tellHere_273 fu x1 x3 x4 z0 z1 F G) (fun _ F' _ => M7 F0 F') := by
  unfold mb_tellHere_273
  unfold mb_tellHere_277
  refine PP.bind (mw_isSign (32 : Int32) (fup F 53 (z1 + z0)) G) ?_
  intro r1 F1 G1 hM1
  dsimp only
  unfold mb_tellHere_283
  refine PP.ite (fun c_2 => ?_) (fun c_2 => ?_)
  · skip
    unfold mb_tellHere_305
    refine PP.ite (fun c_3 => ?_) (fun c_3 => ?_)
    · skip
      unfold mb_tellHere_320
      refine PP.bind (mw_fails (2 : Int32) F1 G1) ?_
      intro r4 F4 G4 hM4
      dsimp only
      unfold mb_tellHere_325
      refine PP.bz (fun _ => ?_)
      refine PP.ret ?_
      exact (M7.tr (M7.tr (M7.f (k := 53) (by decide) hM) (M7.kx hM1 rfl)) (M7.kx hM4 rfl))
    · skip
      unfold mb_tellHere_309
      refine PP.bind (mw_step (0 : Int32) (0 : Int32) (0 : Int32) F1 G1) ?_
      intro r5 F5 G5 hM5
      dsimp only
      unfold mb_tellHere_316
      exact mnj_tellHere_326 x3 x4 F5 G5 (M7.tr (M7.tr (M7.f (k := 53) (by decide) hM) (M7.kx hM1 rfl)) (M7.kx hM5 rfl))
  · skip
    unfold mb_tellHere_286
    unfold mb_tellHere_296
    refine PP.bind (mn_expression (fup F1 42 ((F1 42) + (1 : Int32))) G1) ?_
    intro r6 F6 G6 hM6
    dsimp only
    unfold mb_tellHere_300
    refine PP.ite (fun c_7 => ?_) (fun c_7 => ?_)
    · skip
      unfold mb_tellHere_303
      refine PP.ret ?_
      exact (M7.tr (M7.f (k := 42) (by decide) (M7.tr (M7.f (k := 53) (by decide) hM) (M7.kx hM1 rfl))) hM6)
    · skip
      exact mnj_tellHere_326 x3 x4 F6 G6 (M7.tr (M7.f (k := 42) (by decide) (M7.tr (M7.f (k := 53) (by decide) hM) (M7.kx hM1 rfl))) hM6)
theorem mnj_tellHere_247 {fu : Nat} {F0 : PF} (x1 : Int32) (x3 : Int32) (F : PF) (G : PG) (hM : M7 F0 F) : PP (mb_tellHere_247 fu x1 x3 F G) (fun _ F' _ => M7 F0 F') := by
  unfold mb_tellHere_247
  refine PP.ite (fun c_1 => ?_) (fun c_1 => ?_)
  · skip
    unfold mb_tellHere_272
    exact mnj_tellHere_273 x1 x3 (F 53) (1 : Int32) (F 53) F G hM
  · skip
    unfold mb_tellHere_268
    exact mnj_tellHere_273 x1 x3 (F 53) (0 : Int32) (F 53) F G hM
theorem mnj_tellHere_210 {fu : Nat} {F0 : PF} (x1 : Int32) (x3 : Int32) (F : PF) (G : PG) (hM : M7 F0 F) : PP (mb_tellHere_210 fu x1 x3 F G) (fun _ F' _ => M7 F0 F') := by
  unfold mb_tellHere_210
  refine PP.bind (mn_twice x3 F G) ?_
  intro r1 F1 G1 hM1
  dsimp only
  unfold mb_tellHere_215
  unfold mb_tellHere_225
  refine PP.ite (fun c_2 => ?_) (fun c_2 => ?_)
  · skip
    exact mnj_tellHere_247 x1 x3 (fup F1 52 ((F1 52) + (1 : Int32))) G1 (M7.f (k := 52) (by decide) (M7.tr hM hM1))
  · skip
    unfold mb_tellHere_235
    refine PP.ix (fun _ => ?_)
    refine PP.bind (mm_note (11 : Int32) (G1 6 x3.toNatClampNeg) (by decide) (fup F1 52 ((F1 52) + (1 : Int32))) G1) ?_
    intro r3 F3 G3 hM3
    dsimp only
    exact mnj_tellHere_247 x1 x3 F3 G3 (M7.tr (M7.f (k := 52) (by decide) (M7.tr hM hM1)) hM3.1)
theorem mnj_tellHere_193 {fu : Nat} {F0 : PF} (x5 : Int32) (z0 : Int32) (z1 : Int32) (z2 : Int32) (z3 : Int32) (z4 : Int32) (F : PF) (G : PG) (hM : M7 F0 F) : PP (mb_tellHere_193 fu x5 z0 z1 z2 z3 z4 F G) (fun _ F' _ => M7 F0 F') := by
  unfold mb_tellHere_193
  refine PP.bind (mw_declare z4 z3 z2 z1 z0 (1 : Int32) F G) ?_
  intro r1 F1 G1 hM1
  dsimp only
  unfold mb_tellHere_197
  unfold mb_tellHere_208
  refine PP.ret ?_
  exact (M7.f (k := 53) (by decide) (M7.tr hM (M7.kx hM1 rfl)))
theorem mnj_tellHere_158 {fu : Nat} {F0 : PF} (x2 : Int32) (x3 : Int32) (x4 : Int32) (z0 : Int32) (F : PF) (G : PG) (hM : M7 F0 F) : PP (mb_tellHere_158 fu x2 x3 x4 z0 F G) (fun _ F' _ => M7 F0 F') := by
  unfold mb_tellHere_158
  refine PP.bind (mw_step (22 : Int32) (F 53) z0 F G) ?_
  intro r1 F1 G1 hM1
  dsimp only
  unfold mb_tellHere_172
  refine PP.ite (fun c_2 => ?_) (fun c_2 => ?_)
  · skip
    unfold mb_tellHere_187
    exact mnj_tellHere_193 z0 (1 : Int32) (F1 53) x2 (2 : Int32) x3 F1 G1 (M7.tr hM (M7.kx hM1 rfl))
  · skip
    unfold mb_tellHere_191
    exact mnj_tellHere_193 z0 x4 (F1 53) x2 (2 : Int32) x3 F1 G1 (M7.tr hM (M7.kx hM1 rfl))
theorem mnj_tellHere_152 {fu : Nat} {F0 : PF} (x2 : Int32) (x3 : Int32) (x4 : Int32) (F : PF) (G : PG) (hM : M7 F0 F) : PP (mb_tellHere_152 fu x2 x3 x4 F G) (fun _ F' _ => M7 F0 F') := by
  unfold mb_tellHere_152
  exact mnj_tellHere_158 x2 x3 x4 (0 : Int32) F G hM
theorem mnj_tellHere_136 {fu : Nat} {F0 : PF} (x2 : Int32) (x3 : Int32) (x4 : Int32) (F : PF) (G : PG) (hM : M7 F0 F) : PP (mb_tellHere_136 fu x2 x3 x4 F G) (fun _ F' _ => M7 F0 F') := by
  unfold mb_tellHere_136
  refine PP.ite (fun c_1 => ?_) (fun c_1 => ?_)
  · skip
    exact mnj_tellHere_152 x2 x3 x4 F G hM
  · skip
    unfold mb_tellHere_142
    refine PP.ite (fun c_2 => ?_) (fun c_2 => ?_)
    · skip
      unfold mb_tellHere_156
      exact mnj_tellHere_158 x2 x3 x4 x4 F G hM
    · skip
      exact mnj_tellHere_152 x2 x3 x4 F G hM
theorem mnj_tellHere_110 {fu : Nat} {F0 : PF} (x2 : Int32) (x3 : Int32) (x4 : Int32) (z0 : Int32) (z1 : Int32) (F : PF) (G : PG) (hM : M7 F0 F) : PP (mb_tellHere_110 fu x2 x3 x4 z0 z1 F G) (fun _ F' _ => M7 F0 F') := by
  unfold mb_tellHere_110
  unfold mb_tellHere_114
  refine PP.ite (fun c_1 => ?_) (fun c_1 => ?_)
  · skip
    exact mnj_tellHere_136 x2 x3 x4 (fup F 52 (z1 + z0)) G (M7.f (k := 52) (by decide) hM)
  · skip
    unfold mb_tellHere_124
    refine PP.ix (fun _ => ?_)
    refine PP.bind (mm_note (11 : Int32) (G 6 x3.toNatClampNeg) (by decide) (fup F 52 (z1 + z0)) G) ?_
    intro r2 F2 G2 hM2
    dsimp only
    exact mnj_tellHere_136 x2 x3 x4 F2 G2 (M7.tr (M7.f (k := 52) (by decide) hM) hM2.1)
theorem mnj_tellHere_47 {fu : Nat} {F0 : PF} (x2 : Int32) (x3 : Int32) (F : PF) (G : PG) (hM : M7 F0 F) : PP (mb_tellHere_47 fu x2 x3 F G) (fun _ F' _ => M7 F0 F') := by
  unfold mb_tellHere_47
  refine PP.bind (mn_twice x3 F G) ?_
  intro r1 F1 G1 hM1
  dsimp only
  unfold mb_tellHere_52
  refine PP.bind (mw_openSign (24 : Int32) F1 G1) ?_
  intro r2 F2 G2 hM2
  dsimp only
  unfold mb_tellHere_58
  refine PP.ite (fun c_3 => ?_) (fun c_3 => ?_)
  · skip
    unfold mb_tellHere_61
    refine PP.ret ?_
    exact (M7.tr (M7.tr hM hM1) (M7.kx hM2 rfl))
  · skip
    unfold mb_tellHere_63
    refine PP.bind (mn_sizeHere F2 G2) ?_
    intro r4 F4 G4 hM4
    dsimp only
    unfold mb_tellHere_67
    refine PP.bind (mw_closeSign (25 : Int32) F4 G4) ?_
    intro r5 F5 G5 hM5
    dsimp only
    unfold mb_tellHere_75
    refine PP.ite (fun c_6 => ?_) (fun c_6 => ?_)
    · skip
      unfold mb_tellHere_78
      refine PP.ret ?_
      exact (M7.tr (M7.tr (M7.tr (M7.tr hM hM1) (M7.kx hM2 rfl)) hM4) (M7.kx hM5 rfl))
    · skip
      unfold mb_tellHere_80
      refine PP.ite (fun c_7 => ?_) (fun c_7 => ?_)
      · skip
        unfold mb_tellHere_91
        exact mnj_tellHere_110 x2 x3 r4 (0 : Int32) (F5 52) F5 G5 (M7.tr (M7.tr (M7.tr (M7.tr hM hM1) (M7.kx hM2 rfl)) hM4) (M7.kx hM5 rfl))
      · skip
        unfold mb_tellHere_95
        refine PP.ite (fun c_8 => ?_) (fun c_8 => ?_)
        · skip
          unfold mb_tellHere_108
          exact mnj_tellHere_110 x2 x3 r4 r4 (F5 52) F5 G5 (M7.tr (M7.tr (M7.tr (M7.tr hM hM1) (M7.kx hM2 rfl)) hM4) (M7.kx hM5 rfl))
        · skip
          unfold mb_tellHere_99
          exact mnj_tellHere_110 x2 x3 r4 ((r4 + (3 : Int32)) / (4 : Int32)) (F5 52) F5 G5 (M7.tr (M7.tr (M7.tr (M7.tr hM hM1) (M7.kx hM2 rfl)) hM4) (M7.kx hM5 rfl))
theorem mn_tellHere {fu : Nat} (x1 : Int32) (F : PF) (G : PG) : PP (mf_tellHere fu x1 F G) (fun _ F' _ => M7 F F') := by
  unfold mf_tellHere
  unfold mb_tellHere_0
  refine PP.bind (mw_isWord (1 : Int32) F G) ?_
  intro r1 F1 G1 hM1
  dsimp only
  unfold mb_tellHere_5
  unfold mb_tellHere_16
  refine PP.bind (mw_name (fup F1 42 ((F1 42) + (1 : Int32))) G1) ?_
  intro r2 F2 G2 hM2
  dsimp only
  unfold mb_tellHere_20
  refine PP.ite (fun c_3 => ?_) (fun c_3 => ?_)
  · skip
    unfold mb_tellHere_30
    refine PP.ite (fun c_4 => ?_) (fun c_4 => ?_)
    · skip
      exact mnj_tellHere_210 x1 r2 F2 G2 (M7.tr (M7.f (k := 42) (by decide) (M7.tr M7.rf (M7.kx hM1 rfl))) (M7.kx hM2 rfl))
    · skip
      unfold mb_tellHere_34
      refine PP.ite (fun c_5 => ?_) (fun c_5 => ?_)
      · skip
        unfold mb_tellHere_38
        refine PP.bind (mw_isSign (24 : Int32) F2 G2) ?_
        intro r6 F6 G6 hM6
        dsimp only
        unfold mb_tellHere_44
        refine PP.ite (fun c_7 => ?_) (fun c_7 => ?_)
        · skip
          exact mnj_tellHere_210 x1 r2 F6 G6 (M7.tr (M7.tr (M7.f (k := 42) (by decide) (M7.tr M7.rf (M7.kx hM1 rfl))) (M7.kx hM2 rfl)) (M7.kx hM6 rfl))
        · skip
          exact mnj_tellHere_47 r1 r2 F6 G6 (M7.tr (M7.tr (M7.f (k := 42) (by decide) (M7.tr M7.rf (M7.kx hM1 rfl))) (M7.kx hM2 rfl)) (M7.kx hM6 rfl))
      · skip
        exact mnj_tellHere_47 r1 r2 F2 G2 (M7.tr (M7.f (k := 42) (by decide) (M7.tr M7.rf (M7.kx hM1 rfl))) (M7.kx hM2 rfl))
  · skip
    unfold mb_tellHere_28
    refine PP.ret ?_
    exact (M7.tr (M7.f (k := 42) (by decide) (M7.tr M7.rf (M7.kx hM1 rfl))) (M7.kx hM2 rfl))
theorem mnj_leaves_93 {fu : Nat} {F0 : PF} (F : PF) (G : PG) (hM : M7 F0 F) : PP (mb_leaves_93 fu F G) (fun _ F' _ => M7 F0 F') := by
  unfold mb_leaves_93
  refine PP.bind (mw_sign (29 : Int32) F G) ?_
  intro r1 F1 G1 hM1
  dsimp only
  unfold mb_leaves_99
  refine PP.bz (fun _ => ?_)
  refine PP.ret ?_
  exact (M7.tr hM (M7.kx hM1 rfl))
theorem mnj_leaves_75 {fu : Nat} {F0 : PF} (x1 : Int32) (x2 : Int32) (z0 : Int32) (z1 : Int32) (F : PF) (G : PG) (hM : M7 F0 F) : PP (mb_leaves_75 fu x1 x2 z0 z1 F G) (fun _ F' _ => M7 F0 F') := by
  unfold mb_leaves_75
  refine PP.ix (fun _ => ?_)
  unfold mb_leaves_76
  refine PP.ite (fun c_1 => ?_) (fun c_1 => ?_)
  · skip
    unfold mb_leaves_88
    exact mnj_leaves_93 (fup F 64 x2) (gup G 57 z1.toNatClampNeg z0) (M7.f (k := 64) (by decide) hM)
  · skip
    unfold mb_leaves_80
    unfold mb_leaves_85
    exact mnj_leaves_93 (fup F 63 x2) (gup G 57 z1.toNatClampNeg z0) (M7.f (k := 63) (by decide) hM)
theorem mnj_leaves_29 {fu : Nat} {F0 : PF} (x1 : Int32) (F : PF) (G : PG) (hM : M7 F0 F) : PP (mb_leaves_29 fu x1 F G) (fun _ F' _ => M7 F0 F') := by
  unfold mb_leaves_29
  unfold mb_leaves_39
  refine PP.bind (mw_step (12 : Int32) (0 : Int32) (0 : Int32) (fup F 42 ((F 42) + (1 : Int32))) G) ?_
  intro r1 F1 G1 hM1
  dsimp only
  unfold mb_leaves_47
  refine PP.ite (fun c_2 => ?_) (fun c_2 => ?_)
  · skip
    exact mnj_leaves_93 F1 G1 (M7.tr (M7.f (k := 42) (by decide) hM) (M7.kx hM1 rfl))
  · skip
    unfold mb_leaves_55
    refine PP.ite (fun c_3 => ?_) (fun c_3 => ?_)
    · skip
      unfold mb_leaves_71
      exact mnj_leaves_75 x1 r1 (F1 64) r1 F1 G1 (M7.tr (M7.f (k := 42) (by decide) hM) (M7.kx hM1 rfl))
    · skip
      unfold mb_leaves_64
      exact mnj_leaves_75 x1 r1 (F1 63) r1 F1 G1 (M7.tr (M7.f (k := 42) (by decide) hM) (M7.kx hM1 rfl))
theorem mn_leaves {fu : Nat} (F : PF) (G : PG) : PP (mf_leaves fu F G) (fun _ F' _ => M7 F F') := by
  unfold mf_leaves
  unfold mb_leaves_0
  refine PP.bind (mw_isWord (9 : Int32) F G) ?_
  intro r1 F1 G1 hM1
  dsimp only
  unfold mb_leaves_6
  refine PP.ite (fun c_2 => ?_) (fun c_2 => ?_)
  · skip
    unfold mb_leaves_14
    refine PP.ix (fun _ => ?_)
    refine PP.bind (mm_note (9 : Int32) (G1 6 (F1 42).toNatClampNeg) (by decide) F1 G1) ?_
    intro r3 F3 G3 hM3
    dsimp only
    exact mnj_leaves_29 r1 F3 G3 (M7.tr (M7.tr M7.rf (M7.kx hM1 rfl)) hM3.1)
  · skip
    exact mnj_leaves_29 r1 F1 G1 (M7.tr M7.rf (M7.kx hM1 rfl))
theorem mnj_block_35 {fu : Nat} (rc : RC) (ihN : mNI rc) {F0 : PF} (F : PF) (G : PG) (hM : M7 F0 F) : PP (mb_block_35 fu rc F G) (fun _ F' _ => M7 F0 F') := by
  unfold mb_block_35
  refine PP.bind (mw_closeSign (27 : Int32) F G) ?_
  intro r1 F1 G1 hM1
  dsimp only
  unfold mb_block_41
  refine PP.bz (fun _ => ?_)
  refine PP.ret ?_
  exact (M7.tr hM (M7.kx hM1 rfl))
theorem mnz_block_11 {fu : Nat} (rc : RC) (ihN : mNI rc) {F0 : PF} : ∀ (n : Nat) (F : PF) (G : PG) (hM : M7 F0 F), PP (ml_block_11 fu rc n F G) (fun _ F' _ => M7 F0 F') := by
  intro n
  induction n with
  | zero =>
    intro F G hM
    exact PP.no
  | succ n ihn =>
    intro F G hM
    show PP (mb_block_11 fu rc (ml_block_11 fu rc n) F G) _
    unfold mb_block_11
    refine PP.ite (fun c_1 => ?_) (fun c_1 => ?_)
    · skip
      unfold mb_block_18
      refine PP.bind (mw_isSign (27 : Int32) F G) ?_
      intro r2 F2 G2 hM2
      dsimp only
      unfold mb_block_24
      refine PP.ite (fun c_3 => ?_) (fun c_3 => ?_)
      · skip
        unfold mb_block_27
        refine PP.bind (ihN 6 0 0 F2 G2) ?_
        intro r4 F4 G4 hM4
        dsimp only
        unfold mb_block_31
        exact ihn F4 G4 (M7.tr (M7.tr hM (M7.kx hM2 rfl)) hM4)
      · skip
        exact mnj_block_35 rc ihN F2 G2 (M7.tr hM (M7.kx hM2 rfl))
    · skip
      exact mnj_block_35 rc ihN F G hM
theorem mnt_block {fu : Nat} (rc : RC) (ihN : mNI rc) (F : PF) (G : PG) : PP (mh_block fu rc F G) (fun _ F' _ => M7 F F') := by
  unfold mh_block
  unfold mb_block_0
  refine PP.bind (mw_openSign (26 : Int32) F G) ?_
  intro r1 F1 G1 hM1
  dsimp only
  unfold mb_block_6
  refine PP.ite (fun c_2 => ?_) (fun c_2 => ?_)
  · skip
    unfold mb_block_9
    refine PP.ret ?_
    exact (M7.tr M7.rf (M7.kx hM1 rfl))
  · skip
    exact mnz_block_11 rc ihN fu F1 G1 (M7.tr M7.rf (M7.kx hM1 rfl))
theorem mnj_body_90 {fu : Nat} (rc : RC) (ihN : mNI rc) {F0 : PF} (x2 : Int32) (x4 : Int32) (F : PF) (G : PG) (hM : M7 F0 F) : PP (mb_body_90 fu rc x2 x4 F G) (fun _ F' _ => M7 F0 F') := by
  unfold mb_body_90
  unfold mb_body_98
  unfold mb_body_103
  refine PP.bz (fun _ => ?_)
  refine PP.ret ?_
  exact (M7.f (k := 63) (by decide) (M7.f (k := 65) (by decide) hM))
theorem mnt_body {fu : Nat} (rc : RC) (ihN : mNI rc) (x1 : Int32) (F : PF) (G : PG) : PP (mh_body fu rc x1 F G) (fun _ F' _ => M7 F F') := by
  unfold mh_body
  unfold mb_body_0
  unfold mb_body_15
  unfold mb_body_20
  unfold mb_body_30
  refine PP.bind (mw_step (15 : Int32) (0 : Int32) (0 : Int32) (fup (fup (fup F 63 (-1 : Int32)) 64 (-1 : Int32)) 51 ((F 51) + (1 : Int32))) G) ?_
  intro r1 F1 G1 hM1
  dsimp only
  unfold mb_body_38
  refine PP.bind (ihN 5 0 0 F1 G1) ?_
  intro r2 F2 G2 hM2
  dsimp only
  unfold mb_body_43
  unfold mb_body_55
  refine PP.ite (fun c_3 => ?_) (fun c_3 => ?_)
  · skip
    unfold mb_body_77
    unfold mb_body_85
    exact mnj_body_90 rc ihN (F 63) r2 (fup (fup (fup F2 51 ((F2 51) - (1 : Int32))) 66 (F2 64)) 64 (F 64)) G2 (M7.f (k := 64) (by decide) (M7.f (k := 66) (by decide) (M7.f (k := 51) (by decide) (M7.tr (M7.tr (M7.f (k := 51) (by decide) (M7.f (k := 64) (by decide) (M7.f (k := 63) (by decide) M7.rf))) (M7.kx hM1 rfl)) hM2))))
  · skip
    unfold mb_body_60
    refine PP.bind (mw_settle (F2 64) x1 (fup F2 51 ((F2 51) - (1 : Int32))) G2) ?_
    intro r4 F4 G4 hM4
    dsimp only
    unfold mb_body_69
    unfold mb_body_74
    exact mnj_body_90 rc ihN (F 63) r2 (fup F4 64 (F 64)) G4 (M7.f (k := 64) (by decide) (M7.tr (M7.f (k := 51) (by decide) (M7.tr (M7.tr (M7.f (k := 51) (by decide) (M7.f (k := 64) (by decide) (M7.f (k := 63) (by decide) M7.rf))) (M7.kx hM1 rfl)) hM2)) (M7.kx hM4 rfl)))
theorem mnj_choice_14 {fu : Nat} (rc : RC) (ihN : mNI rc) {F0 : PF} (F : PF) (G : PG) (hM : M7 F0 F) : PP (mb_choice_14 fu rc F G) (fun _ F' _ => M7 F0 F') := by
  unfold mb_choice_14
  refine PP.ret ?_
  exact hM
theorem mnj_choice_132 {fu : Nat} (rc : RC) (ihN : mNI rc) {F0 : PF} (z0 : Int32) (F : PF) (G : PG) (hM : M7 F0 F) : PP (mb_choice_132 fu rc z0 F G) (fun _ F' _ => M7 F0 F') := by
  unfold mb_choice_132
  refine PP.bz (fun _ => ?_)
  refine PP.ret ?_
  exact hM
theorem mnj_choice_110 {fu : Nat} (rc : RC) (ihN : mNI rc) {F0 : PF} (F : PF) (G : PG) (hM : M7 F0 F) : PP (mb_choice_110 fu rc F G) (fun _ F' _ => M7 F0 F') := by
  unfold mb_choice_110
  unfold mb_choice_120
  refine PP.ite (fun c_1 => ?_) (fun c_1 => ?_)
  · skip
    unfold mb_choice_127
    exact mnj_choice_132 rc ihN (1 : Int32) (fup F 43 ((F 43) - (1 : Int32))) G (M7.f (k := 43) (by decide) hM)
  · skip
    unfold mb_choice_131
    exact mnj_choice_132 rc ihN (0 : Int32) (fup F 43 ((F 43) - (1 : Int32))) G (M7.f (k := 43) (by decide) hM)
theorem mnj_choice_100 {fu : Nat} (rc : RC) (ihN : mNI rc) {F0 : PF} (x1 : Int32) (F : PF) (G : PG) (hM : M7 F0 F) : PP (mb_choice_100 fu rc x1 F G) (fun _ F' _ => M7 F0 F') := by
  unfold mb_choice_100
  refine PP.ix (fun _ => ?_)
  exact mnj_choice_110 rc ihN F (gup G 57 x1.toNatClampNeg (F 60)) hM
theorem mnt_choice {fu : Nat} (rc : RC) (ihN : mNI rc) (F : PF) (G : PG) : PP (mh_choice fu rc F G) (fun _ F' _ => M7 F F') := by
  unfold mh_choice
  unfold mb_choice_0
  refine PP.bind (mw_opens F G) ?_
  intro r1 F1 G1 hM1
  dsimp only
  unfold mb_choice_4
  refine PP.ite (fun c_2 => ?_) (fun c_2 => ?_)
  · skip
    exact mnj_choice_14 rc ihN F1 G1 (M7.tr M7.rf (M7.kx hM1 rfl))
  · skip
    unfold mb_choice_7
    refine PP.bind (mn_condition F1 G1) ?_
    intro r3 F3 G3 hM3
    dsimp only
    unfold mb_choice_11
    refine PP.ite (fun c_4 => ?_) (fun c_4 => ?_)
    · skip
      exact mnj_choice_14 rc ihN F3 G3 (M7.tr (M7.tr M7.rf (M7.kx hM1 rfl)) hM3)
    · skip
      unfold mb_choice_16
      refine PP.bind (mw_step (13 : Int32) (0 : Int32) (0 : Int32) F3 G3) ?_
      intro r5 F5 G5 hM5
      dsimp only
      unfold mb_choice_24
      refine PP.bind (ihN 5 0 0 F5 G5) ?_
      intro r6 F6 G6 hM6
      dsimp only
      unfold mb_choice_29
      refine PP.ite (fun c_7 => ?_) (fun c_7 => ?_)
      · skip
        unfold mb_choice_32
        refine PP.ret ?_
        exact (M7.tr (M7.tr (M7.tr (M7.tr M7.rf (M7.kx hM1 rfl)) hM3) (M7.kx hM5 rfl)) hM6)
      · skip
        unfold mb_choice_34
        refine PP.ite (fun c_8 => ?_) (fun c_8 => ?_)
        · skip
          unfold mb_choice_41
          refine PP.bind (mw_isWord (5 : Int32) F6 G6) ?_
          intro r9 F9 G9 hM9
          dsimp only
          unfold mb_choice_46
          refine PP.ite (fun c_10 => ?_) (fun c_10 => ?_)
          · skip
            exact mnj_choice_100 rc ihN r5 F9 G9 (M7.tr (M7.tr (M7.tr (M7.tr (M7.tr M7.rf (M7.kx hM1 rfl)) hM3) (M7.kx hM5 rfl)) hM6) (M7.kx hM9 rfl))
          · skip
            unfold mb_choice_49
            unfold mb_choice_59
            refine PP.bind (mw_step (12 : Int32) (0 : Int32) (0 : Int32) (fup F9 42 ((F9 42) + (1 : Int32))) G9) ?_
            intro r11 F11 G11 hM11
            dsimp only
            unfold mb_choice_67
            refine PP.ix (fun _ => ?_)
            unfold mb_choice_78
            refine PP.bind (ihN 5 0 0 F11 (gup G11 57 r5.toNatClampNeg (F11 60))) ?_
            intro r12 F12 G12 hM12
            dsimp only
            unfold mb_choice_82
            refine PP.ite (fun c_13 => ?_) (fun c_13 => ?_)
            · skip
              unfold mb_choice_85
              refine PP.ret ?_
              exact (M7.tr (M7.tr (M7.f (k := 42) (by decide) (M7.tr (M7.tr (M7.tr (M7.tr (M7.tr M7.rf (M7.kx hM1 rfl)) hM3) (M7.kx hM5 rfl)) hM6) (M7.kx hM9 rfl))) (M7.kx hM11 rfl)) hM12)
            · skip
              unfold mb_choice_87
              refine PP.ix (fun _ => ?_)
              unfold mb_choice_97
              exact mnj_choice_110 rc ihN F12 (gup G12 57 r11.toNatClampNeg (F12 60)) (M7.tr (M7.tr (M7.f (k := 42) (by decide) (M7.tr (M7.tr (M7.tr (M7.tr (M7.tr M7.rf (M7.kx hM1 rfl)) hM3) (M7.kx hM5 rfl)) hM6) (M7.kx hM9 rfl))) (M7.kx hM11 rfl)) hM12)
        · skip
          exact mnj_choice_100 rc ihN r5 F6 G6 (M7.tr (M7.tr (M7.tr (M7.tr M7.rf (M7.kx hM1 rfl)) hM3) (M7.kx hM5 rfl)) hM6)
theorem mnj_counted_16 {fu : Nat} (rc : RC) (ihN : mNI rc) {F0 : PF} (F : PF) (G : PG) (hM : M7 F0 F) : PP (mb_counted_16 fu rc F G) (fun _ F' _ => M7 F0 F') := by
  unfold mb_counted_16
  refine PP.ret ?_
  exact hM
theorem mnj_counted_226 {fu : Nat} (rc : RC) (ihN : mNI rc) {F0 : PF} (x1 : Int32) (x6 : Int32) (F : PF) (G : PG) (hM : M7 F0 F) : PP (mb_counted_226 fu rc x1 x6 F G) (fun _ F' _ => M7 F0 F') := by
  unfold mb_counted_226
  refine PP.bind (mw_settle x6 (F 60) F G) ?_
  intro r1 F1 G1 hM1
  dsimp only
  unfold mb_counted_236
  refine PP.bind (mw_ends x1 F1 G1) ?_
  intro r2 F2 G2 hM2
  dsimp only
  unfold mb_counted_241
  unfold mb_counted_251
  refine PP.ret ?_
  exact (M7.f (k := 43) (by decide) (M7.tr (M7.tr hM (M7.kx hM1 rfl)) (M7.kx hM2 rfl)))
theorem mnj_counted_153 {fu : Nat} (rc : RC) (ihN : mNI rc) {F0 : PF} (x1 : Int32) (x2 : Int32) (x3 : Int32) (x4 : Int32) (x5 : Int32) (F : PF) (G : PG) (hM : M7 F0 F) : PP (mb_counted_153 fu rc x1 x2 x3 x4 x5 F G) (fun _ F' _ => M7 F0 F') := by
  unfold mb_counted_153
  refine PP.bind (mw_closeSign (23 : Int32) F G) ?_
  intro r1 F1 G1 hM1
  dsimp only
  unfold mb_counted_159
  refine PP.ite (fun c_2 => ?_) (fun c_2 => ?_)
  · skip
    unfold mb_counted_162
    refine PP.ret ?_
    exact (M7.tr hM (M7.kx hM1 rfl))
  · skip
    unfold mb_counted_164
    refine PP.bind (mw_step (12 : Int32) x2 (0 : Int32) F1 G1) ?_
    intro r3 F3 G3 hM3
    dsimp only
    unfold mb_counted_172
    refine PP.ix (fun _ => ?_)
    unfold mb_counted_184
    refine PP.bind (ihN 1 x5 0 F3 (gup G3 57 x4.toNatClampNeg (F3 60))) ?_
    intro r4 F4 G4 hM4
    dsimp only
    unfold mb_counted_190
    refine PP.ite (fun c_5 => ?_) (fun c_5 => ?_)
    · skip
      unfold mb_counted_193
      refine PP.ret ?_
      exact (M7.tr (M7.tr (M7.tr hM (M7.kx hM1 rfl)) (M7.kx hM3 rfl)) hM4)
    · skip
      unfold mb_counted_195
      refine PP.bind (mw_step (12 : Int32) x5 (0 : Int32) F4 G4) ?_
      intro r6 F6 G6 hM6
      dsimp only
      unfold mb_counted_210
      refine PP.ite (fun c_7 => ?_) (fun c_7 => ?_)
      · skip
        exact mnj_counted_226 rc ihN x1 (F4 65) F6 G6 (M7.tr (M7.tr (M7.tr (M7.tr hM (M7.kx hM1 rfl)) (M7.kx hM3 rfl)) hM4) (M7.kx hM6 rfl))
      · skip
        unfold mb_counted_216
        refine PP.ix (fun _ => ?_)
        exact mnj_counted_226 rc ihN x1 (F4 65) F6 (gup G6 57 x3.toNatClampNeg (F6 60)) (M7.tr (M7.tr (M7.tr (M7.tr hM (M7.kx hM1 rfl)) (M7.kx hM3 rfl)) hM4) (M7.kx hM6 rfl))
theorem mnj_counted_108 {fu : Nat} (rc : RC) (ihN : mNI rc) {F0 : PF} (x1 : Int32) (x2 : Int32) (x3 : Int32) (F : PF) (G : PG) (hM : M7 F0 F) : PP (mb_counted_108 fu rc x1 x2 x3 F G) (fun _ F' _ => M7 F0 F') := by
  unfold mb_counted_108
  refine PP.bind (mw_sign (29 : Int32) F G) ?_
  intro r1 F1 G1 hM1
  dsimp only
  unfold mb_counted_114
  refine PP.ite (fun c_2 => ?_) (fun c_2 => ?_)
  · skip
    unfold mb_counted_117
    refine PP.ret ?_
    exact (M7.tr hM (M7.kx hM1 rfl))
  · skip
    unfold mb_counted_119
    refine PP.bind (mw_step (12 : Int32) (0 : Int32) (0 : Int32) F1 G1) ?_
    intro r3 F3 G3 hM3
    dsimp only
    unfold mb_counted_127
    refine PP.bind (mw_isSign (23 : Int32) F3 G3) ?_
    intro r4 F4 G4 hM4
    dsimp only
    unfold mb_counted_141
    refine PP.ite (fun c_5 => ?_) (fun c_5 => ?_)
    · skip
      unfold mb_counted_144
      refine PP.bind (mn_simple F4 G4) ?_
      intro r6 F6 G6 hM6
      dsimp only
      unfold mb_counted_148
      refine PP.ite (fun c_7 => ?_) (fun c_7 => ?_)
      · skip
        unfold mb_counted_151
        refine PP.ret ?_
        exact (M7.tr (M7.tr (M7.tr (M7.tr hM (M7.kx hM1 rfl)) (M7.kx hM3 rfl)) (M7.kx hM4 rfl)) hM6)
      · skip
        exact mnj_counted_153 rc ihN x1 x2 x3 r3 (F3 60) F6 G6 (M7.tr (M7.tr (M7.tr (M7.tr hM (M7.kx hM1 rfl)) (M7.kx hM3 rfl)) (M7.kx hM4 rfl)) hM6)
    · skip
      exact mnj_counted_153 rc ihN x1 x2 x3 r3 (F3 60) F4 G4 (M7.tr (M7.tr (M7.tr hM (M7.kx hM1 rfl)) (M7.kx hM3 rfl)) (M7.kx hM4 rfl))
theorem mnj_counted_63 {fu : Nat} (rc : RC) (ihN : mNI rc) {F0 : PF} (x1 : Int32) (F : PF) (G : PG) (hM : M7 F0 F) : PP (mb_counted_63 fu rc x1 F G) (fun _ F' _ => M7 F0 F') := by
  unfold mb_counted_63
  refine PP.bind (mw_sign (29 : Int32) F G) ?_
  intro r1 F1 G1 hM1
  dsimp only
  unfold mb_counted_69
  refine PP.ite (fun c_2 => ?_) (fun c_2 => ?_)
  · skip
    unfold mb_counted_72
    refine PP.ret ?_
    exact (M7.tr hM (M7.kx hM1 rfl))
  · skip
    unfold mb_counted_74
    refine PP.bind (mw_isSign (29 : Int32) F1 G1) ?_
    intro r3 F3 G3 hM3
    dsimp only
    unfold mb_counted_87
    refine PP.ite (fun c_4 => ?_) (fun c_4 => ?_)
    · skip
      unfold mb_counted_90
      refine PP.bind (mn_expression F3 G3) ?_
      intro r5 F5 G5 hM5
      dsimp only
      unfold mb_counted_94
      refine PP.ite (fun c_6 => ?_) (fun c_6 => ?_)
      · skip
        unfold mb_counted_97
        refine PP.ret ?_
        exact (M7.tr (M7.tr (M7.tr hM (M7.kx hM1 rfl)) (M7.kx hM3 rfl)) hM5)
      · skip
        unfold mb_counted_99
        refine PP.bind (mw_step (13 : Int32) (0 : Int32) (0 : Int32) F5 G5) ?_
        intro r7 F7 G7 hM7
        dsimp only
        unfold mb_counted_107
        exact mnj_counted_108 rc ihN x1 (F1 60) r7 F7 G7 (M7.tr (M7.tr (M7.tr (M7.tr hM (M7.kx hM1 rfl)) (M7.kx hM3 rfl)) hM5) (M7.kx hM7 rfl))
    · skip
      exact mnj_counted_108 rc ihN x1 (F1 60) (-1 : Int32) F3 G3 (M7.tr (M7.tr hM (M7.kx hM1 rfl)) (M7.kx hM3 rfl))
theorem mnj_counted_56 {fu : Nat} (rc : RC) (ihN : mNI rc) {F0 : PF} (x1 : Int32) (z0 : Int32) (F : PF) (G : PG) (hM : M7 F0 F) : PP (mb_counted_56 fu rc x1 z0 F G) (fun _ F' _ => M7 F0 F') := by
  unfold mb_counted_56
  refine PP.ite (fun c_1 => ?_) (fun c_1 => ?_)
  · skip
    unfold mb_counted_61
    refine PP.ret ?_
    exact hM
  · skip
    exact mnj_counted_63 rc ihN x1 F G hM
theorem mnt_counted {fu : Nat} (rc : RC) (ihN : mNI rc) (F : PF) (G : PG) : PP (mh_counted fu rc F G) (fun _ F' _ => M7 F F') := by
  unfold mh_counted
  unfold mb_counted_0
  refine PP.bind (mw_opens F G) ?_
  intro r1 F1 G1 hM1
  dsimp only
  unfold mb_counted_4
  refine PP.ite (fun c_2 => ?_) (fun c_2 => ?_)
  · skip
    exact mnj_counted_16 rc ihN F1 G1 (M7.tr M7.rf (M7.kx hM1 rfl))
  · skip
    unfold mb_counted_7
    refine PP.bind (mw_openSign (22 : Int32) F1 G1) ?_
    intro r3 F3 G3 hM3
    dsimp only
    unfold mb_counted_13
    refine PP.ite (fun c_4 => ?_) (fun c_4 => ?_)
    · skip
      exact mnj_counted_16 rc ihN F3 G3 (M7.tr (M7.tr M7.rf (M7.kx hM1 rfl)) (M7.kx hM3 rfl))
    · skip
      unfold mb_counted_18
      refine PP.bind (mw_begins F3 G3) ?_
      intro r5 F5 G5 hM5
      dsimp only
      unfold mb_counted_27
      refine PP.bind (mw_isSign (29 : Int32) F5 G5) ?_
      intro r6 F6 G6 hM6
      dsimp only
      unfold mb_counted_33
      refine PP.ite (fun c_7 => ?_) (fun c_7 => ?_)
      · skip
        unfold mb_counted_36
        refine PP.bind (mw_isWord (0 : Int32) F6 G6) ?_
        intro r8 F8 G8 hM8
        dsimp only
        unfold mb_counted_41
        refine PP.ite (fun c_9 => ?_) (fun c_9 => ?_)
        · skip
          unfold mb_counted_52
          refine PP.bind (mn_simple F8 G8) ?_
          intro r10 F10 G10 hM10
          dsimp only
          exact mnj_counted_56 rc ihN (F3 15) r10 F10 G10 (M7.tr (M7.tr (M7.tr (M7.tr (M7.tr (M7.tr M7.rf (M7.kx hM1 rfl)) (M7.kx hM3 rfl)) (M7.kx hM5 rfl)) (M7.kx hM6 rfl)) (M7.kx hM8 rfl)) hM10)
        · skip
          unfold mb_counted_44
          refine PP.bind (mn_tellHere (0 : Int32) F8 G8) ?_
          intro r11 F11 G11 hM11
          dsimp only
          unfold mb_counted_49
          exact mnj_counted_56 rc ihN (F3 15) r11 F11 G11 (M7.tr (M7.tr (M7.tr (M7.tr (M7.tr (M7.tr M7.rf (M7.kx hM1 rfl)) (M7.kx hM3 rfl)) (M7.kx hM5 rfl)) (M7.kx hM6 rfl)) (M7.kx hM8 rfl)) hM11)
      · skip
        exact mnj_counted_63 rc ihN (F3 15) F6 G6 (M7.tr (M7.tr (M7.tr (M7.tr M7.rf (M7.kx hM1 rfl)) (M7.kx hM3 rfl)) (M7.kx hM5 rfl)) (M7.kx hM6 rfl))
theorem mnj_loop_19 {fu : Nat} (rc : RC) (ihN : mNI rc) {F0 : PF} (F : PF) (G : PG) (hM : M7 F0 F) : PP (mb_loop_19 fu rc F G) (fun _ F' _ => M7 F0 F') := by
  unfold mb_loop_19
  refine PP.ret ?_
  exact hM
theorem mnt_loop {fu : Nat} (rc : RC) (ihN : mNI rc) (F : PF) (G : PG) : PP (mh_loop fu rc F G) (fun _ F' _ => M7 F F') := by
  unfold mh_loop
  unfold mb_loop_0
  refine PP.bind (mw_opens F G) ?_
  intro r1 F1 G1 hM1
  dsimp only
  unfold mb_loop_9
  refine PP.ite (fun c_2 => ?_) (fun c_2 => ?_)
  · skip
    exact mnj_loop_19 rc ihN F1 G1 (M7.tr M7.rf (M7.kx hM1 rfl))
  · skip
    unfold mb_loop_12
    refine PP.bind (mn_condition F1 G1) ?_
    intro r3 F3 G3 hM3
    dsimp only
    unfold mb_loop_16
    refine PP.ite (fun c_4 => ?_) (fun c_4 => ?_)
    · skip
      exact mnj_loop_19 rc ihN F3 G3 (M7.tr (M7.tr M7.rf (M7.kx hM1 rfl)) hM3)
    · skip
      unfold mb_loop_21
      refine PP.bind (mw_step (13 : Int32) (0 : Int32) (0 : Int32) F3 G3) ?_
      intro r5 F5 G5 hM5
      dsimp only
      unfold mb_loop_29
      refine PP.bind (ihN 1 (F 60) 0 F5 G5) ?_
      intro r6 F6 G6 hM6
      dsimp only
      unfold mb_loop_35
      refine PP.ite (fun c_7 => ?_) (fun c_7 => ?_)
      · skip
        unfold mb_loop_38
        refine PP.ret ?_
        exact (M7.tr (M7.tr (M7.tr (M7.tr M7.rf (M7.kx hM1 rfl)) hM3) (M7.kx hM5 rfl)) hM6)
      · skip
        unfold mb_loop_40
        refine PP.bind (mw_step (12 : Int32) (F 60) (0 : Int32) F6 G6) ?_
        intro r8 F8 G8 hM8
        dsimp only
        unfold mb_loop_53
        refine PP.ix (fun _ => ?_)
        unfold mb_loop_64
        refine PP.bind (mw_settle (F6 65) (F8 60) F8 (gup G8 57 r5.toNatClampNeg (F8 60))) ?_
        intro r9 F9 G9 hM9
        dsimp only
        unfold mb_loop_73
        unfold mb_loop_83
        refine PP.ret ?_
        exact (M7.f (k := 43) (by decide) (M7.tr (M7.tr (M7.tr (M7.tr (M7.tr (M7.tr M7.rf (M7.kx hM1 rfl)) hM3) (M7.kx hM5 rfl)) hM6) (M7.kx hM8 rfl)) (M7.kx hM9 rfl)))
theorem mnt_scoped {fu : Nat} (rc : RC) (ihN : mNI rc) (F : PF) (G : PG) : PP (mh_scoped fu rc F G) (fun _ F' _ => M7 F F') := by
  unfold mh_scoped
  unfold mb_scoped_0
  refine PP.bind (mw_begins F G) ?_
  intro r1 F1 G1 hM1
  dsimp only
  unfold mb_scoped_9
  refine PP.bind (ihN 6 0 0 F1 G1) ?_
  intro r2 F2 G2 hM2
  dsimp only
  unfold mb_scoped_13
  refine PP.bind (mw_ends (F 15) F2 G2) ?_
  intro r3 F3 G3 hM3
  dsimp only
  unfold mb_scoped_19
  refine PP.bz (fun _ => ?_)
  refine PP.ret ?_
  exact (M7.tr (M7.tr (M7.tr M7.rf (M7.kx hM1 rfl)) hM2) (M7.kx hM3 rfl))
theorem mnj_statement_80 {fu : Nat} (rc : RC) (ihN : mNI rc) {F0 : PF} (z0 : Int32) (F : PF) (G : PG) (hM : M7 F0 F) : PP (mb_statement_80 fu rc z0 F G) (fun _ F' _ => M7 F0 F') := by
  unfold mb_statement_80
  refine PP.bz (fun _ => ?_)
  refine PP.ret ?_
  exact hM
theorem mnj_statement_79 {fu : Nat} (rc : RC) (ihN : mNI rc) {F0 : PF} (F : PF) (G : PG) (hM : M7 F0 F) : PP (mb_statement_79 fu rc F G) (fun _ F' _ => M7 F0 F') := by
  unfold mb_statement_79
  exact mnj_statement_80 rc ihN (0 : Int32) F G hM
theorem mnj_statement_206 {fu : Nat} (rc : RC) (ihN : mNI rc) {F0 : PF} (z0 : Int32) (F : PF) (G : PG) (hM : M7 F0 F) : PP (mb_statement_206 fu rc z0 F G) (fun _ F' _ => M7 F0 F') := by
  unfold mb_statement_206
  refine PP.bz (fun _ => ?_)
  refine PP.ret ?_
  exact hM
theorem mnj_statement_205 {fu : Nat} (rc : RC) (ihN : mNI rc) {F0 : PF} (F : PF) (G : PG) (hM : M7 F0 F) : PP (mb_statement_205 fu rc F G) (fun _ F' _ => M7 F0 F') := by
  unfold mb_statement_205
  exact mnj_statement_206 rc ihN (0 : Int32) F G hM
theorem mnj_statement_289 {fu : Nat} (rc : RC) (ihN : mNI rc) {F0 : PF} (F : PF) (G : PG) (hM : M7 F0 F) : PP (mb_statement_289 fu rc F G) (fun _ F' _ => M7 F0 F') := by
  unfold mb_statement_289
  refine PP.ret ?_
  exact hM
theorem mnj_statement_253 {fu : Nat} (rc : RC) (ihN : mNI rc) {F0 : PF} (z0 : Int32) (F : PF) (G : PG) (hM : M7 F0 F) : PP (mb_statement_253 fu rc z0 F G) (fun _ F' _ => M7 F0 F') := by
  unfold mb_statement_253
  unfold mb_statement_264
  refine PP.bind (mw_openSign (22 : Int32) (fup F 42 ((F 42) + (1 : Int32))) G) ?_
  intro r1 F1 G1 hM1
  dsimp only
  unfold mb_statement_270
  refine PP.ite (fun c_2 => ?_) (fun c_2 => ?_)
  · skip
    exact mnj_statement_289 rc ihN F1 G1 (M7.tr (M7.f (k := 42) (by decide) hM) (M7.kx hM1 rfl))
  · skip
    unfold mb_statement_273
    refine PP.bind (mn_expression F1 G1) ?_
    intro r3 F3 G3 hM3
    dsimp only
    unfold mb_statement_277
    refine PP.ite (fun c_4 => ?_) (fun c_4 => ?_)
    · skip
      exact mnj_statement_289 rc ihN F3 G3 (M7.tr (M7.tr (M7.f (k := 42) (by decide) hM) (M7.kx hM1 rfl)) hM3)
    · skip
      unfold mb_statement_280
      refine PP.bind (mw_closeSign (23 : Int32) F3 G3) ?_
      intro r5 F5 G5 hM5
      dsimp only
      unfold mb_statement_286
      refine PP.ite (fun c_6 => ?_) (fun c_6 => ?_)
      · skip
        exact mnj_statement_289 rc ihN F5 G5 (M7.tr (M7.tr (M7.tr (M7.f (k := 42) (by decide) hM) (M7.kx hM1 rfl)) hM3) (M7.kx hM5 rfl))
      · skip
        unfold mb_statement_291
        refine PP.bind (mw_step z0 (0 : Int32) (0 : Int32) F5 G5) ?_
        intro r7 F7 G7 hM7
        dsimp only
        unfold mb_statement_298
        refine PP.bind (mw_sign (29 : Int32) F7 G7) ?_
        intro r8 F8 G8 hM8
        dsimp only
        unfold mb_statement_305
        refine PP.bz (fun _ => ?_)
        refine PP.ret ?_
        exact (M7.tr (M7.tr (M7.tr (M7.tr (M7.tr (M7.f (k := 42) (by decide) hM) (M7.kx hM1 rfl)) hM3) (M7.kx hM5 rfl)) (M7.kx hM7 rfl)) (M7.kx hM8 rfl))
theorem mnt_statement {fu : Nat} (rc : RC) (ihN : mNI rc) (F : PF) (G : PG) : PP (mh_statement fu rc F G) (fun _ F' _ => M7 F F') := by
  unfold mh_statement
  unfold mb_statement_0
  refine PP.bind (mw_isSign (26 : Int32) F G) ?_
  intro r1 F1 G1 hM1
  dsimp only
  unfold mb_statement_6
  refine PP.ite (fun c_2 => ?_) (fun c_2 => ?_)
  · skip
    unfold mb_statement_30
    refine PP.bind (mw_isSign (29 : Int32) F1 G1) ?_
    intro r3 F3 G3 hM3
    dsimp only
    unfold mb_statement_36
    refine PP.ite (fun c_4 => ?_) (fun c_4 => ?_)
    · skip
      unfold mb_statement_46
      refine PP.ix (fun _ => ?_)
      refine PP.ite (fun c_5 => ?_) (fun c_5 => ?_)
      · skip
        unfold mb_statement_59
        refine PP.bind (mn_simple F3 G3) ?_
        intro r6 F6 G6 hM6
        dsimp only
        unfold mb_statement_63
        refine PP.ite (fun c_7 => ?_) (fun c_7 => ?_)
        · skip
          exact mnj_statement_79 rc ihN F6 G6 (M7.tr (M7.tr (M7.tr M7.rf (M7.kx hM1 rfl)) (M7.kx hM3 rfl)) hM6)
        · skip
          unfold mb_statement_66
          refine PP.bind (mw_sign (29 : Int32) F6 G6) ?_
          intro r8 F8 G8 hM8
          dsimp only
          unfold mb_statement_72
          refine PP.ite (fun c_9 => ?_) (fun c_9 => ?_)
          · skip
            exact mnj_statement_79 rc ihN F8 G8 (M7.tr (M7.tr (M7.tr (M7.tr M7.rf (M7.kx hM1 rfl)) (M7.kx hM3 rfl)) hM6) (M7.kx hM8 rfl))
          · skip
            unfold mb_statement_75
            exact mnj_statement_80 rc ihN (1 : Int32) F8 G8 (M7.tr (M7.tr (M7.tr (M7.tr M7.rf (M7.kx hM1 rfl)) (M7.kx hM3 rfl)) hM6) (M7.kx hM8 rfl))
      · skip
        unfold mb_statement_81
        refine PP.ix (fun _ => ?_)
        refine PP.ite (fun c_10 => ?_) (fun c_10 => ?_)
        · skip
          unfold mb_statement_100
          refine PP.ix (fun _ => ?_)
          refine PP.ite (fun c_11 => ?_) (fun c_11 => ?_)
          · have e_12 : (G3 5 (F3 42).toNatClampNeg).toInt < 0 ∨ 14 < (G3 5 (F3 42).toNatClampNeg).toInt := c_11
            unfold mb_statement_306
            refine PP.bind (mw_fails (2 : Int32) F3 G3) ?_
            intro r13 F13 G13 hM13
            dsimp only
            unfold mb_statement_311
            refine PP.bz (fun _ => ?_)
            refine PP.ret ?_
            exact (M7.tr (M7.tr (M7.tr M7.rf (M7.kx hM1 rfl)) (M7.kx hM3 rfl)) (M7.kx hM13 rfl))
          have e_14 : ¬ ((G3 5 (F3 42).toNatClampNeg).toInt < 0 ∨ 14 < (G3 5 (F3 42).toNatClampNeg).toInt) := c_11
          refine PP.ite (fun c_15 => ?_) (fun c_15 => ?_)
          · skip
            unfold mb_statement_184
            refine PP.bind (mn_tellHere (1 : Int32) F3 G3) ?_
            intro r16 F16 G16 hM16
            dsimp only
            unfold mb_statement_189
            refine PP.ite (fun c_17 => ?_) (fun c_17 => ?_)
            · skip
              exact mnj_statement_205 rc ihN F16 G16 (M7.tr (M7.tr (M7.tr M7.rf (M7.kx hM1 rfl)) (M7.kx hM3 rfl)) hM16)
            · skip
              unfold mb_statement_192
              refine PP.bind (mw_sign (29 : Int32) F16 G16) ?_
              intro r18 F18 G18 hM18
              dsimp only
              unfold mb_statement_198
              refine PP.ite (fun c_19 => ?_) (fun c_19 => ?_)
              · skip
                exact mnj_statement_205 rc ihN F18 G18 (M7.tr (M7.tr (M7.tr (M7.tr M7.rf (M7.kx hM1 rfl)) (M7.kx hM3 rfl)) hM16) (M7.kx hM18 rfl))
              · skip
                unfold mb_statement_201
                exact mnj_statement_206 rc ihN (1 : Int32) F18 G18 (M7.tr (M7.tr (M7.tr (M7.tr M7.rf (M7.kx hM1 rfl)) (M7.kx hM3 rfl)) hM16) (M7.kx hM18 rfl))
          refine PP.ite (fun c_20 => ?_) (fun c_20 => ?_)
          · skip
            unfold mb_statement_184
            refine PP.bind (mn_tellHere (1 : Int32) F3 G3) ?_
            intro r21 F21 G21 hM21
            dsimp only
            unfold mb_statement_189
            refine PP.ite (fun c_22 => ?_) (fun c_22 => ?_)
            · skip
              exact mnj_statement_205 rc ihN F21 G21 (M7.tr (M7.tr (M7.tr M7.rf (M7.kx hM1 rfl)) (M7.kx hM3 rfl)) hM21)
            · skip
              unfold mb_statement_192
              refine PP.bind (mw_sign (29 : Int32) F21 G21) ?_
              intro r23 F23 G23 hM23
              dsimp only
              unfold mb_statement_198
              refine PP.ite (fun c_24 => ?_) (fun c_24 => ?_)
              · skip
                exact mnj_statement_205 rc ihN F23 G23 (M7.tr (M7.tr (M7.tr (M7.tr M7.rf (M7.kx hM1 rfl)) (M7.kx hM3 rfl)) hM21) (M7.kx hM23 rfl))
              · skip
                unfold mb_statement_201
                exact mnj_statement_206 rc ihN (1 : Int32) F23 G23 (M7.tr (M7.tr (M7.tr (M7.tr M7.rf (M7.kx hM1 rfl)) (M7.kx hM3 rfl)) hM21) (M7.kx hM23 rfl))
          refine PP.ite (fun c_25 => ?_) (fun c_25 => ?_)
          · skip
            unfold mb_statement_306
            refine PP.bind (mw_fails (2 : Int32) F3 G3) ?_
            intro r26 F26 G26 hM26
            dsimp only
            unfold mb_statement_311
            refine PP.bz (fun _ => ?_)
            refine PP.ret ?_
            exact (M7.tr (M7.tr (M7.tr M7.rf (M7.kx hM1 rfl)) (M7.kx hM3 rfl)) (M7.kx hM26 rfl))
          refine PP.ite (fun c_27 => ?_) (fun c_27 => ?_)
          · skip
            unfold mb_statement_306
            refine PP.bind (mw_fails (2 : Int32) F3 G3) ?_
            intro r28 F28 G28 hM28
            dsimp only
            unfold mb_statement_311
            refine PP.bz (fun _ => ?_)
            refine PP.ret ?_
            exact (M7.tr (M7.tr (M7.tr M7.rf (M7.kx hM1 rfl)) (M7.kx hM3 rfl)) (M7.kx hM28 rfl))
          refine PP.ite (fun c_29 => ?_) (fun c_29 => ?_)
          · skip
            unfold mb_statement_207
            refine PP.bind (ihN 2 0 0 F3 G3) ?_
            intro r30 F30 G30 hM30
            dsimp only
            unfold mb_statement_211
            refine PP.bz (fun _ => ?_)
            refine PP.ret ?_
            exact (M7.tr (M7.tr (M7.tr M7.rf (M7.kx hM1 rfl)) (M7.kx hM3 rfl)) hM30)
          refine PP.ite (fun c_31 => ?_) (fun c_31 => ?_)
          · skip
            unfold mb_statement_306
            refine PP.bind (mw_fails (2 : Int32) F3 G3) ?_
            intro r32 F32 G32 hM32
            dsimp only
            unfold mb_statement_311
            refine PP.bz (fun _ => ?_)
            refine PP.ret ?_
            exact (M7.tr (M7.tr (M7.tr M7.rf (M7.kx hM1 rfl)) (M7.kx hM3 rfl)) (M7.kx hM32 rfl))
          refine PP.ite (fun c_33 => ?_) (fun c_33 => ?_)
          · skip
            unfold mb_statement_212
            refine PP.bind (ihN 4 0 0 F3 G3) ?_
            intro r34 F34 G34 hM34
            dsimp only
            unfold mb_statement_216
            refine PP.bz (fun _ => ?_)
            refine PP.ret ?_
            exact (M7.tr (M7.tr (M7.tr M7.rf (M7.kx hM1 rfl)) (M7.kx hM3 rfl)) hM34)
          refine PP.ite (fun c_35 => ?_) (fun c_35 => ?_)
          · skip
            unfold mb_statement_217
            refine PP.bind (ihN 7 0 0 F3 G3) ?_
            intro r36 F36 G36 hM36
            dsimp only
            unfold mb_statement_221
            refine PP.bz (fun _ => ?_)
            refine PP.ret ?_
            exact (M7.tr (M7.tr (M7.tr M7.rf (M7.kx hM1 rfl)) (M7.kx hM3 rfl)) hM36)
          refine PP.ite (fun c_37 => ?_) (fun c_37 => ?_)
          · skip
            unfold mb_statement_222
            refine PP.bind (ihN 3 0 0 F3 G3) ?_
            intro r38 F38 G38 hM38
            dsimp only
            unfold mb_statement_226
            refine PP.bz (fun _ => ?_)
            refine PP.ret ?_
            exact (M7.tr (M7.tr (M7.tr M7.rf (M7.kx hM1 rfl)) (M7.kx hM3 rfl)) hM38)
          refine PP.ite (fun c_39 => ?_) (fun c_39 => ?_)
          · skip
            unfold mb_statement_227
            refine PP.bind (mn_leaves F3 G3) ?_
            intro r40 F40 G40 hM40
            dsimp only
            unfold mb_statement_231
            refine PP.bz (fun _ => ?_)
            refine PP.ret ?_
            exact (M7.tr (M7.tr (M7.tr M7.rf (M7.kx hM1 rfl)) (M7.kx hM3 rfl)) hM40)
          refine PP.ite (fun c_41 => ?_) (fun c_41 => ?_)
          · skip
            unfold mb_statement_227
            refine PP.bind (mn_leaves F3 G3) ?_
            intro r42 F42 G42 hM42
            dsimp only
            unfold mb_statement_231
            refine PP.bz (fun _ => ?_)
            refine PP.ret ?_
            exact (M7.tr (M7.tr (M7.tr M7.rf (M7.kx hM1 rfl)) (M7.kx hM3 rfl)) hM42)
          refine PP.ite (fun c_43 => ?_) (fun c_43 => ?_)
          · skip
            unfold mb_statement_232
            refine PP.bind (mn_returns F3 G3) ?_
            intro r44 F44 G44 hM44
            dsimp only
            unfold mb_statement_236
            refine PP.bz (fun _ => ?_)
            refine PP.ret ?_
            exact (M7.tr (M7.tr (M7.tr M7.rf (M7.kx hM1 rfl)) (M7.kx hM3 rfl)) hM44)
          refine PP.ite (fun c_45 => ?_) (fun c_45 => ?_)
          · skip
            unfold mb_statement_237
            refine PP.bind (mw_isWord (12 : Int32) F3 G3) ?_
            intro r46 F46 G46 hM46
            dsimp only
            unfold mb_statement_243
            refine PP.ite (fun c_47 => ?_) (fun c_47 => ?_)
            · skip
              unfold mb_statement_251
              exact mnj_statement_253 rc ihN (20 : Int32) F46 G46 (M7.tr (M7.tr (M7.tr M7.rf (M7.kx hM1 rfl)) (M7.kx hM3 rfl)) (M7.kx hM46 rfl))
            · skip
              unfold mb_statement_246
              exact mnj_statement_253 rc ihN (19 : Int32) F46 G46 (M7.tr (M7.tr (M7.tr M7.rf (M7.kx hM1 rfl)) (M7.kx hM3 rfl)) (M7.kx hM46 rfl))
          refine PP.ite (fun c_48 => ?_) (fun c_48 => ?_)
          · skip
            unfold mb_statement_306
            refine PP.bind (mw_fails (2 : Int32) F3 G3) ?_
            intro r49 F49 G49 hM49
            dsimp only
            unfold mb_statement_311
            refine PP.bz (fun _ => ?_)
            refine PP.ret ?_
            exact (M7.tr (M7.tr (M7.tr M7.rf (M7.kx hM1 rfl)) (M7.kx hM3 rfl)) (M7.kx hM49 rfl))
          unfold mb_statement_237
          refine PP.bind (mw_isWord (12 : Int32) F3 G3) ?_
          intro r50 F50 G50 hM50
          dsimp only
          unfold mb_statement_243
          refine PP.ite (fun c_51 => ?_) (fun c_51 => ?_)
          · skip
            unfold mb_statement_251
            exact mnj_statement_253 rc ihN (20 : Int32) F50 G50 (M7.tr (M7.tr (M7.tr M7.rf (M7.kx hM1 rfl)) (M7.kx hM3 rfl)) (M7.kx hM50 rfl))
          · skip
            unfold mb_statement_246
            exact mnj_statement_253 rc ihN (19 : Int32) F50 G50 (M7.tr (M7.tr (M7.tr M7.rf (M7.kx hM1 rfl)) (M7.kx hM3 rfl)) (M7.kx hM50 rfl))
        · skip
          unfold mb_statement_94
          refine PP.bind (mw_fails (2 : Int32) F3 G3) ?_
          intro r52 F52 G52 hM52
          dsimp only
          unfold mb_statement_99
          refine PP.bz (fun _ => ?_)
          refine PP.ret ?_
          exact (M7.tr (M7.tr (M7.tr M7.rf (M7.kx hM1 rfl)) (M7.kx hM3 rfl)) (M7.kx hM52 rfl))
    · skip
      unfold mb_statement_39
      refine PP.bind (mw_sign (29 : Int32) F3 G3) ?_
      intro r53 F53 G53 hM53
      dsimp only
      unfold mb_statement_45
      refine PP.bz (fun _ => ?_)
      refine PP.ret ?_
      exact (M7.tr (M7.tr (M7.tr M7.rf (M7.kx hM1 rfl)) (M7.kx hM3 rfl)) (M7.kx hM53 rfl))
  · skip
    unfold mb_statement_9
    refine PP.bind (mw_begins F1 G1) ?_
    intro r54 F54 G54 hM54
    dsimp only
    unfold mb_statement_18
    refine PP.bind (ihN 0 0 0 F54 G54) ?_
    intro r55 F55 G55 hM55
    dsimp only
    unfold mb_statement_22
    refine PP.bind (mw_ends (F1 15) F55 G55) ?_
    intro r56 F56 G56 hM56
    dsimp only
    unfold mb_statement_28
    refine PP.bz (fun _ => ?_)
    refine PP.ret ?_
    exact (M7.tr (M7.tr (M7.tr (M7.tr M7.rf (M7.kx hM1 rfl)) (M7.kx hM54 rfl)) hM55) (M7.kx hM56 rfl))
theorem mnj_turnLoop_20 {fu : Nat} (rc : RC) (ihN : mNI rc) {F0 : PF} (F : PF) (G : PG) (hM : M7 F0 F) : PP (mb_turnLoop_20 fu rc F G) (fun _ F' _ => M7 F0 F') := by
  unfold mb_turnLoop_20
  refine PP.ret ?_
  exact hM
theorem mnj_turnLoop_58 {fu : Nat} (rc : RC) (ihN : mNI rc) {F0 : PF} (F : PF) (G : PG) (hM : M7 F0 F) : PP (mb_turnLoop_58 fu rc F G) (fun _ F' _ => M7 F0 F') := by
  unfold mb_turnLoop_58
  refine PP.ret ?_
  exact hM
theorem mnt_turnLoop {fu : Nat} (rc : RC) (ihN : mNI rc) (F : PF) (G : PG) : PP (mh_turnLoop fu rc F G) (fun _ F' _ => M7 F F') := by
  unfold mh_turnLoop
  unfold mb_turnLoop_0
  refine PP.bind (mw_opens F G) ?_
  intro r1 F1 G1 hM1
  dsimp only
  unfold mb_turnLoop_9
  refine PP.ite (fun c_2 => ?_) (fun c_2 => ?_)
  · skip
    exact mnj_turnLoop_20 rc ihN F1 G1 (M7.tr M7.rf (M7.kx hM1 rfl))
  · skip
    unfold mb_turnLoop_12
    refine PP.bind (ihN 1 (-1 : Int32) 0 F1 G1) ?_
    intro r3 F3 G3 hM3
    dsimp only
    unfold mb_turnLoop_17
    refine PP.ite (fun c_4 => ?_) (fun c_4 => ?_)
    · skip
      exact mnj_turnLoop_20 rc ihN F3 G3 (M7.tr (M7.tr M7.rf (M7.kx hM1 rfl)) hM3)
    · skip
      unfold mb_turnLoop_22
      refine PP.bind (mw_settle (F3 66) (F3 60) F3 G3) ?_
      intro r5 F5 G5 hM5
      dsimp only
      unfold mb_turnLoop_41
      refine PP.bind (mw_word (6 : Int32) (1 : Int32) F5 G5) ?_
      intro r6 F6 G6 hM6
      dsimp only
      unfold mb_turnLoop_48
      refine PP.ite (fun c_7 => ?_) (fun c_7 => ?_)
      · skip
        exact mnj_turnLoop_58 rc ihN F6 G6 (M7.tr (M7.tr (M7.tr (M7.tr M7.rf (M7.kx hM1 rfl)) hM3) (M7.kx hM5 rfl)) (M7.kx hM6 rfl))
      · skip
        unfold mb_turnLoop_51
        refine PP.bind (mn_condition F6 G6) ?_
        intro r8 F8 G8 hM8
        dsimp only
        unfold mb_turnLoop_55
        refine PP.ite (fun c_9 => ?_) (fun c_9 => ?_)
        · skip
          exact mnj_turnLoop_58 rc ihN F8 G8 (M7.tr (M7.tr (M7.tr (M7.tr (M7.tr M7.rf (M7.kx hM1 rfl)) hM3) (M7.kx hM5 rfl)) (M7.kx hM6 rfl)) hM8)
        · skip
          unfold mb_turnLoop_60
          refine PP.bind (mw_step (14 : Int32) (F 60) (0 : Int32) F8 G8) ?_
          intro r10 F10 G10 hM10
          dsimp only
          unfold mb_turnLoop_68
          refine PP.bind (mw_settle (F3 65) (F10 60) F10 G10) ?_
          intro r11 F11 G11 hM11
          dsimp only
          unfold mb_turnLoop_78
          unfold mb_turnLoop_88
          refine PP.bind (mw_sign (29 : Int32) (fup F11 43 ((F11 43) - (1 : Int32))) G11) ?_
          intro r12 F12 G12 hM12
          dsimp only
          unfold mb_turnLoop_94
          refine PP.bz (fun _ => ?_)
          refine PP.ret ?_
          exact (M7.tr (M7.f (k := 43) (by decide) (M7.tr (M7.tr (M7.tr (M7.tr (M7.tr (M7.tr (M7.tr M7.rf (M7.kx hM1 rfl)) hM3) (M7.kx hM5 rfl)) (M7.kx hM6 rfl)) hM8) (M7.kx hM10 rfl)) (M7.kx hM11 rfl))) (M7.kx hM12 rfl))
theorem mnS2 {fu : Nat} : ∀ d : Nat, mNI (mS2 fu d) := by
  intro d
  induction d with
  | zero => exact fun _ _ _ _ _ => PP.no
  | succ d ih =>
    intro i x y F G
    exact PP.ite (fun _ => mnt_block (mS2 fu d) ih F G) (fun _ => PP.ite (fun _ => mnt_body (mS2 fu d) ih x F G) (fun _ => PP.ite (fun _ => mnt_choice (mS2 fu d) ih F G) (fun _ => PP.ite (fun _ => mnt_counted (mS2 fu d) ih F G) (fun _ => PP.ite (fun _ => mnt_loop (mS2 fu d) ih F G) (fun _ => PP.ite (fun _ => mnt_scoped (mS2 fu d) ih F G) (fun _ => PP.ite (fun _ => mnt_statement (mS2 fu d) ih F G) (fun _ => PP.ite (fun _ => mnt_turnLoop (mS2 fu d) ih F G) (fun _ => PP.no))))))))
theorem mn_block {fu : Nat} (F : PF) (G : PG) : PP (mf_block fu F G) (fun _ F' _ => M7 F F') := mnS2 300 0 0 0 F G
theorem mn_body {fu : Nat} (x : Int32) (F : PF) (G : PG) : PP (mf_body fu x F G) (fun _ F' _ => M7 F F') := mnS2 300 1 x 0 F G
theorem mn_choice {fu : Nat} (F : PF) (G : PG) : PP (mf_choice fu F G) (fun _ F' _ => M7 F F') := mnS2 300 2 0 0 F G
theorem mn_counted {fu : Nat} (F : PF) (G : PG) : PP (mf_counted fu F G) (fun _ F' _ => M7 F F') := mnS2 300 3 0 0 F G
theorem mn_loop {fu : Nat} (F : PF) (G : PG) : PP (mf_loop fu F G) (fun _ F' _ => M7 F F') := mnS2 300 4 0 0 F G
theorem mn_scoped {fu : Nat} (F : PF) (G : PG) : PP (mf_scoped fu F G) (fun _ F' _ => M7 F F') := mnS2 300 5 0 0 F G
theorem mn_statement {fu : Nat} (F : PF) (G : PG) : PP (mf_statement fu F G) (fun _ F' _ => M7 F F') := mnS2 300 6 0 0 F G
theorem mn_turnLoop {fu : Nat} (F : PF) (G : PG) : PP (mf_turnLoop fu F G) (fun _ F' _ => M7 F F') := mnS2 300 7 0 0 F G
theorem mnj_function_282 {fu : Nat} {F0 : PF} (x1 : Int32) (x4 : Int32) (x5 : Int32) (F : PF) (G : PG) (hM : M7 F0 F) : PP (mb_function_282 fu x1 x4 x5 F G) (fun _ F' _ => M7 F0 F') := by
  unfold mb_function_282
  refine PP.bind (mw_closeSign (23 : Int32) F G) ?_
  intro r1 F1 G1 hM1
  dsimp only
  unfold mb_function_288
  refine PP.ite (fun c_2 => ?_) (fun c_2 => ?_)
  · skip
    unfold mb_function_291
    refine PP.ret ?_
    exact (M7.tr hM (M7.kx hM1 rfl))
  · skip
    unfold mb_function_293
    refine PP.ix (fun _ => ?_)
    unfold mb_function_301
    refine PP.ix (fun _ => ?_)
    unfold mb_function_311
    refine PP.bind (mw_isSign (26 : Int32) F1 (gup (gup G1 27 x1.toNatClampNeg x5) 30 x1.toNatClampNeg (F1 60))) ?_
    intro r3 F3 G3 hM3
    dsimp only
    unfold mb_function_317
    refine PP.ite (fun c_4 => ?_) (fun c_4 => ?_)
    · skip
      unfold mb_function_320
      refine PP.bind (mw_fails (2 : Int32) F3 G3) ?_
      intro r5 F5 G5 hM5
      dsimp only
      unfold mb_function_325
      refine PP.bz (fun _ => ?_)
      refine PP.ret ?_
      exact (M7.tr (M7.tr (M7.tr hM (M7.kx hM1 rfl)) (M7.kx hM3 rfl)) (M7.kx hM5 rfl))
    · skip
      unfold mb_function_326
      refine PP.bind (mn_block F3 G3) ?_
      intro r6 F6 G6 hM6
      dsimp only
      unfold mb_function_330
      refine PP.ite (fun c_7 => ?_) (fun c_7 => ?_)
      · skip
        unfold mb_function_333
        refine PP.ret ?_
        exact (M7.tr (M7.tr (M7.tr hM (M7.kx hM1 rfl)) (M7.kx hM3 rfl)) hM6)
      · skip
        unfold mb_function_335
        refine PP.bind (mw_step (0 : Int32) (0 : Int32) (0 : Int32) F6 G6) ?_
        intro r8 F8 G8 hM8
        dsimp only
        unfold mb_function_342
        refine PP.bind (mw_step (17 : Int32) (0 : Int32) (0 : Int32) F8 G8) ?_
        intro r9 F9 G9 hM9
        dsimp only
        unfold mb_function_351
        refine PP.ix (fun _ => ?_)
        unfold mb_function_365
        refine PP.ix (fun _ => ?_)
        unfold mb_function_375
        refine PP.bind (mw_ends (0 : Int32) F9 (gup (gup G9 28 x1.toNatClampNeg (x4 + (F9 52))) 29 x1.toNatClampNeg (F9 53))) ?_
        intro r10 F10 G10 hM10
        dsimp only
        unfold mb_function_380
        unfold mb_function_385
        refine PP.ret ?_
        exact (M7.f (k := 50) (by decide) (M7.tr (M7.tr (M7.tr (M7.tr (M7.tr (M7.tr hM (M7.kx hM1 rfl)) (M7.kx hM3 rfl)) hM6) (M7.kx hM8 rfl)) (M7.kx hM9 rfl)) (M7.kx hM10 rfl)))
theorem mnj_function_275 {fu : Nat} {F0 : PF} (ag_177 : Int32 → Int32 → Int32 → Int32 → PF → PG → PR) (hag_177 : ∀ (x1 : Int32) (x4 : Int32) (x5 : Int32) (x6 : Int32) (F : PF) (G : PG) (hM : M7 F0 F), PP (ag_177 x1 x4 x5 x6 F G) (fun _ F' _ => M7 F0 F')) (x1 : Int32) (x4 : Int32) (x5 : Int32) (x6 : Int32) (z0 : Int32) (z1 : Int32) (F : PF) (G : PG) (hM : M7 F0 F) : PP (mb_function_275 fu ag_177 x1 x4 x5 x6 z0 z1 F G) (fun _ F' _ => M7 F0 F') := by
  unfold mb_function_275
  unfold mb_function_279
  exact hag_177 x1 x4 x5 x6 (fup F 42 (z1 + z0)) G (M7.f (k := 42) (by decide) hM)
theorem mnj_function_246 {fu : Nat} {F0 : PF} (ag_177 : Int32 → Int32 → Int32 → Int32 → PF → PG → PR) (hag_177 : ∀ (x1 : Int32) (x4 : Int32) (x5 : Int32) (x6 : Int32) (F : PF) (G : PG) (hM : M7 F0 F), PP (ag_177 x1 x4 x5 x6 F G) (fun _ F' _ => M7 F0 F')) (x1 : Int32) (x5 : Int32) (z0 : Int32) (z1 : Int32) (F : PF) (G : PG) (hM : M7 F0 F) : PP (mb_function_246 fu ag_177 x1 x5 z0 z1 F G) (fun _ F' _ => M7 F0 F') := by
  unfold mb_function_246
  refine PP.bind (mw_isSign (28 : Int32) F G) ?_
  intro r1 F1 G1 hM1
  dsimp only
  unfold mb_function_258
  refine PP.ite (fun c_2 => ?_) (fun c_2 => ?_)
  · skip
    unfold mb_function_274
    exact mnj_function_275 ag_177 hag_177 x1 (z1 + z0) (x5 + (1 : Int32)) r1 (0 : Int32) (F1 42) F1 G1 (M7.tr hM (M7.kx hM1 rfl))
  · skip
    unfold mb_function_270
    exact mnj_function_275 ag_177 hag_177 x1 (z1 + z0) (x5 + (1 : Int32)) r1 (1 : Int32) (F1 42) F1 G1 (M7.tr hM (M7.kx hM1 rfl))
theorem mnj_function_234 {fu : Nat} {F0 : PF} (ag_177 : Int32 → Int32 → Int32 → Int32 → PF → PG → PR) (hag_177 : ∀ (x1 : Int32) (x4 : Int32) (x5 : Int32) (x6 : Int32) (F : PF) (G : PG) (hM : M7 F0 F), PP (ag_177 x1 x4 x5 x6 F G) (fun _ F' _ => M7 F0 F')) (x1 : Int32) (x4 : Int32) (x5 : Int32) (x7 : Int32) (F : PF) (G : PG) (hM : M7 F0 F) : PP (mb_function_234 fu ag_177 x1 x4 x5 x7 F G) (fun _ F' _ => M7 F0 F') := by
  unfold mb_function_234
  refine PP.ite (fun c_1 => ?_) (fun c_1 => ?_)
  · skip
    unfold mb_function_241
    exact mnj_function_246 ag_177 hag_177 x1 x5 (1 : Int32) x4 F G hM
  · skip
    unfold mb_function_245
    exact mnj_function_246 ag_177 hag_177 x1 x5 (2 : Int32) x4 F G hM
theorem mnz_function_177 {fu : Nat} {F0 : PF} : ∀ (n : Nat) (x1 : Int32) (x4 : Int32) (x5 : Int32) (x6 : Int32) (F : PF) (G : PG) (hM : M7 F0 F), PP (ml_function_177 fu n x1 x4 x5 x6 F G) (fun _ F' _ => M7 F0 F') := by
  intro n
  induction n with
  | zero =>
    intro x1 x4 x5 x6 F G hM
    exact PP.no
  | succ n ihn =>
    intro x1 x4 x5 x6 F G hM
    show PP (mb_function_177 fu (ml_function_177 fu n) x1 x4 x5 x6 F G) _
    unfold mb_function_177
    refine PP.ite (fun c_1 => ?_) (fun c_1 => ?_)
    · skip
      exact mnj_function_282 x1 x4 x5 F G hM
    · skip
      unfold mb_function_182
      refine PP.ite (fun c_2 => ?_) (fun c_2 => ?_)
      · skip
        unfold mb_function_189
        refine PP.bind (mn_formalHere x5 F G) ?_
        intro r3 F3 G3 hM3
        dsimp only
        unfold mb_function_195
        refine PP.ite (fun c_4 => ?_) (fun c_4 => ?_)
        · skip
          unfold mb_function_206
          refine PP.ite (fun c_5 => ?_) (fun c_5 => ?_)
          · skip
            unfold mb_function_213
            refine PP.ix (fun _ => ?_)
            unfold mb_function_224
            exact mnj_function_234 (ml_function_177 fu n) ihn x1 x4 x5 r3 (fup F3 35 ((F3 35) + (1 : Int32))) (gup G3 34 (F3 35).toNatClampNeg r3) (M7.f (k := 35) (by decide) (M7.tr hM hM3))
          · skip
            exact mnj_function_234 (ml_function_177 fu n) ihn x1 x4 x5 r3 F3 G3 (M7.tr hM hM3)
        · skip
          unfold mb_function_204
          refine PP.ret ?_
          exact (M7.tr hM hM3)
      · skip
        exact mnj_function_282 x1 x4 x5 F G hM
theorem mnj_function_174 {fu : Nat} {F0 : PF} (x1 : Int32) (x4 : Int32) (x5 : Int32) (F : PF) (G : PG) (hM : M7 F0 F) : PP (mb_function_174 fu x1 x4 x5 F G) (fun _ F' _ => M7 F0 F') := by
  unfold mb_function_174
  exact mnz_function_177 fu x1 x4 x5 (1 : Int32) F G hM
theorem mnj_function_97 {fu : Nat} {F0 : PF} (x1 : Int32) (F : PF) (G : PG) (hM : M7 F0 F) : PP (mb_function_97 fu x1 F G) (fun _ F' _ => M7 F0 F') := by
  unfold mb_function_97
  unfold mb_function_102
  unfold mb_function_107
  unfold mb_function_112
  unfold mb_function_117
  unfold mb_function_122
  unfold mb_function_127
  refine PP.bind (mw_begins (fup (fup (fup (fup (fup (fup F 50 x1) 63 (-1 : Int32)) 64 (-1 : Int32)) 52 (0 : Int32)) 53 (0 : Int32)) 51 (0 : Int32)) G) ?_
  intro r1 F1 G1 hM1
  dsimp only
  unfold mb_function_131
  refine PP.bind (mw_openSign (22 : Int32) F1 G1) ?_
  intro r2 F2 G2 hM2
  dsimp only
  unfold mb_function_137
  refine PP.ite (fun c_3 => ?_) (fun c_3 => ?_)
  · skip
    unfold mb_function_140
    refine PP.ret ?_
    exact (M7.tr (M7.tr (M7.f (k := 51) (by decide) (M7.f (k := 53) (by decide) (M7.f (k := 52) (by decide) (M7.f (k := 64) (by decide) (M7.f (k := 63) (by decide) (M7.f (k := 50) (by decide) hM)))))) (M7.kx hM1 rfl)) (M7.kx hM2 rfl))
  · skip
    unfold mb_function_142
    refine PP.bind (mw_isSign (23 : Int32) F2 G2) ?_
    intro r4 F4 G4 hM4
    dsimp only
    unfold mb_function_154
    refine PP.ite (fun c_5 => ?_) (fun c_5 => ?_)
    · skip
      unfold mb_function_157
      refine PP.ite (fun c_6 => ?_) (fun c_6 => ?_)
      · skip
        unfold mb_function_164
        refine PP.ix (fun _ => ?_)
        exact mnj_function_174 x1 (4 : Int32) (0 : Int32) F4 (gup G4 32 x1.toNatClampNeg (F4 42)) (M7.tr (M7.tr (M7.tr (M7.f (k := 51) (by decide) (M7.f (k := 53) (by decide) (M7.f (k := 52) (by decide) (M7.f (k := 64) (by decide) (M7.f (k := 63) (by decide) (M7.f (k := 50) (by decide) hM)))))) (M7.kx hM1 rfl)) (M7.kx hM2 rfl)) (M7.kx hM4 rfl))
      · skip
        exact mnj_function_174 x1 (4 : Int32) (0 : Int32) F4 G4 (M7.tr (M7.tr (M7.tr (M7.f (k := 51) (by decide) (M7.f (k := 53) (by decide) (M7.f (k := 52) (by decide) (M7.f (k := 64) (by decide) (M7.f (k := 63) (by decide) (M7.f (k := 50) (by decide) hM)))))) (M7.kx hM1 rfl)) (M7.kx hM2 rfl)) (M7.kx hM4 rfl))
    · skip
      exact mnj_function_282 x1 (4 : Int32) (0 : Int32) F4 G4 (M7.tr (M7.tr (M7.tr (M7.f (k := 51) (by decide) (M7.f (k := 53) (by decide) (M7.f (k := 52) (by decide) (M7.f (k := 64) (by decide) (M7.f (k := 63) (by decide) (M7.f (k := 50) (by decide) hM)))))) (M7.kx hM1 rfl)) (M7.kx hM2 rfl)) (M7.kx hM4 rfl))
theorem mnj_function_28 {fu : Nat} {F0 : PF} (x1 : Int32) (x2 : Int32) (x3 : Int32) (F : PF) (G : PG) (hM : M7 F0 F) : PP (mb_function_28 fu x1 x2 x3 F G) (fun _ F' _ => M7 F0 F') := by
  unfold mb_function_28
  refine PP.ite (fun c_1 => ?_) (fun c_1 => ?_)
  · skip
    unfold mb_function_35
    refine PP.ix (fun _ => ?_)
    refine PP.ix (fun _ => ?_)
    unfold mb_function_47
    refine PP.ix (fun _ => ?_)
    refine PP.ix (fun _ => ?_)
    unfold mb_function_59
    refine PP.ix (fun _ => ?_)
    unfold mb_function_66
    refine PP.ix (fun _ => ?_)
    unfold mb_function_76
    refine PP.ix (fun _ => ?_)
    unfold mb_function_83
    refine PP.ix (fun _ => ?_)
    unfold mb_function_90
    exact mnj_function_97 x1 (fup F 24 (x1 + (1 : Int32))) (gup (gup (gup (gup (gup (gup G 25 x1.toNatClampNeg (G 5 x2.toNatClampNeg)) 26 x1.toNatClampNeg (G 6 x2.toNatClampNeg)) 33 x1.toNatClampNeg (vp_nar .boolean x3)) 31 x1.toNatClampNeg (F 35)) 27 x1.toNatClampNeg (0 : Int32)) 32 x1.toNatClampNeg (-1 : Int32)) (M7.f (k := 24) (by decide) hM)
  · skip
    exact mnj_function_97 x1 F G hM
theorem mn_function {fu : Nat} (x1 : Int32) (x2 : Int32) (x3 : Int32) (F : PF) (G : PG) : PP (mf_function fu x1 x2 x3 F G) (fun _ F' _ => M7 F F') := by
  unfold mf_function
  unfold mb_function_0
  unfold mb_function_5
  refine PP.bind (mn_twice x2 (fup F 61 (1 : Int32)) G) ?_
  intro r1 F1 G1 hM1
  dsimp only
  unfold mb_function_10
  refine PP.ite (fun c_2 => ?_) (fun c_2 => ?_)
  · skip
    exact mnj_function_28 x1 x2 x3 F1 G1 (M7.tr (M7.f (k := 61) (by decide) M7.rf) hM1)
  · skip
    unfold mb_function_16
    refine PP.ix (fun _ => ?_)
    refine PP.bind (mm_note (11 : Int32) (G1 6 x2.toNatClampNeg) (by decide) F1 G1) ?_
    intro r3 F3 G3 hM3
    dsimp only
    exact mnj_function_28 x1 x2 x3 F3 G3 (M7.tr (M7.tr (M7.f (k := 61) (by decide) M7.rf) hM1) hM3.1)
theorem mnj_tells_293 {fu : Nat} {F0 : PF} (z0 : Int32) (F : PF) (G : PG) (hM : M7 F0 F) : PP (mb_tells_293 fu z0 F G) (fun _ F' _ => M7 F0 F') := by
  unfold mb_tells_293
  refine PP.bz (fun _ => ?_)
  refine PP.ret ?_
  exact hM
theorem mnj_tells_292 {fu : Nat} {F0 : PF} (F : PF) (G : PG) (hM : M7 F0 F) : PP (mb_tells_292 fu F G) (fun _ F' _ => M7 F0 F') := by
  unfold mb_tells_292
  exact mnj_tells_293 (0 : Int32) F G hM
theorem mnj_tells_269 {fu : Nat} {F0 : PF} (x3 : Int32) (x4 : Int32) (F : PF) (G : PG) (hM : M7 F0 F) : PP (mb_tells_269 fu x3 x4 F G) (fun _ F' _ => M7 F0 F') := by
  unfold mb_tells_269
  refine PP.bind (mn_array x4 x3 F G) ?_
  intro r1 F1 G1 hM1
  dsimp only
  unfold mb_tells_276
  refine PP.ite (fun c_2 => ?_) (fun c_2 => ?_)
  · skip
    exact mnj_tells_292 F1 G1 (M7.tr hM hM1)
  · skip
    unfold mb_tells_279
    refine PP.bind (mw_sign (29 : Int32) F1 G1) ?_
    intro r3 F3 G3 hM3
    dsimp only
    unfold mb_tells_285
    refine PP.ite (fun c_4 => ?_) (fun c_4 => ?_)
    · skip
      exact mnj_tells_292 F3 G3 (M7.tr (M7.tr hM hM1) (M7.kx hM3 rfl))
    · skip
      unfold mb_tells_288
      exact mnj_tells_293 (1 : Int32) F3 G3 (M7.tr (M7.tr hM hM1) (M7.kx hM3 rfl))
theorem mnj_tells_239 {fu : Nat} {F0 : PF} (x4 : Int32) (x5 : Int32) (F : PF) (G : PG) (hM : M7 F0 F) : PP (mb_tells_239 fu x4 x5 F G) (fun _ F' _ => M7 F0 F') := by
  unfold mb_tells_239
  unfold mb_tells_256
  refine PP.ix (fun _ => ?_)
  refine PP.bind (mw_declare x4 (1 : Int32) (0 : Int32) (G 39 (if (2000 : Int32) < x5 then (2000 : Int32) else x5).toNatClampNeg) (1 : Int32) (0 : Int32) F G) ?_
  intro r1 F1 G1 hM1
  dsimp only
  unfold mb_tells_262
  refine PP.bind (mw_sign (29 : Int32) F1 G1) ?_
  intro r2 F2 G2 hM2
  dsimp only
  unfold mb_tells_268
  refine PP.bz (fun _ => ?_)
  refine PP.ret ?_
  exact (M7.tr (M7.tr hM (M7.kx hM1 rfl)) (M7.kx hM2 rfl))
theorem mnj_tells_164 {fu : Nat} {F0 : PF} (x3 : Int32) (x4 : Int32) (F : PF) (G : PG) (hM : M7 F0 F) : PP (mb_tells_164 fu x3 x4 F G) (fun _ F' _ => M7 F0 F') := by
  unfold mb_tells_164
  refine PP.ite (fun c_1 => ?_) (fun c_1 => ?_)
  · skip
    unfold mb_tells_168
    refine PP.bind (mw_isSign (32 : Int32) F G) ?_
    intro r2 F2 G2 hM2
    dsimp only
    unfold mb_tells_174
    refine PP.ite (fun c_3 => ?_) (fun c_3 => ?_)
    · skip
      exact mnj_tells_269 x3 x4 F2 G2 (M7.tr hM (M7.kx hM2 rfl))
    · skip
      unfold mb_tells_177
      refine PP.bind (mn_globalAt x4 F2 G2) ?_
      intro r4 F4 G4 hM4
      dsimp only
      unfold mb_tells_183
      unfold mb_tells_195
      refine PP.bind (mn_value (fup F4 42 ((F4 42) + (1 : Int32))) G4) ?_
      intro r5 F5 G5 hM5
      dsimp only
      unfold mb_tells_199
      refine PP.ite (fun c_6 => ?_) (fun c_6 => ?_)
      · skip
        unfold mb_tells_210
        refine PP.ite (fun c_7 => ?_) (fun c_7 => ?_)
        · skip
          exact mnj_tells_239 x4 r4 F5 G5 (M7.tr (M7.f (k := 42) (by decide) (M7.tr (M7.tr hM (M7.kx hM2 rfl)) hM4)) hM5)
        · skip
          unfold mb_tells_217
          refine PP.ite (fun c_8 => ?_) (fun c_8 => ?_)
          · skip
            exact mnj_tells_239 x4 r4 F5 G5 (M7.tr (M7.f (k := 42) (by decide) (M7.tr (M7.tr hM (M7.kx hM2 rfl)) hM4)) hM5)
          · skip
            unfold mb_tells_225
            refine PP.ix (fun _ => ?_)
            refine PP.ix (fun _ => ?_)
            exact mnj_tells_239 x4 r4 F5 (gup G5 41 (G5 39 r4.toNatClampNeg).toNatClampNeg r5) (M7.tr (M7.f (k := 42) (by decide) (M7.tr (M7.tr hM (M7.kx hM2 rfl)) hM4)) hM5)
      · skip
        unfold mb_tells_208
        refine PP.ret ?_
        exact (M7.tr (M7.f (k := 42) (by decide) (M7.tr (M7.tr hM (M7.kx hM2 rfl)) hM4)) hM5)
  · skip
    exact mnj_tells_269 x3 x4 F G hM
theorem mnj_tells_163 {fu : Nat} {F0 : PF} (z0 : Int32) (F : PF) (G : PG) (hM : M7 F0 F) : PP (mb_tells_163 fu z0 F G) (fun _ F' _ => M7 F0 F') := by
  unfold mb_tells_163
  refine PP.bz (fun _ => ?_)
  refine PP.ret ?_
  exact hM
theorem mnj_tells_162 {fu : Nat} {F0 : PF} (F : PF) (G : PG) (hM : M7 F0 F) : PP (mb_tells_162 fu F G) (fun _ F' _ => M7 F0 F') := by
  unfold mb_tells_162
  exact mnj_tells_163 (0 : Int32) F G hM
theorem mnj_tells_117 {fu : Nat} {F0 : PF} (x2 : Int32) (x3 : Int32) (x4 : Int32) (F : PF) (G : PG) (hM : M7 F0 F) : PP (mb_tells_117 fu x2 x3 x4 F G) (fun _ F' _ => M7 F0 F') := by
  unfold mb_tells_117
  refine PP.ite (fun c_1 => ?_) (fun c_1 => ?_)
  · skip
    unfold mb_tells_127
    refine PP.ite (fun c_2 => ?_) (fun c_2 => ?_)
    · skip
      unfold mb_tells_131
      refine PP.bind (mw_isSign (29 : Int32) F G) ?_
      intro r3 F3 G3 hM3
      dsimp only
      unfold mb_tells_137
      refine PP.ite (fun c_4 => ?_) (fun c_4 => ?_)
      · skip
        exact mnj_tells_164 x3 x4 F3 G3 (M7.tr hM (M7.kx hM3 rfl))
      · skip
        unfold mb_tells_140
        refine PP.bind (mn_globalInt x4 F3 G3) ?_
        intro r5 F5 G5 hM5
        dsimp only
        unfold mb_tells_146
        refine PP.ite (fun c_6 => ?_) (fun c_6 => ?_)
        · skip
          exact mnj_tells_162 F5 G5 (M7.tr (M7.tr hM (M7.kx hM3 rfl)) hM5)
        · skip
          unfold mb_tells_149
          refine PP.bind (mw_sign (29 : Int32) F5 G5) ?_
          intro r7 F7 G7 hM7
          dsimp only
          unfold mb_tells_155
          refine PP.ite (fun c_8 => ?_) (fun c_8 => ?_)
          · skip
            exact mnj_tells_162 F7 G7 (M7.tr (M7.tr (M7.tr hM (M7.kx hM3 rfl)) hM5) (M7.kx hM7 rfl))
          · skip
            unfold mb_tells_158
            exact mnj_tells_163 (1 : Int32) F7 G7 (M7.tr (M7.tr (M7.tr hM (M7.kx hM3 rfl)) hM5) (M7.kx hM7 rfl))
    · skip
      exact mnj_tells_164 x3 x4 F G hM
  · skip
    unfold mb_tells_121
    refine PP.bind (mw_fails (2 : Int32) F G) ?_
    intro r9 F9 G9 hM9
    dsimp only
    unfold mb_tells_126
    refine PP.bz (fun _ => ?_)
    refine PP.ret ?_
    exact (M7.tr hM (M7.kx hM9 rfl))
theorem mnj_tells_70 {fu : Nat} {F0 : PF} (x1 : Int32) (x2 : Int32) (x3 : Int32) (F : PF) (G : PG) (hM : M7 F0 F) : PP (mb_tells_70 fu x1 x2 x3 F G) (fun _ F' _ => M7 F0 F') := by
  unfold mb_tells_70
  unfold mb_tells_80
  refine PP.bind (mw_name (fup F 42 ((F 42) + (1 : Int32))) G) ?_
  intro r1 F1 G1 hM1
  dsimp only
  unfold mb_tells_84
  refine PP.ite (fun c_2 => ?_) (fun c_2 => ?_)
  · skip
    unfold mb_tells_95
    refine PP.ite (fun c_3 => ?_) (fun c_3 => ?_)
    · skip
      unfold mb_tells_99
      refine PP.bind (mw_isSign (22 : Int32) F1 G1) ?_
      intro r4 F4 G4 hM4
      dsimp only
      unfold mb_tells_105
      refine PP.ite (fun c_5 => ?_) (fun c_5 => ?_)
      · skip
        exact mnj_tells_117 x2 x3 r1 F4 G4 (M7.tr (M7.tr (M7.f (k := 42) (by decide) hM) (M7.kx hM1 rfl)) (M7.kx hM4 rfl))
      · skip
        unfold mb_tells_108
        refine PP.bind (mn_function x1 r1 x2 F4 G4) ?_
        intro r6 F6 G6 hM6
        dsimp only
        unfold mb_tells_116
        refine PP.bz (fun _ => ?_)
        refine PP.ret ?_
        exact (M7.tr (M7.tr (M7.tr (M7.f (k := 42) (by decide) hM) (M7.kx hM1 rfl)) (M7.kx hM4 rfl)) hM6)
    · skip
      exact mnj_tells_117 x2 x3 r1 F1 G1 (M7.tr (M7.f (k := 42) (by decide) hM) (M7.kx hM1 rfl))
  · skip
    unfold mb_tells_93
    refine PP.ret ?_
    exact (M7.tr (M7.f (k := 42) (by decide) hM) (M7.kx hM1 rfl))
theorem mnj_tells_35 {fu : Nat} {F0 : PF} (z0 : Int32) (F : PF) (G : PG) (hM : M7 F0 F) : PP (mb_tells_35 fu z0 F G) (fun _ F' _ => M7 F0 F') := by
  unfold mb_tells_35
  refine PP.bz (fun _ => ?_)
  refine PP.ret ?_
  exact hM
theorem mnj_tells_34 {fu : Nat} {F0 : PF} (F : PF) (G : PG) (hM : M7 F0 F) : PP (mb_tells_34 fu F G) (fun _ F' _ => M7 F0 F') := by
  unfold mb_tells_34
  exact mnj_tells_35 (0 : Int32) F G hM
theorem mn_tells {fu : Nat} (x1 : Int32) (F : PF) (G : PG) : PP (mf_tells fu x1 F G) (fun _ F' _ => M7 F F') := by
  unfold mf_tells
  unfold mb_tells_0
  unfold mb_tells_5
  refine PP.bind (mw_word (3 : Int32) (0 : Int32) (fup F 61 (0 : Int32)) G) ?_
  intro r1 F1 G1 hM1
  dsimp only
  unfold mb_tells_11
  refine PP.ite (fun c_2 => ?_) (fun c_2 => ?_)
  · skip
    unfold mb_tells_36
    refine PP.bind (mw_isWord (2 : Int32) F1 G1) ?_
    intro r3 F3 G3 hM3
    dsimp only
    unfold mb_tells_41
    refine PP.bind (mw_isWord (1 : Int32) F3 G3) ?_
    intro r4 F4 G4 hM4
    dsimp only
    unfold mb_tells_47
    refine PP.ite (fun c_5 => ?_) (fun c_5 => ?_)
    · skip
      unfold mb_tells_52
      refine PP.ite (fun c_6 => ?_) (fun c_6 => ?_)
      · skip
        unfold mb_tells_56
        refine PP.bind (mw_isWord (0 : Int32) F4 G4) ?_
        intro r7 F7 G7 hM7
        dsimp only
        unfold mb_tells_61
        refine PP.ite (fun c_8 => ?_) (fun c_8 => ?_)
        · skip
          unfold mb_tells_64
          refine PP.bind (mw_fails (2 : Int32) F7 G7) ?_
          intro r9 F9 G9 hM9
          dsimp only
          unfold mb_tells_69
          refine PP.bz (fun _ => ?_)
          refine PP.ret ?_
          exact (M7.tr (M7.tr (M7.tr (M7.tr (M7.tr (M7.f (k := 61) (by decide) M7.rf) (M7.kx hM1 rfl)) (M7.kx hM3 rfl)) (M7.kx hM4 rfl)) (M7.kx hM7 rfl)) (M7.kx hM9 rfl))
        · skip
          exact mnj_tells_70 x1 r3 r4 F7 G7 (M7.tr (M7.tr (M7.tr (M7.tr (M7.f (k := 61) (by decide) M7.rf) (M7.kx hM1 rfl)) (M7.kx hM3 rfl)) (M7.kx hM4 rfl)) (M7.kx hM7 rfl))
      · skip
        exact mnj_tells_70 x1 r3 r4 F4 G4 (M7.tr (M7.tr (M7.tr (M7.f (k := 61) (by decide) M7.rf) (M7.kx hM1 rfl)) (M7.kx hM3 rfl)) (M7.kx hM4 rfl))
    · skip
      exact mnj_tells_70 x1 r3 r4 F4 G4 (M7.tr (M7.tr (M7.tr (M7.f (k := 61) (by decide) M7.rf) (M7.kx hM1 rfl)) (M7.kx hM3 rfl)) (M7.kx hM4 rfl))
  · skip
    unfold mb_tells_14
    refine PP.bind (mw_word (0 : Int32) (1 : Int32) F1 G1) ?_
    intro r10 F10 G10 hM10
    dsimp only
    unfold mb_tells_20
    refine PP.ite (fun c_11 => ?_) (fun c_11 => ?_)
    · skip
      exact mnj_tells_34 F10 G10 (M7.tr (M7.tr (M7.f (k := 61) (by decide) M7.rf) (M7.kx hM1 rfl)) (M7.kx hM10 rfl))
    · skip
      unfold mb_tells_23
      refine PP.bind (mn_constantTold F10 G10) ?_
      intro r12 F12 G12 hM12
      dsimp only
      unfold mb_tells_27
      refine PP.ite (fun c_13 => ?_) (fun c_13 => ?_)
      · skip
        exact mnj_tells_34 F12 G12 (M7.tr (M7.tr (M7.tr (M7.f (k := 61) (by decide) M7.rf) (M7.kx hM1 rfl)) (M7.kx hM10 rfl)) hM12)
      · skip
        unfold mb_tells_30
        exact mnj_tells_35 (1 : Int32) F12 G12 (M7.tr (M7.tr (M7.tr (M7.f (k := 61) (by decide) M7.rf) (M7.kx hM1 rfl)) (M7.kx hM10 rfl)) hM12)
theorem mnj_texts_155 {fu : Nat} {F0 : PF} (z0 : Int32) (F : PF) (G : PG) (hM : M7 F0 F) : PP (mb_texts_155 fu z0 F G) (fun _ F' _ => M7 F0 F') := by
  unfold mb_texts_155
  refine PP.bz (fun _ => ?_)
  refine PP.ret ?_
  exact hM
theorem mnj_texts_150 {fu : Nat} {F0 : PF} (F : PF) (G : PG) (hM : M7 F0 F) : PP (mb_texts_150 fu F G) (fun _ F' _ => M7 F0 F') := by
  unfold mb_texts_150
  exact mnj_texts_155 (1 : Int32) F G hM
theorem mnj_texts_154 {fu : Nat} {F0 : PF} (F : PF) (G : PG) (hM : M7 F0 F) : PP (mb_texts_154 fu F G) (fun _ F' _ => M7 F0 F') := by
  unfold mb_texts_154
  exact mnj_texts_155 (0 : Int32) F G hM
theorem mnj_texts_127 {fu : Nat} {F0 : PF} (F : PF) (G : PG) (hM : M7 F0 F) : PP (mb_texts_127 fu F G) (fun _ F' _ => M7 F0 F') := by
  unfold mb_texts_127
  refine PP.ite (fun c_1 => ?_) (fun c_1 => ?_)
  · skip
    unfold mb_texts_134
    refine PP.ite (fun c_2 => ?_) (fun c_2 => ?_)
    · skip
      exact mnj_texts_150 F G hM
    · skip
      unfold mb_texts_142
      refine PP.bind (mw_fails (1 : Int32) F G) ?_
      intro r3 F3 G3 hM3
      dsimp only
      unfold mb_texts_147
      refine PP.ite (fun c_4 => ?_) (fun c_4 => ?_)
      · skip
        exact mnj_texts_154 F3 G3 (M7.tr hM (M7.kx hM3 rfl))
      · skip
        exact mnj_texts_150 F3 G3 (M7.tr hM (M7.kx hM3 rfl))
  · skip
    exact mnj_texts_154 F G hM
theorem mnj_texts_122 {fu : Nat} {F0 : PF} (ag_87 : Int32 → Int32 → PF → PG → PR) (hag_87 : ∀ (x1 : Int32) (x2 : Int32) (F : PF) (G : PG) (hM : M7 F0 F), PP (ag_87 x1 x2 F G) (fun _ F' _ => M7 F0 F')) (x2 : Int32) (z0 : Int32) (z1 : Int32) (F : PF) (G : PG) (hM : M7 F0 F) : PP (mb_texts_122 fu ag_87 x2 z0 z1 F G) (fun _ F' _ => M7 F0 F') := by
  unfold mb_texts_122
  exact hag_87 (z1 + z0) x2 F G hM
theorem mnz_texts_87 {fu : Nat} {F0 : PF} : ∀ (n : Nat) (x1 : Int32) (x2 : Int32) (F : PF) (G : PG) (hM : M7 F0 F), PP (ml_texts_87 fu n x1 x2 F G) (fun _ F' _ => M7 F0 F') := by
  intro n
  induction n with
  | zero =>
    intro x1 x2 F G hM
    exact PP.no
  | succ n ihn =>
    intro x1 x2 F G hM
    show PP (mb_texts_87 fu (ml_texts_87 fu n) x1 x2 F G) _
    unfold mb_texts_87
    refine PP.ite (fun c_1 => ?_) (fun c_1 => ?_)
    · skip
      exact mnj_texts_127 F G hM
    · skip
      unfold mb_texts_91
      refine PP.ix (fun _ => ?_)
      refine PP.ite (fun c_2 => ?_) (fun c_2 => ?_)
      · skip
        exact mnj_texts_127 F G hM
      · skip
        unfold mb_texts_103
        refine PP.bind (mn_tells x1 F G) ?_
        intro r3 F3 G3 hM3
        dsimp only
        unfold mb_texts_108
        refine PP.ite (fun c_4 => ?_) (fun c_4 => ?_)
        · skip
          unfold mb_texts_121
          exact mnj_texts_122 (ml_texts_87 fu n) ihn r3 (0 : Int32) x1 F3 G3 (M7.tr hM hM3)
        · skip
          unfold mb_texts_117
          exact mnj_texts_122 (ml_texts_87 fu n) ihn r3 (1 : Int32) x1 F3 G3 (M7.tr hM hM3)
theorem mnj_texts_82 {fu : Nat} {F0 : PF} (x1 : Int32) (z0 : Int32) (F : PF) (G : PG) (hM : M7 F0 F) : PP (mb_texts_82 fu x1 z0 F G) (fun _ F' _ => M7 F0 F') := by
  unfold mb_texts_82
  unfold mb_texts_85
  exact mnz_texts_87 fu x1 (1 : Int32) (fup F 35 z0) G (M7.f (k := 35) (by decide) hM)
theorem mnj_texts_61 {fu : Nat} {F0 : PF} (z0 : Int32) (F : PF) (G : PG) (hM : M7 F0 F) : PP (mb_texts_61 fu z0 F G) (fun _ F' _ => M7 F0 F') := by
  unfold mb_texts_61
  unfold mb_texts_64
  refine PP.ite (fun c_1 => ?_) (fun c_1 => ?_)
  · skip
    unfold mb_texts_74
    exact mnj_texts_82 (0 : Int32) (0 : Int32) (fup F 24 z0) G (M7.f (k := 24) (by decide) hM)
  · skip
    unfold mb_texts_78
    exact mnj_texts_82 (0 : Int32) (F 35) (fup F 24 z0) G (M7.f (k := 24) (by decide) hM)
theorem mn_texts {fu : Nat} (F : PF) (G : PG) : PP (mf_texts fu F G) (fun _ F' _ => M7 F F') := by
  unfold mf_texts
  unfold mb_texts_0
  unfold mb_texts_5
  unfold mb_texts_10
  unfold mb_texts_15
  unfold mb_texts_20
  unfold mb_texts_25
  unfold mb_texts_30
  unfold mb_texts_35
  unfold mb_texts_40
  unfold mb_texts_45
  refine PP.ite (fun c_1 => ?_) (fun c_1 => ?_)
  · skip
    unfold mb_texts_53
    exact mnj_texts_61 (0 : Int32) (fup (fup (fup (fup (fup (fup (fup (fup (fup F 42 (0 : Int32)) 43 (0 : Int32)) 14 (0 : Int32)) 15 (0 : Int32)) 60 (0 : Int32)) 70 (0 : Int32)) 36 (0 : Int32)) 37 (0 : Int32)) 50 (-1 : Int32)) G (M7.f (k := 50) (by decide) (M7.f (k := 37) (by decide) (M7.f (k := 36) (by decide) (M7.f (k := 70) (by decide) (M7.f (k := 60) (by decide) (M7.f (k := 15) (by decide) (M7.f (k := 14) (by decide) (M7.f (k := 43) (by decide) (M7.f (k := 42) (by decide) M7.rf)))))))))
  · skip
    unfold mb_texts_57
    exact mnj_texts_61 (F 24) (fup (fup (fup (fup (fup (fup (fup (fup (fup F 42 (0 : Int32)) 43 (0 : Int32)) 14 (0 : Int32)) 15 (0 : Int32)) 60 (0 : Int32)) 70 (0 : Int32)) 36 (0 : Int32)) 37 (0 : Int32)) 50 (-1 : Int32)) G (M7.f (k := 50) (by decide) (M7.f (k := 37) (by decide) (M7.f (k := 36) (by decide) (M7.f (k := 70) (by decide) (M7.f (k := 60) (by decide) (M7.f (k := 15) (by decide) (M7.f (k := 14) (by decide) (M7.f (k := 43) (by decide) (M7.f (k := 42) (by decide) M7.rf)))))))))
