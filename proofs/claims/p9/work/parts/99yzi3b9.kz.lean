/-- off, and all first words 0 -/
def jZ0 (F : PF) (G : PG) : Prop := F 45 = 0 ∧ ∀ i : Nat, i < 2000 → G 86 i = 0
def CZS (F : PF) (G : PG) (F1 : PF) (G1 : PG) : Prop := jZ0 F G → jZ0 F1 G1
theorem CZS.rf {F : PF} {G : PG} : CZS F G F G := id
theorem CZS.tr {F F1 F2 : PF} {G G1 G2 : PG} (h : CZS F G F1 G1) (h1 : CZS F1 G1 F2 G2) : CZS F G F2 G2 := fun q => h1 (h q)
theorem jZ0.k {F F1 : PF} {G G1 : PG} (h : jZ0 F G) (e45 : F1 45 = F 45) (e86 : G1 86 = G 86) : jZ0 F1 G1 := by
  unfold jZ0
  rw [e45, e86]
  exact h
theorem CZS.f {F F1 : PF} {G G1 : PG} {k : Nat} {x : Int32} (e : (k == 45) = false) (h : CZS F G F1 G1) : CZS F G (fup F1 k x) G1 := by
  have e1 : 45 ≠ k := fun q => by rw [← q] at e; cases e
  exact fun q => (h q).k (fup_n e1) rfl
theorem CZS.g {F F1 : PF} {G G1 : PG} {k i : Nat} {x : Int32} (e : (k == 86) = false) (h : CZS F G F1 G1) : CZS F G F1 (gup G1 k i x) := by
  have e1 : 86 ≠ k := fun q => by rw [← q] at e; cases e
  exact fun q => (h q).k rfl (gup_o e1)
theorem CZS.gc {F F1 : PF} {G G1 : PG} {k k0 : Nat} (e : (k == 86) = false) (h : CZS F G F1 G1) : CZS F G F1 (gcp G1 k0 k) := by
  have e1 : 86 ≠ k := fun q => by rw [← q] at e; cases e
  exact fun q => (h q).k rfl (if_neg e1)
theorem jZ0.x {F F1 : PF} {G G1 : PG} {a b : List Nat} (q : jZ0 F G) (h : KX a b F G F1 G1) (e : (a.contains 45 || b.contains 86) = false) : jZ0 F1 G1 := by
  simp only [Bool.or_eq_false_iff] at e
  exact q.k (h.1 45 e.1) (h.2 86 e.2)
theorem CZS.k {F F1 : PF} {G G1 : PG} {a b : List Nat} (h : KX a b F G F1 G1) (e : (a.contains 45 || b.contains 86) = false) : CZS F G F1 G1 := fun q => q.x h e
theorem PP.cz {a : PR} {F : PF} {G : PG} (h : jZ0 F G → PP a (fun _ F' G' => jZ0 F' G')) : PP a (fun _ F' G' => CZS F G F' G') := fun r F1 G1 e q => h q r F1 G1 e
theorem jZ0.st {F : PF} {G : PG} (q : jZ0 F G) (i : Nat) : jZ0 F (gup G 86 i 0) := by
  refine ⟨q.1, fun j hj => ?_⟩
  by_cases c : j = i
  · rw [c, gup_i]
  · rw [gup_x c]
    exact q.2 j hj
theorem cz_tI {fu : Nat} {a : Int32} {F : PF} {G : PG} (q : jZ0 F G) : PP (cf_X8_tellInt fu a 0 F G) (fun _ F' G' => jZ0 F' G') := by
  unfold cf_X8_tellInt cb_X8_tellInt_0 cb_X8_tellInt_18
  refine PP.ite (fun _ => PP.ret q) (fun _ => ?_)
  unfold cb_X8_tellInt_4 cb_X8_tellInt_18
  refine PP.ite (fun _ => PP.ret q) (fun _ => ?_)
  unfold cb_X8_tellInt_11 cb_X8_tellInt_18
  exact PP.ix (fun _ => PP.ret (q.st _))
theorem cz_fW {fu : Nat} {a : Int32} {F : PF} {G : PG} (q : jZ0 F G) : PP (cf_X8_firstWord fu a F G) (fun r F' G' => r = 0 ∧ F = F' ∧ G = G') := by
  unfold cf_X8_firstWord cb_X8_firstWord_0 cb_X8_firstWord_11 cb_X8_firstWord_21
  refine PP.ite (fun _ => PP.ret ⟨rfl, rfl, rfl⟩) (fun _ => ?_)
  unfold cb_X8_firstWord_4 cb_X8_firstWord_11 cb_X8_firstWord_21
  refine PP.ite (fun c => ?_) (fun _ => PP.ret ⟨rfl, rfl, rfl⟩)
  have c := i_lt.mp c
  have l2 : (2000 : Int32).toInt = 2000 := rfl
  unfold cb_X8_firstWord_15 cb_X8_firstWord_21
  exact PP.ix (fun _ => PP.ret ⟨q.2 _ (by show a.toInt.toNat < 2000; omega), rfl, rfl⟩)
theorem cz_0 (m s : Int32) : ((0 : Int32) &&& m) ||| (((0 : Int32) &&& 255) <<< s) = 0 := by
  simp
theorem cz_tB {fu : Nat} {a b : Int32} {F : PF} {G : PG} (q : jZ0 F G) : PP (cf_X8_tellByte fu a b 0 F G) (fun _ F' G' => jZ0 F' G') := by
  unfold cf_X8_tellByte cb_X8_tellByte_0
  refine PP.bind (cz_fW q) ?_
  rintro _ _ _ ⟨rfl, rfl, rfl⟩
  dsimp only
  unfold cb_X8_tellByte_24
  rw [cz_0]
  refine PP.bind (cz_tI q) (fun r F1 G1 h => ?_)
  unfold cb_X8_tellByte_45
  exact PP.ret h
theorem cz_const {fu : Nat} {F : PF} {G : PG} (q : jZ0 F G) : PP (cf_X3_constant fu F G) (fun r F' G' => r = 0 ∧ jZ0 F' G') := by
  have v : PP (cf_X3_constant fu F G) (fun r _ _ => r = 0) := by
    unfold cf_X3_constant cb_X3_constant_0
    refine PP.bind (cw_X5_startConstant F G) (fun r1 F1 G1 k1 => ?_)
    dsimp only
    unfold cb_X3_constant_15
    refine PP.bind (cw_X3_expression F1 G1) (fun r2 F2 G2 k2 => ?_)
    dsimp only
    unfold cb_X3_constant_19
    refine PP.bind (cp_endsC F2 G2) ?_
    rintro r3 _ _ ⟨rfl, rfl, ⟨rfl, -⟩ | ⟨-, n, -⟩⟩
    · dsimp only
      unfold cb_X3_constant_26
      rw [if_pos rfl]
      unfold cb_X3_constant_40 cb_X3_constant_41
      refine PP.bind (cw_X1_cut (F 6) (fup F2 46 0) G2) (fun r4 F4 G4 _ => ?_)
      unfold cb_X3_constant_50
      exact PP.ret rfl
    · exact absurd ((k2.1 45 rfl).trans ((k1.1 45 rfl).trans q.1)) n
  exact fun r F1 G1 e => ⟨v r F1 G1 e, q.x (cw_X3_constant F G r F1 G1 e) rfl⟩
theorem kz_X4_globalInt {fu : Nat} (x1 x2 : Int32) (F : PF) (G : PG) : PP (cf_X4_globalInt fu x1 x2 F G) (fun _ F' G' => CZS F G F' G') := by
  have z29 : ∀ (F : PF) (G : PG), jZ0 F G → PP (cb_X4_globalInt_29 fu x1 x2 0 F G) (fun _ F' G' => jZ0 F' G') := by
    intro F G q
    unfold cb_X4_globalInt_29
    refine PP.bind (cw_X2_expect 26 F G) (fun r1 F1 G1 k1 => ?_)
    dsimp only
    have q := q.x k1 rfl
    unfold cb_X4_globalInt_38
    refine PP.bind (cw_X5_globalRoom 1 x2 F1 G1) (fun r2 F2 G2 k2 => ?_)
    dsimp only
    have q := q.x k2 rfl
    unfold cb_X4_globalInt_47
    refine PP.bind (cz_tI q) (fun r3 F3 G3 q => ?_)
    dsimp only
    unfold cb_X4_globalInt_59
    refine PP.bind (cw_X5_tell x1 x2 1 r2 0 F3 G3) (fun r4 F4 G4 k4 => ?_)
    unfold cb_X4_globalInt_72
    exact PP.ret (q.x k4 rfl)
  refine PP.cz (fun q => ?_)
  unfold cf_X4_globalInt cb_X4_globalInt_0
  refine PP.ite (fun _ => ?_) (fun _ => z29 F G q)
  unfold cb_X4_globalInt_14
  refine PP.bind (cw_X2_next F G) (fun r1 F1 G1 k1 => ?_)
  dsimp only
  unfold cb_X4_globalInt_21
  refine PP.bind (cz_const (q.x k1 rfl)) ?_
  rintro _ F2 G2 ⟨rfl, q⟩
  exact z29 F2 G2 q
theorem kz_X4_elements {fu : Nat} (x1 x2 x3 : Int32) (F : PF) (G : PG) : PP (cf_X4_elements fu x1 x2 x3 F G) (fun _ F' G' => CZS F G F' G') := by
  have z140 : ∀ (F : PF) (G : PG), jZ0 F G → PP (cb_X4_elements_140 fu F G) (fun _ F' G' => jZ0 F' G') := by
    intro F G q
    unfold cb_X4_elements_140
    refine PP.bind (cw_X2_closesWith 24 F G) (fun r1 F1 G1 k1 => ?_)
    unfold cb_X4_elements_149
    exact PP.ret (q.x k1 rfl)
  have lp : ∀ (m : Nat) (x4 x5 : Int32) (F : PF) (G : PG), jZ0 F G → PP (cl_X4_elements_19 fu m x1 x2 x3 x4 x5 F G) (fun _ F' G' => jZ0 F' G') := by
    intro m
    induction m with
    | zero => intro x4 x5 F G _; exact PP.no
    | succ m ih =>
      intro x4 x5 F G q
      show PP (cb_X4_elements_19 fu (cl_X4_elements_19 fu m) x1 x2 x3 x4 x5 F G) _
      have z103 : ∀ (F : PF) (G : PG), jZ0 F G → PP (cb_X4_elements_103 fu (cl_X4_elements_19 fu m) x1 x2 x3 x5 F G) (fun _ F' G' => jZ0 F' G') := by
        intro F G q
        have z120 : ∀ z : Int32, PP (cb_X4_elements_120 fu (cl_X4_elements_19 fu m) x1 x2 x3 x5 z F G) (fun _ F' G' => jZ0 F' G') := by
          intro z
          unfold cb_X4_elements_120 cb_X4_elements_134
          refine PP.ite (fun _ => ih _ _ F G q) (fun _ => ?_)
          unfold cb_X4_elements_127
          refine PP.bind (cw_X2_next F G) (fun r1 F1 G1 k1 => ?_)
          exact ih _ _ F1 G1 (q.x k1 rfl)
        unfold cb_X4_elements_103 cb_X4_elements_115 cb_X4_elements_119
        exact PP.ite (fun _ => z120 1) (fun _ => z120 0)
      unfold cb_X4_elements_19
      refine PP.ite (fun _ => z140 F G q) (fun _ => ?_)
      unfold cb_X4_elements_27
      refine PP.ite (fun _ => z140 F G q) (fun _ => ?_)
      unfold cb_X4_elements_32
      refine PP.bind (cz_const q) ?_
      rintro _ F1 G1 ⟨rfl, q⟩
      dsimp only
      unfold cb_X4_elements_48
      refine PP.ite (fun _ => ?_) (fun _ => ?_)
      · unfold cb_X4_elements_70
        refine PP.ite (fun _ => ?_) (fun _ => ?_)
        · unfold cb_X4_elements_75 cb_X4_elements_88
          exact PP.bind (cz_tI q) (fun r2 F2 G2 q => z103 F2 G2 q)
        · unfold cb_X4_elements_91
          exact PP.bind (cz_tB q) (fun r2 F2 G2 q => z103 F2 G2 q)
      · unfold cb_X4_elements_56 cb_X4_elements_67
        exact PP.bind (cw_X5_note 7 (F 13) F1 G1) (fun r2 F2 G2 k2 => z103 F2 G2 (q.x k2 rfl))
  refine PP.cz (fun q => ?_)
  unfold cf_X4_elements cb_X4_elements_0
  refine PP.bind (cw_X2_opens 23 F G) (fun r1 F1 G1 k1 => ?_)
  dsimp only
  unfold cb_X4_elements_9 cb_X4_elements_12 cb_X4_elements_13
  exact PP.ite (fun _ => PP.ret (q.x k1 rfl)) (fun _ => lp fu 1 0 F1 G1 (q.x k1 rfl))
theorem kzj_X4_globalArray_76 {fu : Nat} {F0 : PF} {G0 : PG} (F : PF) (G : PG) (hK : CZS F0 G0 F G) : PP (cb_X4_globalArray_76 fu F G) (fun _ F' G' => CZS F0 G0 F' G') := by
  unfold cb_X4_globalArray_76
  refine PP.ret ?_
  exact hK
theorem kzj_X4_globalArray_62 {fu : Nat} {F0 : PF} {G0 : PG} (x1 : Int32) (x2 : Int32) (x3 : Int32) (x4 : Int32) (x5 : Int32) (F : PF) (G : PG) (hK : CZS F0 G0 F G) : PP (cb_X4_globalArray_62 fu x1 x2 x3 x4 x5 F G) (fun _ F' G' => CZS F0 G0 F' G') := by
  unfold cb_X4_globalArray_62
  refine PP.bind (cw_X5_tell x1 x2 x3 x5 x4 F G) ?_
  intro r1 F1 G1 hK1
  dsimp only
  exact kzj_X4_globalArray_76 F1 G1 (CZS.tr hK (CZS.k hK1 rfl))
theorem kzj_X4_globalArray_53 {fu : Nat} {F0 : PF} {G0 : PG} (x1 : Int32) (x2 : Int32) (x3 : Int32) (x4 : Int32) (x5 : Int32) (F : PF) (G : PG) (hK : CZS F0 G0 F G) : PP (cb_X4_globalArray_53 fu x1 x2 x3 x4 x5 F G) (fun _ F' G' => CZS F0 G0 F' G') := by
  unfold cb_X4_globalArray_53
  refine PP.bind (cw_X2_expect (26 : Int32) F G) ?_
  intro r1 F1 G1 hK1
  dsimp only
  exact kzj_X4_globalArray_62 x1 x2 x3 x4 x5 F1 G1 (CZS.tr hK (CZS.k hK1 rfl))
theorem kzj_X4_globalArray_44 {fu : Nat} {F0 : PF} {G0 : PG} (x1 : Int32) (x2 : Int32) (x3 : Int32) (x4 : Int32) (x5 : Int32) (F : PF) (G : PG) (hK : CZS F0 G0 F G) : PP (cb_X4_globalArray_44 fu x1 x2 x3 x4 x5 F G) (fun _ F' G' => CZS F0 G0 F' G') := by
  unfold cb_X4_globalArray_44
  refine PP.bind (kz_X4_elements x3 x5 x4 F G) ?_
  intro r1 F1 G1 hK1
  dsimp only
  exact kzj_X4_globalArray_53 x1 x2 x3 x4 x5 F1 G1 (CZS.tr hK hK1)
theorem kzj_X4_globalArray_37 {fu : Nat} {F0 : PF} {G0 : PG} (x1 : Int32) (x2 : Int32) (x3 : Int32) (x4 : Int32) (x5 : Int32) (F : PF) (G : PG) (hK : CZS F0 G0 F G) : PP (cb_X4_globalArray_37 fu x1 x2 x3 x4 x5 F G) (fun _ F' G' => CZS F0 G0 F' G') := by
  unfold cb_X4_globalArray_37
  refine PP.bind (cw_X2_next F G) ?_
  intro r1 F1 G1 hK1
  dsimp only
  exact kzj_X4_globalArray_44 x1 x2 x3 x4 x5 F1 G1 (CZS.tr hK (CZS.k hK1 rfl))
theorem kzj_X4_globalArray_23 {fu : Nat} {F0 : PF} {G0 : PG} (x1 : Int32) (x2 : Int32) (x3 : Int32) (x4 : Int32) (z0 : Int32) (F : PF) (G : PG) (hK : CZS F0 G0 F G) : PP (cb_X4_globalArray_23 fu x1 x2 x3 x4 z0 F G) (fun _ F' G' => CZS F0 G0 F' G') := by
  unfold cb_X4_globalArray_23
  refine PP.ite (fun c_1 => ?_) (fun c_1 => ?_)
  · skip
    exact kzj_X4_globalArray_37 x1 x2 x3 x4 z0 F G hK
  · skip
    exact kzj_X4_globalArray_53 x1 x2 x3 x4 z0 F G hK
theorem kzj_X4_globalArray_19 {fu : Nat} {F0 : PF} {G0 : PG} (x1 : Int32) (x2 : Int32) (x3 : Int32) (x4 : Int32) (z0 : Int32) (F : PF) (G : PG) (hK : CZS F0 G0 F G) : PP (cb_X4_globalArray_19 fu x1 x2 x3 x4 z0 F G) (fun _ F' G' => CZS F0 G0 F' G') := by
  unfold cb_X4_globalArray_19
  refine PP.bind (cw_X5_globalRoom z0 x2 F G) ?_
  intro r1 F1 G1 hK1
  dsimp only
  exact kzj_X4_globalArray_23 x1 x2 x3 x4 r1 F1 G1 (CZS.tr hK (CZS.k hK1 rfl))
theorem kzj_X4_globalArray_7 {fu : Nat} {F0 : PF} {G0 : PG} (x1 : Int32) (x2 : Int32) (x3 : Int32) (z0 : Int32) (F : PF) (G : PG) (hK : CZS F0 G0 F G) : PP (cb_X4_globalArray_7 fu x1 x2 x3 z0 F G) (fun _ F' G' => CZS F0 G0 F' G') := by
  unfold cb_X4_globalArray_7
  refine PP.bind (cw_X4_wordsOf x3 z0 F G) ?_
  intro r1 F1 G1 hK1
  dsimp only
  exact kzj_X4_globalArray_19 x1 x2 x3 z0 r1 F1 G1 (CZS.tr hK (CZS.k hK1 rfl))
theorem kz_X4_globalArray {fu : Nat} (x1 : Int32) (x2 : Int32) (x3 : Int32) (F : PF) (G : PG) : PP (cf_X4_globalArray fu x1 x2 x3 F G) (fun _ F' G' => CZS F G F' G') := by
  unfold cf_X4_globalArray
  unfold cb_X4_globalArray_0
  refine PP.bind (cw_X3_arraySize F G) ?_
  intro r1 F1 G1 hK1
  dsimp only
  exact kzj_X4_globalArray_7 x1 x2 x3 r1 F1 G1 (CZS.tr CZS.rf (CZS.k hK1 rfl))
theorem kzj_X4_walk_299 {fu : Nat} {F0 : PF} {G0 : PG} (z0 : Int32) (F : PF) (G : PG) (hK : CZS F0 G0 F G) : PP (cb_X4_walk_299 fu z0 F G) (fun _ F' G' => CZS F0 G0 F' G') := by
  unfold cb_X4_walk_299
  refine PP.ret ?_
  exact hK
theorem kzj_X4_walk_292 {fu : Nat} {F0 : PF} {G0 : PG} (F : PF) (G : PG) (hK : CZS F0 G0 F G) : PP (cb_X4_walk_292 fu F G) (fun _ F' G' => CZS F0 G0 F' G') := by
  unfold cb_X4_walk_292
  exact kzj_X4_walk_299 (F 14) F G hK
theorem kzj_X4_walk_289 {fu : Nat} {F0 : PF} {G0 : PG} (z0 : Int32) (F : PF) (G : PG) (hK : CZS F0 G0 F G) : PP (cb_X4_walk_289 fu z0 F G) (fun _ F' G' => CZS F0 G0 F' G') := by
  unfold cb_X4_walk_289
  exact kzj_X4_walk_299 z0 F G hK
theorem kzj_X4_walk_282 {fu : Nat} {F0 : PF} {G0 : PG} (F : PF) (G : PG) (hK : CZS F0 G0 F G) : PP (cb_X4_walk_282 fu F G) (fun _ F' G' => CZS F0 G0 F' G') := by
  unfold cb_X4_walk_282
  refine PP.bind (cw_X5_fault F G) ?_
  intro r1 F1 G1 hK1
  dsimp only
  exact kzj_X4_walk_289 r1 F1 G1 (CZS.tr hK (CZS.k hK1 rfl))
theorem kzj_X4_walk_278 {fu : Nat} {F0 : PF} {G0 : PG} (x1 : Int32) (F : PF) (G : PG) (hK : CZS F0 G0 F G) : PP (cb_X4_walk_278 fu x1 F G) (fun _ F' G' => CZS F0 G0 F' G') := by
  unfold cb_X4_walk_278
  refine PP.ite (fun c_1 => ?_) (fun c_1 => ?_)
  · skip
    exact kzj_X4_walk_292 F G hK
  · skip
    exact kzj_X4_walk_282 F G hK
theorem kzj_X4_walk_262 {fu : Nat} {F0 : PF} {G0 : PG} (x1 : Int32) (F : PF) (G : PG) (hK : CZS F0 G0 F G) : PP (cb_X4_walk_262 fu x1 F G) (fun _ F' G' => CZS F0 G0 F' G') := by
  unfold cb_X4_walk_262
  refine PP.bind (cw_X5_note (9 : Int32) (F 13) F G) ?_
  intro r1 F1 G1 hK1
  dsimp only
  exact kzj_X4_walk_278 x1 F1 G1 (CZS.tr hK (CZS.k hK1 rfl))
theorem kzj_X4_walk_251 {fu : Nat} {F0 : PF} {G0 : PG} (x1 : Int32) (F : PF) (G : PG) (hK : CZS F0 G0 F G) : PP (cb_X4_walk_251 fu x1 F G) (fun _ F' G' => CZS F0 G0 F' G') := by
  unfold cb_X4_walk_251
  refine PP.ite (fun c_1 => ?_) (fun c_1 => ?_)
  · skip
    exact kzj_X4_walk_262 x1 F G hK
  · skip
    exact kzj_X4_walk_278 x1 F G hK
theorem kzj_X4_walk_245 {fu : Nat} {F0 : PF} {G0 : PG} (ag_7 : Int32 → Int32 → PF → PG → PR) (hag_7 : ∀ (x1 : Int32) (x2 : Int32) (F : PF) (G : PG) (hK : CZS F0 G0 F G), PP (ag_7 x1 x2 F G) (fun _ F' G' => CZS F0 G0 F' G')) (x1 : Int32) (x2 : Int32) (F : PF) (G : PG) (hK : CZS F0 G0 F G) : PP (cb_X4_walk_245 fu ag_7 x1 x2 F G) (fun _ F' G' => CZS F0 G0 F' G') := by
  unfold cb_X4_walk_245
  exact hag_7 x1 (x2 + (1 : Int32)) F G hK
theorem kzj_X4_walk_234 {fu : Nat} {F0 : PF} {G0 : PG} (ag_7 : Int32 → Int32 → PF → PG → PR) (hag_7 : ∀ (x1 : Int32) (x2 : Int32) (F : PF) (G : PG) (hK : CZS F0 G0 F G), PP (ag_7 x1 x2 F G) (fun _ F' G' => CZS F0 G0 F' G')) (x1 : Int32) (x2 : Int32) (F : PF) (G : PG) (hK : CZS F0 G0 F G) : PP (cb_X4_walk_234 fu ag_7 x1 x2 F G) (fun _ F' G' => CZS F0 G0 F' G') := by
  unfold cb_X4_walk_234
  exact kzj_X4_walk_245 ag_7 hag_7 x1 x2 F G hK
theorem kzj_X4_walk_226 {fu : Nat} {F0 : PF} {G0 : PG} (ag_7 : Int32 → Int32 → PF → PG → PR) (hag_7 : ∀ (x1 : Int32) (x2 : Int32) (F : PF) (G : PG) (hK : CZS F0 G0 F G), PP (ag_7 x1 x2 F G) (fun _ F' G' => CZS F0 G0 F' G')) (x1 : Int32) (x2 : Int32) (x5 : Int32) (x6 : Int32) (F : PF) (G : PG) (hK : CZS F0 G0 F G) : PP (cb_X4_walk_226 fu ag_7 x1 x2 x5 x6 F G) (fun _ F' G' => CZS F0 G0 F' G') := by
  unfold cb_X4_walk_226
  refine PP.bind (kz_X4_globalInt x5 x6 F G) ?_
  intro r1 F1 G1 hK1
  dsimp only
  exact kzj_X4_walk_234 ag_7 hag_7 x1 x2 F1 G1 (CZS.tr hK hK1)
theorem kzj_X4_walk_237 {fu : Nat} {F0 : PF} {G0 : PG} (ag_7 : Int32 → Int32 → PF → PG → PR) (hag_7 : ∀ (x1 : Int32) (x2 : Int32) (F : PF) (G : PG) (hK : CZS F0 G0 F G), PP (ag_7 x1 x2 F G) (fun _ F' G' => CZS F0 G0 F' G')) (x1 : Int32) (x2 : Int32) (F : PF) (G : PG) (hK : CZS F0 G0 F G) : PP (cb_X4_walk_237 fu ag_7 x1 x2 F G) (fun _ F' G' => CZS F0 G0 F' G') := by
  unfold cb_X4_walk_237
  refine PP.bind (cw_X2_fail (2 : Int32) F G) ?_
  intro r1 F1 G1 hK1
  dsimp only
  exact kzj_X4_walk_245 ag_7 hag_7 x1 x2 F1 G1 (CZS.tr hK (CZS.k hK1 rfl))
theorem kzj_X4_walk_220 {fu : Nat} {F0 : PF} {G0 : PG} (ag_7 : Int32 → Int32 → PF → PG → PR) (hag_7 : ∀ (x1 : Int32) (x2 : Int32) (F : PF) (G : PG) (hK : CZS F0 G0 F G), PP (ag_7 x1 x2 F G) (fun _ F' G' => CZS F0 G0 F' G')) (x1 : Int32) (x2 : Int32) (x4 : Int32) (x5 : Int32) (x6 : Int32) (F : PF) (G : PG) (hK : CZS F0 G0 F G) : PP (cb_X4_walk_220 fu ag_7 x1 x2 x4 x5 x6 F G) (fun _ F' G' => CZS F0 G0 F' G') := by
  unfold cb_X4_walk_220
  refine PP.ite (fun c_1 => ?_) (fun c_1 => ?_)
  · skip
    exact kzj_X4_walk_226 ag_7 hag_7 x1 x2 x5 x6 F G hK
  · skip
    exact kzj_X4_walk_237 ag_7 hag_7 x1 x2 F G hK
theorem kzj_X4_walk_217 {fu : Nat} {F0 : PF} {G0 : PG} (ag_7 : Int32 → Int32 → PF → PG → PR) (hag_7 : ∀ (x1 : Int32) (x2 : Int32) (F : PF) (G : PG) (hK : CZS F0 G0 F G), PP (ag_7 x1 x2 F G) (fun _ F' G' => CZS F0 G0 F' G')) (x1 : Int32) (x2 : Int32) (F : PF) (G : PG) (hK : CZS F0 G0 F G) : PP (cb_X4_walk_217 fu ag_7 x1 x2 F G) (fun _ F' G' => CZS F0 G0 F' G') := by
  unfold cb_X4_walk_217
  exact kzj_X4_walk_245 ag_7 hag_7 x1 x2 F G hK
theorem kzj_X4_walk_214 {fu : Nat} {F0 : PF} {G0 : PG} (ag_7 : Int32 → Int32 → PF → PG → PR) (hag_7 : ∀ (x1 : Int32) (x2 : Int32) (F : PF) (G : PG) (hK : CZS F0 G0 F G), PP (ag_7 x1 x2 F G) (fun _ F' G' => CZS F0 G0 F' G')) (x1 : Int32) (x2 : Int32) (z0 : Int32) (z1 : Int32) (z2 : Int32) (F : PF) (G : PG) (hK : CZS F0 G0 F G) : PP (cb_X4_walk_214 fu ag_7 x1 x2 z0 z1 z2 F G) (fun _ F' G' => CZS F0 G0 F' G') := by
  unfold cb_X4_walk_214
  refine PP.bind (kz_X4_globalArray z2 z1 z0 F G) ?_
  intro r1 F1 G1 hK1
  dsimp only
  exact kzj_X4_walk_217 ag_7 hag_7 x1 x2 F1 G1 (CZS.tr hK hK1)
theorem kzj_X4_walk_209 {fu : Nat} {F0 : PF} {G0 : PG} (ag_7 : Int32 → Int32 → PF → PG → PR) (hag_7 : ∀ (x1 : Int32) (x2 : Int32) (F : PF) (G : PG) (hK : CZS F0 G0 F G), PP (ag_7 x1 x2 F G) (fun _ F' G' => CZS F0 G0 F' G')) (x1 : Int32) (x2 : Int32) (z0 : Int32) (z1 : Int32) (F : PF) (G : PG) (hK : CZS F0 G0 F G) : PP (cb_X4_walk_209 fu ag_7 x1 x2 z0 z1 F G) (fun _ F' G' => CZS F0 G0 F' G') := by
  unfold cb_X4_walk_209
  exact kzj_X4_walk_214 ag_7 hag_7 x1 x2 (2 : Int32) z0 z1 F G hK
theorem kzj_X4_walk_213 {fu : Nat} {F0 : PF} {G0 : PG} (ag_7 : Int32 → Int32 → PF → PG → PR) (hag_7 : ∀ (x1 : Int32) (x2 : Int32) (F : PF) (G : PG) (hK : CZS F0 G0 F G), PP (ag_7 x1 x2 F G) (fun _ F' G' => CZS F0 G0 F' G')) (x1 : Int32) (x2 : Int32) (z0 : Int32) (z1 : Int32) (F : PF) (G : PG) (hK : CZS F0 G0 F G) : PP (cb_X4_walk_213 fu ag_7 x1 x2 z0 z1 F G) (fun _ F' G' => CZS F0 G0 F' G') := by
  unfold cb_X4_walk_213
  exact kzj_X4_walk_214 ag_7 hag_7 x1 x2 (3 : Int32) z0 z1 F G hK
theorem kzj_X4_walk_198 {fu : Nat} {F0 : PF} {G0 : PG} (ag_7 : Int32 → Int32 → PF → PG → PR) (hag_7 : ∀ (x1 : Int32) (x2 : Int32) (F : PF) (G : PG) (hK : CZS F0 G0 F G), PP (ag_7 x1 x2 F G) (fun _ F' G' => CZS F0 G0 F' G')) (x1 : Int32) (x2 : Int32) (x4 : Int32) (x5 : Int32) (x6 : Int32) (F : PF) (G : PG) (hK : CZS F0 G0 F G) : PP (cb_X4_walk_198 fu ag_7 x1 x2 x4 x5 x6 F G) (fun _ F' G' => CZS F0 G0 F' G') := by
  unfold cb_X4_walk_198
  refine PP.ite (fun c_1 => ?_) (fun c_1 => ?_)
  · skip
    exact kzj_X4_walk_209 ag_7 hag_7 x1 x2 x6 x5 F G hK
  · skip
    exact kzj_X4_walk_213 ag_7 hag_7 x1 x2 x6 x5 F G hK
theorem kzj_X4_walk_191 {fu : Nat} {F0 : PF} {G0 : PG} (ag_7 : Int32 → Int32 → PF → PG → PR) (hag_7 : ∀ (x1 : Int32) (x2 : Int32) (F : PF) (G : PG) (hK : CZS F0 G0 F G), PP (ag_7 x1 x2 F G) (fun _ F' G' => CZS F0 G0 F' G')) (x1 : Int32) (x2 : Int32) (x4 : Int32) (x5 : Int32) (x6 : Int32) (F : PF) (G : PG) (hK : CZS F0 G0 F G) : PP (cb_X4_walk_191 fu ag_7 x1 x2 x4 x5 x6 F G) (fun _ F' G' => CZS F0 G0 F' G') := by
  unfold cb_X4_walk_191
  refine PP.ite (fun c_1 => ?_) (fun c_1 => ?_)
  · skip
    exact kzj_X4_walk_220 ag_7 hag_7 x1 x2 x4 x5 x6 F G hK
  · skip
    exact kzj_X4_walk_198 ag_7 hag_7 x1 x2 x4 x5 x6 F G hK
theorem kzj_X4_walk_179 {fu : Nat} {F0 : PF} {G0 : PG} (ag_7 : Int32 → Int32 → PF → PG → PR) (hag_7 : ∀ (x1 : Int32) (x2 : Int32) (F : PF) (G : PG) (hK : CZS F0 G0 F G), PP (ag_7 x1 x2 F G) (fun _ F' G' => CZS F0 G0 F' G')) (x1 : Int32) (x2 : Int32) (x4 : Int32) (x5 : Int32) (x6 : Int32) (F : PF) (G : PG) (hK : CZS F0 G0 F G) : PP (cb_X4_walk_179 fu ag_7 x1 x2 x4 x5 x6 F G) (fun _ F' G' => CZS F0 G0 F' G') := by
  unfold cb_X4_walk_179
  refine PP.ite (fun c_1 => ?_) (fun c_1 => ?_)
  · skip
    exact kzj_X4_walk_191 ag_7 hag_7 x1 x2 x4 x5 x6 F G hK
  · skip
    exact kzj_X4_walk_220 ag_7 hag_7 x1 x2 x4 x5 x6 F G hK
theorem kzj_X4_walk_176 {fu : Nat} {F0 : PF} {G0 : PG} (ag_7 : Int32 → Int32 → PF → PG → PR) (hag_7 : ∀ (x1 : Int32) (x2 : Int32) (F : PF) (G : PG) (hK : CZS F0 G0 F G), PP (ag_7 x1 x2 F G) (fun _ F' G' => CZS F0 G0 F' G')) (x1 : Int32) (x2 : Int32) (F : PF) (G : PG) (hK : CZS F0 G0 F G) : PP (cb_X4_walk_176 fu ag_7 x1 x2 F G) (fun _ F' G' => CZS F0 G0 F' G') := by
  unfold cb_X4_walk_176
  exact kzj_X4_walk_245 ag_7 hag_7 x1 x2 F G hK
theorem kzj_X4_walk_172 {fu : Nat} {F0 : PF} {G0 : PG} (ag_7 : Int32 → Int32 → PF → PG → PR) (hag_7 : ∀ (x1 : Int32) (x2 : Int32) (F : PF) (G : PG) (hK : CZS F0 G0 F G), PP (ag_7 x1 x2 F G) (fun _ F' G' => CZS F0 G0 F' G')) (x1 : Int32) (x2 : Int32) (F : PF) (G : PG) (hK : CZS F0 G0 F G) : PP (cb_X4_walk_172 fu ag_7 x1 x2 F G) (fun _ F' G' => CZS F0 G0 F' G') := by
  unfold cb_X4_walk_172
  refine PP.bind (cw_X4_endFunction F G) ?_
  intro r1 F1 G1 hK1
  dsimp only
  exact kzj_X4_walk_176 ag_7 hag_7 x1 x2 F1 G1 (CZS.tr hK (CZS.k hK1 rfl))
theorem kzj_X4_walk_168 {fu : Nat} {F0 : PF} {G0 : PG} (ag_7 : Int32 → Int32 → PF → PG → PR) (hag_7 : ∀ (x1 : Int32) (x2 : Int32) (F : PF) (G : PG) (hK : CZS F0 G0 F G), PP (ag_7 x1 x2 F G) (fun _ F' G' => CZS F0 G0 F' G')) (x1 : Int32) (x2 : Int32) (F : PF) (G : PG) (hK : CZS F0 G0 F G) : PP (cb_X4_walk_168 fu ag_7 x1 x2 F G) (fun _ F' G' => CZS F0 G0 F' G') := by
  unfold cb_X4_walk_168
  refine PP.bind (cw_X4_block F G) ?_
  intro r1 F1 G1 hK1
  dsimp only
  exact kzj_X4_walk_172 ag_7 hag_7 x1 x2 F1 G1 (CZS.tr hK (CZS.k hK1 rfl))
theorem kzj_X4_walk_165 {fu : Nat} {F0 : PF} {G0 : PG} (ag_7 : Int32 → Int32 → PF → PG → PR) (hag_7 : ∀ (x1 : Int32) (x2 : Int32) (F : PF) (G : PG) (hK : CZS F0 G0 F G), PP (ag_7 x1 x2 F G) (fun _ F' G' => CZS F0 G0 F' G')) (x1 : Int32) (x2 : Int32) (z0 : Int32) (F : PF) (G : PG) (hK : CZS F0 G0 F G) : PP (cb_X4_walk_165 fu ag_7 x1 x2 z0 F G) (fun _ F' G' => CZS F0 G0 F' G') := by
  unfold cb_X4_walk_165
  refine PP.bind (cw_X4_formals z0 F G) ?_
  intro r1 F1 G1 hK1
  dsimp only
  exact kzj_X4_walk_168 ag_7 hag_7 x1 x2 F1 G1 (CZS.tr hK (CZS.k hK1 rfl))
theorem kzj_X4_walk_160 {fu : Nat} {F0 : PF} {G0 : PG} (ag_7 : Int32 → Int32 → PF → PG → PR) (hag_7 : ∀ (x1 : Int32) (x2 : Int32) (F : PF) (G : PG) (hK : CZS F0 G0 F G), PP (ag_7 x1 x2 F G) (fun _ F' G' => CZS F0 G0 F' G')) (x1 : Int32) (x2 : Int32) (F : PF) (G : PG) (hK : CZS F0 G0 F G) : PP (cb_X4_walk_160 fu ag_7 x1 x2 F G) (fun _ F' G' => CZS F0 G0 F' G') := by
  unfold cb_X4_walk_160
  exact kzj_X4_walk_165 ag_7 hag_7 x1 x2 (1 : Int32) F G hK
theorem kzj_X4_walk_164 {fu : Nat} {F0 : PF} {G0 : PG} (ag_7 : Int32 → Int32 → PF → PG → PR) (hag_7 : ∀ (x1 : Int32) (x2 : Int32) (F : PF) (G : PG) (hK : CZS F0 G0 F G), PP (ag_7 x1 x2 F G) (fun _ F' G' => CZS F0 G0 F' G')) (x1 : Int32) (x2 : Int32) (F : PF) (G : PG) (hK : CZS F0 G0 F G) : PP (cb_X4_walk_164 fu ag_7 x1 x2 F G) (fun _ F' G' => CZS F0 G0 F' G') := by
  unfold cb_X4_walk_164
  exact kzj_X4_walk_165 ag_7 hag_7 x1 x2 (0 : Int32) F G hK
theorem kzj_X4_walk_150 {fu : Nat} {F0 : PF} {G0 : PG} (ag_7 : Int32 → Int32 → PF → PG → PR) (hag_7 : ∀ (x1 : Int32) (x2 : Int32) (F : PF) (G : PG) (hK : CZS F0 G0 F G), PP (ag_7 x1 x2 F G) (fun _ F' G' => CZS F0 G0 F' G')) (x1 : Int32) (x2 : Int32) (x5 : Int32) (F : PF) (G : PG) (hK : CZS F0 G0 F G) : PP (cb_X4_walk_150 fu ag_7 x1 x2 x5 F G) (fun _ F' G' => CZS F0 G0 F' G') := by
  unfold cb_X4_walk_150
  refine PP.ite (fun c_1 => ?_) (fun c_1 => ?_)
  · skip
    exact kzj_X4_walk_160 ag_7 hag_7 x1 x2 F G hK
  · skip
    exact kzj_X4_walk_164 ag_7 hag_7 x1 x2 F G hK
theorem kzj_X4_walk_147 {fu : Nat} {F0 : PF} {G0 : PG} (ag_7 : Int32 → Int32 → PF → PG → PR) (hag_7 : ∀ (x1 : Int32) (x2 : Int32) (F : PF) (G : PG) (hK : CZS F0 G0 F G), PP (ag_7 x1 x2 F G) (fun _ F' G' => CZS F0 G0 F' G')) (x1 : Int32) (x2 : Int32) (x5 : Int32) (z0 : Int32) (z1 : Int32) (z2 : Int32) (F : PF) (G : PG) (hK : CZS F0 G0 F G) : PP (cb_X4_walk_147 fu ag_7 x1 x2 x5 z0 z1 z2 F G) (fun _ F' G' => CZS F0 G0 F' G') := by
  unfold cb_X4_walk_147
  refine PP.bind (cw_X4_startFunction z2 z1 z0 F G) ?_
  intro r1 F1 G1 hK1
  dsimp only
  exact kzj_X4_walk_150 ag_7 hag_7 x1 x2 x5 F1 G1 (CZS.tr hK (CZS.k hK1 rfl))
theorem kzj_X4_walk_142 {fu : Nat} {F0 : PF} {G0 : PG} (ag_7 : Int32 → Int32 → PF → PG → PR) (hag_7 : ∀ (x1 : Int32) (x2 : Int32) (F : PF) (G : PG) (hK : CZS F0 G0 F G), PP (ag_7 x1 x2 F G) (fun _ F' G' => CZS F0 G0 F' G')) (x1 : Int32) (x2 : Int32) (x5 : Int32) (z0 : Int32) (z1 : Int32) (F : PF) (G : PG) (hK : CZS F0 G0 F G) : PP (cb_X4_walk_142 fu ag_7 x1 x2 x5 z0 z1 F G) (fun _ F' G' => CZS F0 G0 F' G') := by
  unfold cb_X4_walk_142
  exact kzj_X4_walk_147 ag_7 hag_7 x1 x2 x5 (1 : Int32) z0 z1 F G hK
theorem kzj_X4_walk_146 {fu : Nat} {F0 : PF} {G0 : PG} (ag_7 : Int32 → Int32 → PF → PG → PR) (hag_7 : ∀ (x1 : Int32) (x2 : Int32) (F : PF) (G : PG) (hK : CZS F0 G0 F G), PP (ag_7 x1 x2 F G) (fun _ F' G' => CZS F0 G0 F' G')) (x1 : Int32) (x2 : Int32) (x5 : Int32) (z0 : Int32) (z1 : Int32) (F : PF) (G : PG) (hK : CZS F0 G0 F G) : PP (cb_X4_walk_146 fu ag_7 x1 x2 x5 z0 z1 F G) (fun _ F' G' => CZS F0 G0 F' G') := by
  unfold cb_X4_walk_146
  exact kzj_X4_walk_147 ag_7 hag_7 x1 x2 x5 (0 : Int32) z0 z1 F G hK
theorem kzj_X4_walk_131 {fu : Nat} {F0 : PF} {G0 : PG} (ag_7 : Int32 → Int32 → PF → PG → PR) (hag_7 : ∀ (x1 : Int32) (x2 : Int32) (F : PF) (G : PG) (hK : CZS F0 G0 F G), PP (ag_7 x1 x2 F G) (fun _ F' G' => CZS F0 G0 F' G')) (x1 : Int32) (x2 : Int32) (x4 : Int32) (x5 : Int32) (x6 : Int32) (F : PF) (G : PG) (hK : CZS F0 G0 F G) : PP (cb_X4_walk_131 fu ag_7 x1 x2 x4 x5 x6 F G) (fun _ F' G' => CZS F0 G0 F' G') := by
  unfold cb_X4_walk_131
  refine PP.ite (fun c_1 => ?_) (fun c_1 => ?_)
  · skip
    exact kzj_X4_walk_142 ag_7 hag_7 x1 x2 x5 x6 x5 F G hK
  · skip
    exact kzj_X4_walk_146 ag_7 hag_7 x1 x2 x5 x6 x5 F G hK
theorem kzj_X4_walk_125 {fu : Nat} {F0 : PF} {G0 : PG} (ag_7 : Int32 → Int32 → PF → PG → PR) (hag_7 : ∀ (x1 : Int32) (x2 : Int32) (F : PF) (G : PG) (hK : CZS F0 G0 F G), PP (ag_7 x1 x2 F G) (fun _ F' G' => CZS F0 G0 F' G')) (x1 : Int32) (x2 : Int32) (x4 : Int32) (x5 : Int32) (x6 : Int32) (F : PF) (G : PG) (hK : CZS F0 G0 F G) : PP (cb_X4_walk_125 fu ag_7 x1 x2 x4 x5 x6 F G) (fun _ F' G' => CZS F0 G0 F' G') := by
  unfold cb_X4_walk_125
  refine PP.ite (fun c_1 => ?_) (fun c_1 => ?_)
  · skip
    exact kzj_X4_walk_179 ag_7 hag_7 x1 x2 x4 x5 x6 F G hK
  · skip
    exact kzj_X4_walk_131 ag_7 hag_7 x1 x2 x4 x5 x6 F G hK
theorem kzj_X4_walk_113 {fu : Nat} {F0 : PF} {G0 : PG} (ag_7 : Int32 → Int32 → PF → PG → PR) (hag_7 : ∀ (x1 : Int32) (x2 : Int32) (F : PF) (G : PG) (hK : CZS F0 G0 F G), PP (ag_7 x1 x2 F G) (fun _ F' G' => CZS F0 G0 F' G')) (x1 : Int32) (x2 : Int32) (x4 : Int32) (x5 : Int32) (x6 : Int32) (F : PF) (G : PG) (hK : CZS F0 G0 F G) : PP (cb_X4_walk_113 fu ag_7 x1 x2 x4 x5 x6 F G) (fun _ F' G' => CZS F0 G0 F' G') := by
  unfold cb_X4_walk_113
  refine PP.ite (fun c_1 => ?_) (fun c_1 => ?_)
  · skip
    exact kzj_X4_walk_125 ag_7 hag_7 x1 x2 x4 x5 x6 F G hK
  · skip
    exact kzj_X4_walk_179 ag_7 hag_7 x1 x2 x4 x5 x6 F G hK
theorem kzj_X4_walk_110 {fu : Nat} {F0 : PF} {G0 : PG} (ag_7 : Int32 → Int32 → PF → PG → PR) (hag_7 : ∀ (x1 : Int32) (x2 : Int32) (F : PF) (G : PG) (hK : CZS F0 G0 F G), PP (ag_7 x1 x2 F G) (fun _ F' G' => CZS F0 G0 F' G')) (x1 : Int32) (x2 : Int32) (F : PF) (G : PG) (hK : CZS F0 G0 F G) : PP (cb_X4_walk_110 fu ag_7 x1 x2 F G) (fun _ F' G' => CZS F0 G0 F' G') := by
  unfold cb_X4_walk_110
  exact kzj_X4_walk_245 ag_7 hag_7 x1 x2 F G hK
theorem kzj_X4_walk_102 {fu : Nat} {F0 : PF} {G0 : PG} (ag_7 : Int32 → Int32 → PF → PG → PR) (hag_7 : ∀ (x1 : Int32) (x2 : Int32) (F : PF) (G : PG) (hK : CZS F0 G0 F G), PP (ag_7 x1 x2 F G) (fun _ F' G' => CZS F0 G0 F' G')) (x1 : Int32) (x2 : Int32) (x5 : Int32) (x6 : Int32) (F : PF) (G : PG) (hK : CZS F0 G0 F G) : PP (cb_X4_walk_102 fu ag_7 x1 x2 x5 x6 F G) (fun _ F' G' => CZS F0 G0 F' G') := by
  unfold cb_X4_walk_102
  refine PP.bind (cw_X4_constTold x5 x6 F G) ?_
  intro r1 F1 G1 hK1
  dsimp only
  exact kzj_X4_walk_110 ag_7 hag_7 x1 x2 F1 G1 (CZS.tr hK (CZS.k hK1 rfl))
theorem kzj_X4_walk_98 {fu : Nat} {F0 : PF} {G0 : PG} (ag_7 : Int32 → Int32 → PF → PG → PR) (hag_7 : ∀ (x1 : Int32) (x2 : Int32) (F : PF) (G : PG) (hK : CZS F0 G0 F G), PP (ag_7 x1 x2 F G) (fun _ F' G' => CZS F0 G0 F' G')) (x1 : Int32) (x2 : Int32) (x3 : Int32) (x4 : Int32) (x5 : Int32) (x6 : Int32) (F : PF) (G : PG) (hK : CZS F0 G0 F G) : PP (cb_X4_walk_98 fu ag_7 x1 x2 x3 x4 x5 x6 F G) (fun _ F' G' => CZS F0 G0 F' G') := by
  unfold cb_X4_walk_98
  refine PP.ite (fun c_1 => ?_) (fun c_1 => ?_)
  · skip
    exact kzj_X4_walk_113 ag_7 hag_7 x1 x2 x4 x5 x6 F G hK
  · skip
    exact kzj_X4_walk_102 ag_7 hag_7 x1 x2 x5 x6 F G hK
theorem kzj_X4_walk_70 {fu : Nat} {F0 : PF} {G0 : PG} (ag_7 : Int32 → Int32 → PF → PG → PR) (hag_7 : ∀ (x1 : Int32) (x2 : Int32) (F : PF) (G : PG) (hK : CZS F0 G0 F G), PP (ag_7 x1 x2 F G) (fun _ F' G' => CZS F0 G0 F' G')) (x1 : Int32) (x2 : Int32) (x3 : Int32) (z0 : Int32) (F : PF) (G : PG) (hK : CZS F0 G0 F G) : PP (cb_X4_walk_70 fu ag_7 x1 x2 x3 z0 F G) (fun _ F' G' => CZS F0 G0 F' G') := by
  unfold cb_X4_walk_70
  refine PP.bind (cw_X2_expect (2 : Int32) F G) ?_
  intro r1 F1 G1 hK1
  dsimp only
  exact kzj_X4_walk_98 ag_7 hag_7 x1 x2 x3 z0 (F 12) (F 13) F1 G1 (CZS.tr hK (CZS.k hK1 rfl))
theorem kzj_X4_walk_65 {fu : Nat} {F0 : PF} {G0 : PG} (ag_7 : Int32 → Int32 → PF → PG → PR) (hag_7 : ∀ (x1 : Int32) (x2 : Int32) (F : PF) (G : PG) (hK : CZS F0 G0 F G), PP (ag_7 x1 x2 F G) (fun _ F' G' => CZS F0 G0 F' G')) (x1 : Int32) (x2 : Int32) (x3 : Int32) (F : PF) (G : PG) (hK : CZS F0 G0 F G) : PP (cb_X4_walk_65 fu ag_7 x1 x2 x3 F G) (fun _ F' G' => CZS F0 G0 F' G') := by
  unfold cb_X4_walk_65
  refine PP.bind (cw_X4_kindWord x3 F G) ?_
  intro r1 F1 G1 hK1
  dsimp only
  exact kzj_X4_walk_70 ag_7 hag_7 x1 x2 x3 r1 F1 G1 (CZS.tr hK (CZS.k hK1 rfl))
theorem kzj_X4_walk_58 {fu : Nat} {F0 : PF} {G0 : PG} (ag_7 : Int32 → Int32 → PF → PG → PR) (hag_7 : ∀ (x1 : Int32) (x2 : Int32) (F : PF) (G : PG) (hK : CZS F0 G0 F G), PP (ag_7 x1 x2 F G) (fun _ F' G' => CZS F0 G0 F' G')) (x1 : Int32) (x2 : Int32) (x3 : Int32) (F : PF) (G : PG) (hK : CZS F0 G0 F G) : PP (cb_X4_walk_58 fu ag_7 x1 x2 x3 F G) (fun _ F' G' => CZS F0 G0 F' G') := by
  unfold cb_X4_walk_58
  refine PP.bind (cw_X2_next F G) ?_
  intro r1 F1 G1 hK1
  dsimp only
  exact kzj_X4_walk_65 ag_7 hag_7 x1 x2 x3 F1 G1 (CZS.tr hK (CZS.k hK1 rfl))
theorem kzj_X4_walk_53 {fu : Nat} {F0 : PF} {G0 : PG} (ag_7 : Int32 → Int32 → PF → PG → PR) (hag_7 : ∀ (x1 : Int32) (x2 : Int32) (F : PF) (G : PG) (hK : CZS F0 G0 F G), PP (ag_7 x1 x2 F G) (fun _ F' G' => CZS F0 G0 F' G')) (x1 : Int32) (x2 : Int32) (z0 : Int32) (F : PF) (G : PG) (hK : CZS F0 G0 F G) : PP (cb_X4_walk_53 fu ag_7 x1 x2 z0 F G) (fun _ F' G' => CZS F0 G0 F' G') := by
  unfold cb_X4_walk_53
  refine PP.ite (fun c_1 => ?_) (fun c_1 => ?_)
  · skip
    exact kzj_X4_walk_65 ag_7 hag_7 x1 x2 z0 F G hK
  · skip
    exact kzj_X4_walk_58 ag_7 hag_7 x1 x2 z0 F G hK
theorem kzj_X4_walk_48 {fu : Nat} {F0 : PF} {G0 : PG} (ag_7 : Int32 → Int32 → PF → PG → PR) (hag_7 : ∀ (x1 : Int32) (x2 : Int32) (F : PF) (G : PG) (hK : CZS F0 G0 F G), PP (ag_7 x1 x2 F G) (fun _ F' G' => CZS F0 G0 F' G')) (x1 : Int32) (x2 : Int32) (F : PF) (G : PG) (hK : CZS F0 G0 F G) : PP (cb_X4_walk_48 fu ag_7 x1 x2 F G) (fun _ F' G' => CZS F0 G0 F' G') := by
  unfold cb_X4_walk_48
  exact kzj_X4_walk_53 ag_7 hag_7 x1 x2 (1 : Int32) F G hK
theorem kzj_X4_walk_52 {fu : Nat} {F0 : PF} {G0 : PG} (ag_7 : Int32 → Int32 → PF → PG → PR) (hag_7 : ∀ (x1 : Int32) (x2 : Int32) (F : PF) (G : PG) (hK : CZS F0 G0 F G), PP (ag_7 x1 x2 F G) (fun _ F' G' => CZS F0 G0 F' G')) (x1 : Int32) (x2 : Int32) (F : PF) (G : PG) (hK : CZS F0 G0 F G) : PP (cb_X4_walk_52 fu ag_7 x1 x2 F G) (fun _ F' G' => CZS F0 G0 F' G') := by
  unfold cb_X4_walk_52
  exact kzj_X4_walk_53 ag_7 hag_7 x1 x2 (0 : Int32) F G hK
theorem kzj_X4_walk_36 {fu : Nat} {F0 : PF} {G0 : PG} (ag_7 : Int32 → Int32 → PF → PG → PR) (hag_7 : ∀ (x1 : Int32) (x2 : Int32) (F : PF) (G : PG) (hK : CZS F0 G0 F G), PP (ag_7 x1 x2 F G) (fun _ F' G' => CZS F0 G0 F' G')) (x1 : Int32) (x2 : Int32) (F : PF) (G : PG) (hK : CZS F0 G0 F G) : PP (cb_X4_walk_36 fu ag_7 x1 x2 F G) (fun _ F' G' => CZS F0 G0 F' G') := by
  unfold cb_X4_walk_36
  refine PP.ite (fun c_1 => ?_) (fun c_1 => ?_)
  · skip
    exact kzj_X4_walk_48 ag_7 hag_7 x1 x2 F G hK
  · skip
    exact kzj_X4_walk_52 ag_7 hag_7 x1 x2 F G hK
theorem kzj_X4_walk_24 {fu : Nat} {F0 : PF} {G0 : PG} (ag_7 : Int32 → Int32 → PF → PG → PR) (hag_7 : ∀ (x1 : Int32) (x2 : Int32) (F : PF) (G : PG) (hK : CZS F0 G0 F G), PP (ag_7 x1 x2 F G) (fun _ F' G' => CZS F0 G0 F' G')) (x1 : Int32) (x2 : Int32) (F : PF) (G : PG) (hK : CZS F0 G0 F G) : PP (cb_X4_walk_24 fu ag_7 x1 x2 F G) (fun _ F' G' => CZS F0 G0 F' G') := by
  unfold cb_X4_walk_24
  refine PP.ite (fun c_1 => ?_) (fun c_1 => ?_)
  · skip
    exact kzj_X4_walk_251 x1 F G hK
  · skip
    exact kzj_X4_walk_36 ag_7 hag_7 x1 x2 F G hK
theorem kzj_X4_walk_14 {fu : Nat} {F0 : PF} {G0 : PG} (ag_7 : Int32 → Int32 → PF → PG → PR) (hag_7 : ∀ (x1 : Int32) (x2 : Int32) (F : PF) (G : PG) (hK : CZS F0 G0 F G), PP (ag_7 x1 x2 F G) (fun _ F' G' => CZS F0 G0 F' G')) (x1 : Int32) (x2 : Int32) (F : PF) (G : PG) (hK : CZS F0 G0 F G) : PP (cb_X4_walk_14 fu ag_7 x1 x2 F G) (fun _ F' G' => CZS F0 G0 F' G') := by
  unfold cb_X4_walk_14
  refine PP.ite (fun c_1 => ?_) (fun c_1 => ?_)
  · skip
    exact kzj_X4_walk_251 x1 F G hK
  · skip
    exact kzj_X4_walk_24 ag_7 hag_7 x1 x2 F G hK
theorem kzz_X4_walk_7 {fu : Nat} {F0 : PF} {G0 : PG} : ∀ (n : Nat) (x1 : Int32) (x2 : Int32) (F : PF) (G : PG) (hK : CZS F0 G0 F G), PP (cl_X4_walk_7 fu n x1 x2 F G) (fun _ F' G' => CZS F0 G0 F' G') := by
  intro n
  induction n with
  | zero =>
    intro x1 x2 F G hK
    exact PP.no
  | succ n ihn =>
    intro x1 x2 F G hK
    show PP (cb_X4_walk_7 fu (cl_X4_walk_7 fu n) x1 x2 F G) _
    unfold cb_X4_walk_7
    refine PP.ite (fun c_1 => ?_) (fun c_1 => ?_)
    · skip
      exact kzj_X4_walk_251 x1 F G hK
    · skip
      exact kzj_X4_walk_14 (cl_X4_walk_7 fu n) ihn x1 x2 F G hK
theorem kzj_X4_walk_5 {fu : Nat} {F0 : PF} {G0 : PG} (x1 : Int32) (F : PF) (G : PG) (hK : CZS F0 G0 F G) : PP (cb_X4_walk_5 fu x1 F G) (fun _ F' G' => CZS F0 G0 F' G') := by
  unfold cb_X4_walk_5
  exact kzz_X4_walk_7 fu x1 (0 : Int32) F G hK
/-- the first pass leaves the first words 0 -/
theorem kz_walk0 {fu : Nat} (F : PF) (G : PG) (h : ∀ i : Nat, i < 2000 → G 86 i = 0) : PP (cf_X4_walk fu 0 F G) (fun _ F' G' => ∀ i : Nat, i < 2000 → G' 86 i = 0) := by
  unfold cf_X4_walk cb_X4_walk_0
  have s : PP (cf_X4_start fu 0 F G) (fun _ F' G' => jZ0 F' G') := by
    unfold cf_X4_start cb_X4_start_0 cb_X4_start_5 cb_X4_start_10 cb_X4_start_15 cb_X4_start_20 cb_X4_start_28 cb_X4_start_36 cb_X4_start_44
    have b0 : b01 (0 : Int32) = true := rfl
    rw [if_pos b0, if_pos b0]
    have q : jZ0 (fup (fup (fup (fup (fup (fup (fup F 28 0) 29 0) 30 (-1)) 31 (-1)) 42 0) 45 0) 7 0) G := ⟨rfl, h⟩
    generalize fup (fup (fup (fup (fup (fup (fup F 28 0) 29 0) 30 (-1)) 31 (-1)) 42 0) 45 0) 7 0 = F1 at q ⊢
    refine PP.bind (cw_X3_start F1 G) (fun r2 F2 G2 k2 => ?_)
    dsimp only
    unfold cb_X4_start_51
    refine PP.bind (cw_X2_start F2 G2) (fun r3 F3 G3 k3 => ?_)
    unfold cb_X4_start_58
    exact PP.ret ((q.x k2 rfl).x k3 rfl)
  refine PP.bind s (fun r1 F1 G1 q => ?_)
  exact PP.mono (kzj_X4_walk_5 0 F1 G1 CZS.rf) (fun _ F' G' w => (w q).2)
