theorem N34.g {k i : Nat} {v : Int32} {G : PG} (e : k ≠ 34) (h : N34 G) : N34 (gup G k i v) := by
  intro j
  rw [gup_o (Ne.symm e)]
  exact h j
theorem N34.kx {a b : List Nat} {F F1 : PF} {G G1 : PG} (h : N34 G) (K : KX a b F G F1 G1) (e : b.contains 34 = false) : N34 G1 := by
  intro j
  rw [K.2 34 e]
  exact h j
theorem ntj_tells_293 {fu : Nat} (z0 : Int32) (F : PF) (G : PG) (hK : N34 G) : PP (mb_tells_293 fu z0 F G) (fun _ _ G' => N34 G') := by
  unfold mb_tells_293
  refine PP.bz (fun _ => ?_)
  refine PP.ret ?_
  exact hK
theorem ntj_tells_292 {fu : Nat} (F : PF) (G : PG) (hK : N34 G) : PP (mb_tells_292 fu F G) (fun _ _ G' => N34 G') := by
  unfold mb_tells_292
  exact ntj_tells_293 (0 : Int32) F G hK
theorem ntj_tells_269 {fu : Nat} (x3 : Int32) (x4 : Int32) (F : PF) (G : PG) (hK : N34 G) : PP (mb_tells_269 fu x3 x4 F G) (fun _ _ G' => N34 G') := by
  unfold mb_tells_269
  refine PP.bind (mw_array x4 x3 F G) ?_
  intro r1 F1 G1 hK1
  dsimp only
  unfold mb_tells_276
  refine PP.ite (fun c_2 => ?_) (fun c_2 => ?_)
  · skip
    exact ntj_tells_292 F1 G1 (N34.kx hK hK1 rfl)
  · skip
    unfold mb_tells_279
    refine PP.bind (mw_sign (29 : Int32) F1 G1) ?_
    intro r3 F3 G3 hK3
    dsimp only
    unfold mb_tells_285
    refine PP.ite (fun c_4 => ?_) (fun c_4 => ?_)
    · skip
      exact ntj_tells_292 F3 G3 (N34.kx (N34.kx hK hK1 rfl) hK3 rfl)
    · skip
      unfold mb_tells_288
      exact ntj_tells_293 (1 : Int32) F3 G3 (N34.kx (N34.kx hK hK1 rfl) hK3 rfl)
theorem ntj_tells_239 {fu : Nat} (x4 : Int32) (x5 : Int32) (F : PF) (G : PG) (hK : N34 G) : PP (mb_tells_239 fu x4 x5 F G) (fun _ _ G' => N34 G') := by
  unfold mb_tells_239
  unfold mb_tells_256
  refine PP.ix (fun _ => ?_)
  refine PP.bind (mw_declare x4 (1 : Int32) (0 : Int32) (G 39 (if (2000 : Int32) < x5 then (2000 : Int32) else x5).toNatClampNeg) (1 : Int32) (0 : Int32) F G) ?_
  intro r1 F1 G1 hK1
  dsimp only
  unfold mb_tells_262
  refine PP.bind (mw_sign (29 : Int32) F1 G1) ?_
  intro r2 F2 G2 hK2
  dsimp only
  unfold mb_tells_268
  refine PP.bz (fun _ => ?_)
  refine PP.ret ?_
  exact (N34.kx (N34.kx hK hK1 rfl) hK2 rfl)
theorem ntj_tells_164 {fu : Nat} (x3 : Int32) (x4 : Int32) (F : PF) (G : PG) (hK : N34 G) : PP (mb_tells_164 fu x3 x4 F G) (fun _ _ G' => N34 G') := by
  unfold mb_tells_164
  refine PP.ite (fun c_1 => ?_) (fun c_1 => ?_)
  · skip
    unfold mb_tells_168
    refine PP.bind (mw_isSign (32 : Int32) F G) ?_
    intro r2 F2 G2 hK2
    dsimp only
    unfold mb_tells_174
    refine PP.ite (fun c_3 => ?_) (fun c_3 => ?_)
    · skip
      exact ntj_tells_269 x3 x4 F2 G2 (N34.kx hK hK2 rfl)
    · skip
      unfold mb_tells_177
      refine PP.bind (mw_globalAt x4 F2 G2) ?_
      intro r4 F4 G4 hK4
      dsimp only
      unfold mb_tells_183
      unfold mb_tells_195
      refine PP.bind (mw_value (fup F4 42 ((F4 42) + (1 : Int32))) G4) ?_
      intro r5 F5 G5 hK5
      dsimp only
      unfold mb_tells_199
      refine PP.ite (fun c_6 => ?_) (fun c_6 => ?_)
      · skip
        unfold mb_tells_210
        refine PP.ite (fun c_7 => ?_) (fun c_7 => ?_)
        · skip
          exact ntj_tells_239 x4 r4 F5 G5 (N34.kx (N34.kx (N34.kx hK hK2 rfl) hK4 rfl) hK5 rfl)
        · skip
          unfold mb_tells_217
          refine PP.ite (fun c_8 => ?_) (fun c_8 => ?_)
          · skip
            exact ntj_tells_239 x4 r4 F5 G5 (N34.kx (N34.kx (N34.kx hK hK2 rfl) hK4 rfl) hK5 rfl)
          · skip
            unfold mb_tells_225
            refine PP.ix (fun _ => ?_)
            refine PP.ix (fun _ => ?_)
            exact ntj_tells_239 x4 r4 F5 (gup G5 41 (G5 39 r4.toNatClampNeg).toNatClampNeg r5) (N34.g (k := 41) (by decide) (N34.kx (N34.kx (N34.kx hK hK2 rfl) hK4 rfl) hK5 rfl))
      · skip
        unfold mb_tells_208
        refine PP.ret ?_
        exact (N34.kx (N34.kx (N34.kx hK hK2 rfl) hK4 rfl) hK5 rfl)
  · skip
    exact ntj_tells_269 x3 x4 F G hK
theorem ntj_tells_163 {fu : Nat} (z0 : Int32) (F : PF) (G : PG) (hK : N34 G) : PP (mb_tells_163 fu z0 F G) (fun _ _ G' => N34 G') := by
  unfold mb_tells_163
  refine PP.bz (fun _ => ?_)
  refine PP.ret ?_
  exact hK
theorem ntj_tells_162 {fu : Nat} (F : PF) (G : PG) (hK : N34 G) : PP (mb_tells_162 fu F G) (fun _ _ G' => N34 G') := by
  unfold mb_tells_162
  exact ntj_tells_163 (0 : Int32) F G hK
theorem ntj_tells_117 {fu : Nat} (x2 : Int32) (x3 : Int32) (x4 : Int32) (F : PF) (G : PG) (hK : N34 G) : PP (mb_tells_117 fu x2 x3 x4 F G) (fun _ _ G' => N34 G') := by
  unfold mb_tells_117
  refine PP.ite (fun c_1 => ?_) (fun c_1 => ?_)
  · skip
    unfold mb_tells_127
    refine PP.ite (fun c_2 => ?_) (fun c_2 => ?_)
    · skip
      unfold mb_tells_131
      refine PP.bind (mw_isSign (29 : Int32) F G) ?_
      intro r3 F3 G3 hK3
      dsimp only
      unfold mb_tells_137
      refine PP.ite (fun c_4 => ?_) (fun c_4 => ?_)
      · skip
        exact ntj_tells_164 x3 x4 F3 G3 (N34.kx hK hK3 rfl)
      · skip
        unfold mb_tells_140
        refine PP.bind (mw_globalInt x4 F3 G3) ?_
        intro r5 F5 G5 hK5
        dsimp only
        unfold mb_tells_146
        refine PP.ite (fun c_6 => ?_) (fun c_6 => ?_)
        · skip
          exact ntj_tells_162 F5 G5 (N34.kx (N34.kx hK hK3 rfl) hK5 rfl)
        · skip
          unfold mb_tells_149
          refine PP.bind (mw_sign (29 : Int32) F5 G5) ?_
          intro r7 F7 G7 hK7
          dsimp only
          unfold mb_tells_155
          refine PP.ite (fun c_8 => ?_) (fun c_8 => ?_)
          · skip
            exact ntj_tells_162 F7 G7 (N34.kx (N34.kx (N34.kx hK hK3 rfl) hK5 rfl) hK7 rfl)
          · skip
            unfold mb_tells_158
            exact ntj_tells_163 (1 : Int32) F7 G7 (N34.kx (N34.kx (N34.kx hK hK3 rfl) hK5 rfl) hK7 rfl)
    · skip
      exact ntj_tells_164 x3 x4 F G hK
  · skip
    unfold mb_tells_121
    refine PP.bind (mw_fails (2 : Int32) F G) ?_
    intro r9 F9 G9 hK9
    dsimp only
    unfold mb_tells_126
    refine PP.bz (fun _ => ?_)
    refine PP.ret ?_
    exact (N34.kx hK hK9 rfl)
theorem ntj_tells_70 {fu : Nat} (x1 : Int32) (x2 : Int32) (x3 : Int32) (F : PF) (G : PG) (hK : N34 G) : PP (mb_tells_70 fu x1 x2 x3 F G) (fun _ _ G' => N34 G') := by
  unfold mb_tells_70
  unfold mb_tells_80
  refine PP.bind (mw_name (fup F 42 ((F 42) + (1 : Int32))) G) ?_
  intro r1 F1 G1 hK1
  dsimp only
  unfold mb_tells_84
  refine PP.ite (fun c_2 => ?_) (fun c_2 => ?_)
  · skip
    unfold mb_tells_95
    refine PP.ite (fun c_3 => ?_) (fun c_3 => ?_)
    · skip
      unfold mb_tells_99
      refine PP.bind (mw_isSign (22 : Int32) F1 G1) ?_
      intro r4 F4 G4 hK4
      dsimp only
      unfold mb_tells_105
      refine PP.ite (fun c_5 => ?_) (fun c_5 => ?_)
      · skip
        exact ntj_tells_117 x2 x3 r1 F4 G4 (N34.kx (N34.kx hK hK1 rfl) hK4 rfl)
      · skip
        unfold mb_tells_108
        refine PP.bind (nn_function x1 r1 x2 F4 G4 (N34.kx (N34.kx hK hK1 rfl) hK4 rfl)) ?_
        intro r6 F6 G6 hK6
        dsimp only
        unfold mb_tells_116
        refine PP.bz (fun _ => ?_)
        refine PP.ret ?_
        exact hK6
    · skip
      exact ntj_tells_117 x2 x3 r1 F1 G1 (N34.kx hK hK1 rfl)
  · skip
    unfold mb_tells_93
    refine PP.ret ?_
    exact (N34.kx hK hK1 rfl)
theorem ntj_tells_35 {fu : Nat} (z0 : Int32) (F : PF) (G : PG) (hK : N34 G) : PP (mb_tells_35 fu z0 F G) (fun _ _ G' => N34 G') := by
  unfold mb_tells_35
  refine PP.bz (fun _ => ?_)
  refine PP.ret ?_
  exact hK
theorem ntj_tells_34 {fu : Nat} (F : PF) (G : PG) (hK : N34 G) : PP (mb_tells_34 fu F G) (fun _ _ G' => N34 G') := by
  unfold mb_tells_34
  exact ntj_tells_35 (0 : Int32) F G hK
theorem nt_tells {fu : Nat} (x1 : Int32) (F : PF) (G : PG) (hK : N34 G) : PP (mf_tells fu x1 F G) (fun _ _ G' => N34 G') := by
  unfold mf_tells
  unfold mb_tells_0
  unfold mb_tells_5
  refine PP.bind (mw_word (3 : Int32) (0 : Int32) (fup F 61 (0 : Int32)) G) ?_
  intro r1 F1 G1 hK1
  dsimp only
  unfold mb_tells_11
  refine PP.ite (fun c_2 => ?_) (fun c_2 => ?_)
  · skip
    unfold mb_tells_36
    refine PP.bind (mw_isWord (2 : Int32) F1 G1) ?_
    intro r3 F3 G3 hK3
    dsimp only
    unfold mb_tells_41
    refine PP.bind (mw_isWord (1 : Int32) F3 G3) ?_
    intro r4 F4 G4 hK4
    dsimp only
    unfold mb_tells_47
    refine PP.ite (fun c_5 => ?_) (fun c_5 => ?_)
    · skip
      unfold mb_tells_52
      refine PP.ite (fun c_6 => ?_) (fun c_6 => ?_)
      · skip
        unfold mb_tells_56
        refine PP.bind (mw_isWord (0 : Int32) F4 G4) ?_
        intro r7 F7 G7 hK7
        dsimp only
        unfold mb_tells_61
        refine PP.ite (fun c_8 => ?_) (fun c_8 => ?_)
        · skip
          unfold mb_tells_64
          refine PP.bind (mw_fails (2 : Int32) F7 G7) ?_
          intro r9 F9 G9 hK9
          dsimp only
          unfold mb_tells_69
          refine PP.bz (fun _ => ?_)
          refine PP.ret ?_
          exact (N34.kx (N34.kx (N34.kx (N34.kx (N34.kx hK hK1 rfl) hK3 rfl) hK4 rfl) hK7 rfl) hK9 rfl)
        · skip
          exact ntj_tells_70 x1 r3 r4 F7 G7 (N34.kx (N34.kx (N34.kx (N34.kx hK hK1 rfl) hK3 rfl) hK4 rfl) hK7 rfl)
      · skip
        exact ntj_tells_70 x1 r3 r4 F4 G4 (N34.kx (N34.kx (N34.kx hK hK1 rfl) hK3 rfl) hK4 rfl)
    · skip
      exact ntj_tells_70 x1 r3 r4 F4 G4 (N34.kx (N34.kx (N34.kx hK hK1 rfl) hK3 rfl) hK4 rfl)
  · skip
    unfold mb_tells_14
    refine PP.bind (mw_word (0 : Int32) (1 : Int32) F1 G1) ?_
    intro r10 F10 G10 hK10
    dsimp only
    unfold mb_tells_20
    refine PP.ite (fun c_11 => ?_) (fun c_11 => ?_)
    · skip
      exact ntj_tells_34 F10 G10 (N34.kx (N34.kx hK hK1 rfl) hK10 rfl)
    · skip
      unfold mb_tells_23
      refine PP.bind (mw_constantTold F10 G10) ?_
      intro r12 F12 G12 hK12
      dsimp only
      unfold mb_tells_27
      refine PP.ite (fun c_13 => ?_) (fun c_13 => ?_)
      · skip
        exact ntj_tells_34 F12 G12 (N34.kx (N34.kx (N34.kx hK hK1 rfl) hK10 rfl) hK12 rfl)
      · skip
        unfold mb_tells_30
        exact ntj_tells_35 (1 : Int32) F12 G12 (N34.kx (N34.kx (N34.kx hK hK1 rfl) hK10 rfl) hK12 rfl)
theorem ntj_texts_155 {fu : Nat} (z0 : Int32) (F : PF) (G : PG) (hK : N34 G) : PP (mb_texts_155 fu z0 F G) (fun _ _ G' => N34 G') := by
  unfold mb_texts_155
  refine PP.bz (fun _ => ?_)
  refine PP.ret ?_
  exact hK
theorem ntj_texts_150 {fu : Nat} (F : PF) (G : PG) (hK : N34 G) : PP (mb_texts_150 fu F G) (fun _ _ G' => N34 G') := by
  unfold mb_texts_150
  exact ntj_texts_155 (1 : Int32) F G hK
theorem ntj_texts_154 {fu : Nat} (F : PF) (G : PG) (hK : N34 G) : PP (mb_texts_154 fu F G) (fun _ _ G' => N34 G') := by
  unfold mb_texts_154
  exact ntj_texts_155 (0 : Int32) F G hK
theorem ntj_texts_127 {fu : Nat} (F : PF) (G : PG) (hK : N34 G) : PP (mb_texts_127 fu F G) (fun _ _ G' => N34 G') := by
  unfold mb_texts_127
  refine PP.ite (fun c_1 => ?_) (fun c_1 => ?_)
  · skip
    unfold mb_texts_134
    refine PP.ite (fun c_2 => ?_) (fun c_2 => ?_)
    · skip
      exact ntj_texts_150 F G hK
    · skip
      unfold mb_texts_142
      refine PP.bind (mw_fails (1 : Int32) F G) ?_
      intro r3 F3 G3 hK3
      dsimp only
      unfold mb_texts_147
      refine PP.ite (fun c_4 => ?_) (fun c_4 => ?_)
      · skip
        exact ntj_texts_154 F3 G3 (N34.kx hK hK3 rfl)
      · skip
        exact ntj_texts_150 F3 G3 (N34.kx hK hK3 rfl)
  · skip
    exact ntj_texts_154 F G hK
theorem ntj_texts_122 {fu : Nat} (ag_87 : Int32 → Int32 → PF → PG → PR) (hag_87 : ∀ (x1 : Int32) (x2 : Int32) (F : PF) (G : PG) (hK : N34 G), PP (ag_87 x1 x2 F G) (fun _ _ G' => N34 G')) (x2 : Int32) (z0 : Int32) (z1 : Int32) (F : PF) (G : PG) (hK : N34 G) : PP (mb_texts_122 fu ag_87 x2 z0 z1 F G) (fun _ _ G' => N34 G') := by
  unfold mb_texts_122
  exact hag_87 (z1 + z0) x2 F G hK
theorem ntz_texts_87 {fu : Nat} : ∀ (n : Nat) (x1 : Int32) (x2 : Int32) (F : PF) (G : PG) (hK : N34 G), PP (ml_texts_87 fu n x1 x2 F G) (fun _ _ G' => N34 G') := by
  intro n
  induction n with
  | zero =>
    intro x1 x2 F G hK
    exact PP.no
  | succ n ihn =>
    intro x1 x2 F G hK
    show PP (mb_texts_87 fu (ml_texts_87 fu n) x1 x2 F G) _
    unfold mb_texts_87
    refine PP.ite (fun c_1 => ?_) (fun c_1 => ?_)
    · skip
      exact ntj_texts_127 F G hK
    · skip
      unfold mb_texts_91
      refine PP.ix (fun _ => ?_)
      refine PP.ite (fun c_2 => ?_) (fun c_2 => ?_)
      · skip
        exact ntj_texts_127 F G hK
      · skip
        unfold mb_texts_103
        refine PP.bind (nt_tells x1 F G hK) ?_
        intro r3 F3 G3 hK3
        dsimp only
        unfold mb_texts_108
        refine PP.ite (fun c_4 => ?_) (fun c_4 => ?_)
        · skip
          unfold mb_texts_121
          exact ntj_texts_122 (ml_texts_87 fu n) ihn r3 (0 : Int32) x1 F3 G3 hK3
        · skip
          unfold mb_texts_117
          exact ntj_texts_122 (ml_texts_87 fu n) ihn r3 (1 : Int32) x1 F3 G3 hK3
theorem ntj_texts_82 {fu : Nat} (x1 : Int32) (z0 : Int32) (F : PF) (G : PG) (hK : N34 G) : PP (mb_texts_82 fu x1 z0 F G) (fun _ _ G' => N34 G') := by
  unfold mb_texts_82
  unfold mb_texts_85
  exact ntz_texts_87 fu x1 (1 : Int32) (fup F 35 z0) G hK
theorem ntj_texts_61 {fu : Nat} (z0 : Int32) (F : PF) (G : PG) (hK : N34 G) : PP (mb_texts_61 fu z0 F G) (fun _ _ G' => N34 G') := by
  unfold mb_texts_61
  unfold mb_texts_64
  refine PP.ite (fun c_1 => ?_) (fun c_1 => ?_)
  · skip
    unfold mb_texts_74
    exact ntj_texts_82 (0 : Int32) (0 : Int32) (fup F 24 z0) G hK
  · skip
    unfold mb_texts_78
    exact ntj_texts_82 (0 : Int32) (F 35) (fup F 24 z0) G hK
theorem nt_texts {fu : Nat} (F : PF) (G : PG) (hK : N34 G) : PP (mf_texts fu F G) (fun _ _ G' => N34 G') := by
  unfold mf_texts
  unfold mb_texts_0
  unfold mb_texts_5
  unfold mb_texts_10
  unfold mb_texts_15
  unfold mb_texts_20
  unfold mb_texts_25
  unfold mb_texts_30
  unfold mb_texts_35
  unfold mb_texts_40
  unfold mb_texts_45
  refine PP.ite (fun c_1 => ?_) (fun c_1 => ?_)
  · skip
    unfold mb_texts_53
    exact ntj_texts_61 (0 : Int32) (fup (fup (fup (fup (fup (fup (fup (fup (fup F 42 (0 : Int32)) 43 (0 : Int32)) 14 (0 : Int32)) 15 (0 : Int32)) 60 (0 : Int32)) 70 (0 : Int32)) 36 (0 : Int32)) 37 (0 : Int32)) 50 (-1 : Int32)) G hK
  · skip
    unfold mb_texts_57
    exact ntj_texts_61 (F 24) (fup (fup (fup (fup (fup (fup (fup (fup (fup F 42 (0 : Int32)) 43 (0 : Int32)) 14 (0 : Int32)) 15 (0 : Int32)) 60 (0 : Int32)) 70 (0 : Int32)) 36 (0 : Int32)) 37 (0 : Int32)) 50 (-1 : Int32)) G hK
