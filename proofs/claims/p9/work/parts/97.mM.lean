theorem mmj_argument_12 {fu : Nat} (rc : RC) (ihM : mMOI rc) {F0 : PF} (F : PF) (G : PG) (hM : MO F0 F) : PP (mb_argument_12 fu rc F G) (fun _ F' _ => MO F0 F') := by
  unfold mb_argument_12
  refine PP.bind (ihM 4 0 0 F G) ?_
  intro r1 F1 G1 hM1
  dsimp only
  unfold mb_argument_16
  refine PP.bz (fun _ => ?_)
  refine PP.ret ?_
  exact (MO.tr hM hM1)
theorem mmj_argument_314 {fu : Nat} (rc : RC) (ihM : mMOI rc) {F0 : PF} (z0 : Int32) (z1 : Int32) (F : PF) (G : PG) (hM : MO F0 F) : PP (mb_argument_314 fu rc z0 z1 F G) (fun _ F' _ => MO F0 F') := by
  unfold mb_argument_314
  refine PP.ix (fun _ => ?_)
  unfold mb_argument_315
  refine PP.ret ?_
  exact hM
theorem mmj_argument_313 {fu : Nat} (rc : RC) (ihM : mMOI rc) {F0 : PF} (z0 : Int32) (F : PF) (G : PG) (hM : MO F0 F) : PP (mb_argument_313 fu rc z0 F G) (fun _ F' _ => MO F0 F') := by
  unfold mb_argument_313
  exact mmj_argument_314 rc ihM (0 : Int32) z0 F G hM
theorem mmj_argument_282 {fu : Nat} (rc : RC) (ihM : mMOI rc) {F0 : PF} (x6 : Int32) (z0 : Int32) (z1 : Int32) (z2 : Int32) (F : PF) (G : PG) (hM : MO F0 F) : PP (mb_argument_282 fu rc x6 z0 z1 z2 F G) (fun _ F' _ => MO F0 F') := by
  unfold mb_argument_282
  refine PP.bind (mw_step z2 z1 z0 F G) ?_
  intro r1 F1 G1 hM1
  dsimp only
  unfold mb_argument_285
  refine PP.ite (fun c_2 => ?_) (fun c_2 => ?_)
  · skip
    exact mmj_argument_313 rc ihM r1 F1 G1 (MO.tr hM (MO.kx hM1 rfl rfl))
  · skip
    unfold mb_argument_299
    refine PP.ix (fun _ => ?_)
    refine PP.ite (fun c_3 => ?_) (fun c_3 => ?_)
    · skip
      exact mmj_argument_313 rc ihM r1 F1 G1 (MO.tr hM (MO.kx hM1 rfl rfl))
    · skip
      unfold mb_argument_309
      exact mmj_argument_314 rc ihM (1 : Int32) r1 F1 G1 (MO.tr hM (MO.kx hM1 rfl rfl))
theorem mmj_argument_265 {fu : Nat} (rc : RC) (ihM : mMOI rc) {F0 : PF} (x6 : Int32) (z0 : Int32) (z1 : Int32) (F : PF) (G : PG) (hM : MO F0 F) : PP (mb_argument_265 fu rc x6 z0 z1 F G) (fun _ F' _ => MO F0 F') := by
  unfold mb_argument_265
  refine PP.ite (fun c_1 => ?_) (fun c_1 => ?_)
  · skip
    unfold mb_argument_271
    exact mmj_argument_282 rc ihM x6 (1 : Int32) z0 z1 F G hM
  · skip
    unfold mb_argument_275
    refine PP.ix (fun _ => ?_)
    exact mmj_argument_282 rc ihM x6 (G 21 x6.toNatClampNeg) z0 z1 F G hM
theorem mmj_argument_236 {fu : Nat} (rc : RC) (ihM : mMOI rc) {F0 : PF} (x6 : Int32) (F : PF) (G : PG) (hM : MO F0 F) : PP (mb_argument_236 fu rc x6 F G) (fun _ F' _ => MO F0 F') := by
  unfold mb_argument_236
  unfold mb_argument_246
  refine PP.ite (fun c_1 => ?_) (fun c_1 => ?_)
  · skip
    unfold mb_argument_254
    exact mmj_argument_265 rc ihM x6 (0 : Int32) (5 : Int32) (fup F 42 ((F 42) + (1 : Int32))) G (MO.f (k := 42) (by decide) (by decide) hM)
  · skip
    unfold mb_argument_258
    refine PP.ix (fun _ => ?_)
    exact mmj_argument_265 rc ihM x6 (G 20 x6.toNatClampNeg) (5 : Int32) (fup F 42 ((F 42) + (1 : Int32))) G (MO.f (k := 42) (by decide) (by decide) hM)
theorem mmj_argument_229 {fu : Nat} (rc : RC) (ihM : mMOI rc) {F0 : PF} (x3 : Int32) (x6 : Int32) (F : PF) (G : PG) (hM : MO F0 F) : PP (mb_argument_229 fu rc x3 x6 F G) (fun _ F' _ => MO F0 F') := by
  unfold mb_argument_229
  refine PP.bind (mm_note (7 : Int32) x3 (by decide) F G) ?_
  intro r1 F1 G1 hM1
  dsimp only
  exact mmj_argument_236 rc ihM x6 F1 G1 (MO.tr hM hM1)
theorem mmj_argument_226 {fu : Nat} (rc : RC) (ihM : mMOI rc) {F0 : PF} (x3 : Int32) (x6 : Int32) (z0 : Int32) (z1 : Int32) (F : PF) (G : PG) (hM : MO F0 F) : PP (mb_argument_226 fu rc x3 x6 z0 z1 F G) (fun _ F' _ => MO F0 F') := by
  unfold mb_argument_226
  refine PP.ite (fun c_1 => ?_) (fun c_1 => ?_)
  · skip
    exact mmj_argument_236 rc ihM x6 F G hM
  · skip
    exact mmj_argument_229 rc ihM x3 x6 F G hM
theorem mmj_argument_191 {fu : Nat} (rc : RC) (ihM : mMOI rc) {F0 : PF} (x3 : Int32) (x4 : Int32) (x6 : Int32) (F : PF) (G : PG) (hM : MO F0 F) : PP (mb_argument_191 fu rc x3 x4 x6 F G) (fun _ F' _ => MO F0 F') := by
  unfold mb_argument_191
  refine PP.ite (fun c_1 => ?_) (fun c_1 => ?_)
  · skip
    exact mmj_argument_229 rc ihM x3 x6 F G hM
  · skip
    unfold mb_argument_197
    refine PP.ix (fun _ => ?_)
    refine PP.ite (fun c_2 => ?_) (fun c_2 => ?_)
    · skip
      unfold mb_argument_208
      refine PP.ix (fun _ => ?_)
      refine PP.ite (fun c_3 => ?_) (fun c_3 => ?_)
      · skip
        unfold mb_argument_221
        exact mmj_argument_226 rc ihM x3 x6 (1 : Int32) (G 22 x6.toNatClampNeg) F G hM
      · skip
        unfold mb_argument_225
        exact mmj_argument_226 rc ihM x3 x6 (0 : Int32) (G 22 x6.toNatClampNeg) F G hM
    · skip
      exact mmj_argument_229 rc ihM x3 x6 F G hM
theorem mmj_argument_139 {fu : Nat} (rc : RC) (ihM : mMOI rc) {F0 : PF} (x3 : Int32) (x4 : Int32) (z0 : Int32) (F : PF) (G : PG) (hM : MO F0 F) : PP (mb_argument_139 fu rc x3 x4 z0 F G) (fun _ F' _ => MO F0 F') := by
  unfold mb_argument_139
  refine PP.ite (fun c_1 => ?_) (fun c_1 => ?_)
  · skip
    unfold mb_argument_146
    refine PP.bind (mm_note (7 : Int32) x3 (by decide) F G) ?_
    intro r2 F2 G2 hM2
    dsimp only
    unfold mb_argument_153
    refine PP.bind (ihM 4 0 0 F2 G2) ?_
    intro r3 F3 G3 hM3
    dsimp only
    unfold mb_argument_157
    refine PP.bz (fun _ => ?_)
    refine PP.ret ?_
    exact (MO.tr (MO.tr hM hM2) hM3)
  · skip
    unfold mb_argument_158
    refine PP.bind (mw_meaning (F 42) F G) ?_
    intro r4 F4 G4 hM4
    dsimp only
    unfold mb_argument_166
    refine PP.ite (fun c_5 => ?_) (fun c_5 => ?_)
    · skip
      unfold mb_argument_174
      refine PP.ite (fun c_6 => ?_) (fun c_6 => ?_)
      · skip
        unfold mb_argument_182
        refine PP.bind (mm_note (4 : Int32) x3 (by decide) F4 G4) ?_
        intro r7 F7 G7 hM7
        dsimp only
        unfold mb_argument_188
        exact mmj_argument_236 rc ihM r4 F7 G7 (MO.tr (MO.tr hM (MO.kx hM4 rfl rfl)) hM7)
      · skip
        exact mmj_argument_191 rc ihM x3 x4 r4 F4 G4 (MO.tr hM (MO.kx hM4 rfl rfl))
    · skip
      exact mmj_argument_191 rc ihM x3 x4 r4 F4 G4 (MO.tr hM (MO.kx hM4 rfl rfl))
theorem mmj_argument_134 {fu : Nat} (rc : RC) (ihM : mMOI rc) {F0 : PF} (x3 : Int32) (x4 : Int32) (F : PF) (G : PG) (hM : MO F0 F) : PP (mb_argument_134 fu rc x3 x4 F G) (fun _ F' _ => MO F0 F') := by
  unfold mb_argument_134
  exact mmj_argument_139 rc ihM x3 x4 (1 : Int32) F G hM
theorem mmj_argument_138 {fu : Nat} (rc : RC) (ihM : mMOI rc) {F0 : PF} (x3 : Int32) (x4 : Int32) (F : PF) (G : PG) (hM : MO F0 F) : PP (mb_argument_138 fu rc x3 x4 F G) (fun _ F' _ => MO F0 F') := by
  unfold mb_argument_138
  exact mmj_argument_139 rc ihM x3 x4 (0 : Int32) F G hM
theorem mmt_argument {fu : Nat} (rc : RC) (ihM : mMOI rc) (x1 : Int32) (x2 : Int32) (F : PF) (G : PG) : PP (mh_argument fu rc x1 x2 F G) (fun _ F' _ => MO F F') := by
  unfold mh_argument
  unfold mb_argument_0
  refine PP.ite (fun c_1 => ?_) (fun c_1 => ?_)
  · skip
    unfold mb_argument_7
    refine PP.ite (fun c_2 => ?_) (fun c_2 => ?_)
    · skip
      exact mmj_argument_12 rc ihM F G MO.rf
    · skip
      unfold mb_argument_17
      refine PP.ix (fun _ => ?_)
      refine PP.ix (fun _ => ?_)
      refine PP.ite (fun c_3 => ?_) (fun c_3 => ?_)
      · skip
        unfold mb_argument_49
        refine PP.ix (fun _ => ?_)
        refine PP.ix (fun _ => ?_)
        refine PP.ite (fun c_4 => ?_) (fun c_4 => ?_)
        · skip
          unfold mb_argument_69
          refine PP.bind (ihM 4 0 0 F G) ?_
          intro r5 F5 G5 hM5
          dsimp only
          unfold mb_argument_73
          refine PP.bz (fun _ => ?_)
          refine PP.ret ?_
          exact (MO.tr MO.rf hM5)
        · skip
          unfold mb_argument_74
          refine PP.ix (fun _ => ?_)
          refine PP.ite (fun c_6 => ?_) (fun c_6 => ?_)
          · skip
            unfold mb_argument_87
            refine PP.ix (fun _ => ?_)
            refine PP.ite (fun c_7 => ?_) (fun c_7 => ?_)
            · skip
              unfold mb_argument_102
              refine PP.ix (fun _ => ?_)
              refine PP.ite (fun c_8 => ?_) (fun c_8 => ?_)
              · skip
                exact mmj_argument_134 rc ihM (G 6 (F 42).toNatClampNeg) (G 34 ((G 31 x1.toNatClampNeg) + x2).toNatClampNeg) F G MO.rf
              · skip
                unfold mb_argument_118
                refine PP.ix (fun _ => ?_)
                refine PP.ite (fun c_9 => ?_) (fun c_9 => ?_)
                · skip
                  exact mmj_argument_134 rc ihM (G 6 (F 42).toNatClampNeg) (G 34 ((G 31 x1.toNatClampNeg) + x2).toNatClampNeg) F G MO.rf
                · skip
                  exact mmj_argument_138 rc ihM (G 6 (F 42).toNatClampNeg) (G 34 ((G 31 x1.toNatClampNeg) + x2).toNatClampNeg) F G MO.rf
            · skip
              exact mmj_argument_138 rc ihM (G 6 (F 42).toNatClampNeg) (G 34 ((G 31 x1.toNatClampNeg) + x2).toNatClampNeg) F G MO.rf
          · skip
            exact mmj_argument_138 rc ihM (G 6 (F 42).toNatClampNeg) (G 34 ((G 31 x1.toNatClampNeg) + x2).toNatClampNeg) F G MO.rf
      · skip
        unfold mb_argument_37
        refine PP.bind (mm_note (7 : Int32) (G 6 (F 42).toNatClampNeg) (by decide) F G) ?_
        intro r10 F10 G10 hM10
        dsimp only
        unfold mb_argument_44
        refine PP.bind (ihM 4 0 0 F10 G10) ?_
        intro r11 F11 G11 hM11
        dsimp only
        unfold mb_argument_48
        refine PP.bz (fun _ => ?_)
        refine PP.ret ?_
        exact (MO.tr (MO.tr MO.rf hM10) hM11)
  · skip
    exact mmj_argument_12 rc ihM F G MO.rf
theorem mmj_call_256 {fu : Nat} (rc : RC) (ihM : mMOI rc) {F0 : PF} (x1 : Int32) (x4 : Int32) (F : PF) (G : PG) (hM : MO F0 F) : PP (mb_call_256 fu rc x1 x4 F G) (fun _ F' _ => MO F0 F') := by
  unfold mb_call_256
  refine PP.bind (mw_closeSign (23 : Int32) F G) ?_
  intro r1 F1 G1 hM1
  dsimp only
  unfold mb_call_262
  refine PP.ite (fun c_2 => ?_) (fun c_2 => ?_)
  · skip
    unfold mb_call_265
    refine PP.ret ?_
    exact (MO.tr hM (MO.kx hM1 rfl rfl))
  · skip
    unfold mb_call_267
    refine PP.bind (mw_step (15 : Int32) (0 : Int32) (0 : Int32) F1 G1) ?_
    intro r3 F3 G3 hM3
    dsimp only
    unfold mb_call_275
    refine PP.ix (fun _ => ?_)
    refine PP.bind (mw_step (16 : Int32) x4 (G3 6 x1.toNatClampNeg) F3 G3) ?_
    intro r4 F4 G4 hM4
    dsimp only
    unfold mb_call_290
    refine PP.ret ?_
    exact (MO.tr (MO.tr (MO.tr hM (MO.kx hM1 rfl rfl)) (MO.kx hM3 rfl rfl)) (MO.kx hM4 rfl rfl))
theorem mmj_call_200 {fu : Nat} (rc : RC) (ihM : mMOI rc) {F0 : PF} (ag_156 : Int32 → Int32 → Int32 → Int32 → PF → PG → PR) (hag_156 : ∀ (x1 : Int32) (x4 : Int32) (x5 : Int32) (x6 : Int32) (F : PF) (G : PG) (hM : MO F0 F), PP (ag_156 x1 x4 x5 x6 F G) (fun _ F' _ => MO F0 F')) (x1 : Int32) (x4 : Int32) (x5 : Int32) (x6 : Int32) (z0 : Int32) (z1 : Int32) (F : PF) (G : PG) (hM : MO F0 F) : PP (mb_call_200 fu rc ag_156 x1 x4 x5 x6 z0 z1 F G) (fun _ F' _ => MO F0 F') := by
  unfold mb_call_200
  unfold mb_call_204
  exact hag_156 x1 x4 x5 x6 (fup F 42 (z1 + z0)) G (MO.f (k := 42) (by decide) (by decide) hM)
theorem mmz_call_156 {fu : Nat} (rc : RC) (ihM : mMOI rc) {F0 : PF} : ∀ (n : Nat) (x1 : Int32) (x4 : Int32) (x5 : Int32) (x6 : Int32) (F : PF) (G : PG) (hM : MO F0 F), PP (ml_call_156 fu rc n x1 x4 x5 x6 F G) (fun _ F' _ => MO F0 F') := by
  intro n
  induction n with
  | zero =>
    intro x1 x4 x5 x6 F G hM
    exact PP.no
  | succ n ihn =>
    intro x1 x4 x5 x6 F G hM
    show PP (mb_call_156 fu rc (ml_call_156 fu rc n) x1 x4 x5 x6 F G) _
    unfold mb_call_156
    refine PP.ite (fun c_1 => ?_) (fun c_1 => ?_)
    · skip
      unfold mb_call_207
      refine PP.ite (fun c_2 => ?_) (fun c_2 => ?_)
      · skip
        unfold mb_call_214
        refine PP.ite (fun c_3 => ?_) (fun c_3 => ?_)
        · skip
          exact mmj_call_256 rc ihM x1 x4 F G hM
        · skip
          unfold mb_call_220
          refine PP.ix (fun _ => ?_)
          refine PP.ite (fun c_4 => ?_) (fun c_4 => ?_)
          · skip
            exact mmj_call_256 rc ihM x1 x4 F G hM
          · skip
            unfold mb_call_232
            refine PP.bind (mw_isSign (23 : Int32) F G) ?_
            intro r5 F5 G5 hM5
            dsimp only
            unfold mb_call_238
            refine PP.ite (fun c_6 => ?_) (fun c_6 => ?_)
            · skip
              exact mmj_call_256 rc ihM x1 x4 F5 G5 (MO.tr hM (MO.kx hM5 rfl rfl))
            · skip
              unfold mb_call_241
              refine PP.ix (fun _ => ?_)
              refine PP.bind (mm_note (7 : Int32) (G5 6 (F5 42).toNatClampNeg) (by decide) F5 G5) ?_
              intro r7 F7 G7 hM7
              dsimp only
              exact mmj_call_256 rc ihM x1 x4 F7 G7 (MO.tr (MO.tr hM (MO.kx hM5 rfl rfl)) hM7)
      · skip
        exact mmj_call_256 rc ihM x1 x4 F G hM
    · skip
      unfold mb_call_161
      refine PP.bind (ihM 0 x4 x5 F G) ?_
      intro r8 F8 G8 hM8
      dsimp only
      unfold mb_call_169
      refine PP.ite (fun c_9 => ?_) (fun c_9 => ?_)
      · skip
        unfold mb_call_172
        refine PP.ret ?_
        exact (MO.tr hM hM8)
      · skip
        unfold mb_call_174
        refine PP.bind (mw_isSign (28 : Int32) F8 G8) ?_
        intro r10 F10 G10 hM10
        dsimp only
        unfold mb_call_183
        refine PP.ite (fun c_11 => ?_) (fun c_11 => ?_)
        · skip
          unfold mb_call_199
          exact mmj_call_200 rc ihM (ml_call_156 fu rc n) ihn x1 x4 (x5 + (1 : Int32)) r10 (0 : Int32) (F10 42) F10 G10 (MO.tr (MO.tr hM hM8) (MO.kx hM10 rfl rfl))
        · skip
          unfold mb_call_195
          exact mmj_call_200 rc ihM (ml_call_156 fu rc n) ihn x1 x4 (x5 + (1 : Int32)) r10 (1 : Int32) (F10 42) F10 G10 (MO.tr (MO.tr hM hM8) (MO.kx hM10 rfl rfl))
theorem mmj_call_154 {fu : Nat} (rc : RC) (ihM : mMOI rc) {F0 : PF} (x1 : Int32) (x4 : Int32) (x5 : Int32) (z0 : Int32) (F : PF) (G : PG) (hM : MO F0 F) : PP (mb_call_154 fu rc x1 x4 x5 z0 F G) (fun _ F' _ => MO F0 F') := by
  unfold mb_call_154
  exact mmz_call_156 rc ihM fu x1 x4 x5 z0 F G hM
theorem mmj_call_126 {fu : Nat} (rc : RC) (ihM : mMOI rc) {F0 : PF} (x1 : Int32) (x4 : Int32) (F : PF) (G : PG) (hM : MO F0 F) : PP (mb_call_126 fu rc x1 x4 F G) (fun _ F' _ => MO F0 F') := by
  unfold mb_call_126
  refine PP.bind (mw_openSign (22 : Int32) F G) ?_
  intro r1 F1 G1 hM1
  dsimp only
  unfold mb_call_132
  refine PP.ite (fun c_2 => ?_) (fun c_2 => ?_)
  · skip
    unfold mb_call_135
    refine PP.ret ?_
    exact (MO.tr hM (MO.kx hM1 rfl rfl))
  · skip
    unfold mb_call_137
    refine PP.bind (mw_isSign (23 : Int32) F1 G1) ?_
    intro r3 F3 G3 hM3
    dsimp only
    unfold mb_call_146
    refine PP.ite (fun c_4 => ?_) (fun c_4 => ?_)
    · skip
      unfold mb_call_149
      exact mmj_call_154 rc ihM x1 x4 (0 : Int32) (1 : Int32) F3 G3 (MO.tr (MO.tr hM (MO.kx hM1 rfl rfl)) (MO.kx hM3 rfl rfl))
    · skip
      unfold mb_call_153
      exact mmj_call_154 rc ihM x1 x4 (0 : Int32) (0 : Int32) F3 G3 (MO.tr (MO.tr hM (MO.kx hM1 rfl rfl)) (MO.kx hM3 rfl rfl))
theorem mmj_call_87 {fu : Nat} (rc : RC) (ihM : mMOI rc) {F0 : PF} (x1 : Int32) (x2 : Int32) (x4 : Int32) (F : PF) (G : PG) (hM : MO F0 F) : PP (mb_call_87 fu rc x1 x2 x4 F G) (fun _ F' _ => MO F0 F') := by
  unfold mb_call_87
  refine PP.ite (fun c_1 => ?_) (fun c_1 => ?_)
  · skip
    unfold mb_call_94
    refine PP.ite (fun c_2 => ?_) (fun c_2 => ?_)
    · skip
      exact mmj_call_126 rc ihM x1 x4 F G hM
    · skip
      unfold mb_call_100
      refine PP.ite (fun c_3 => ?_) (fun c_3 => ?_)
      · skip
        exact mmj_call_126 rc ihM x1 x4 F G hM
      · skip
        unfold mb_call_104
        refine PP.ix (fun _ => ?_)
        refine PP.ite (fun c_4 => ?_) (fun c_4 => ?_)
        · skip
          exact mmj_call_126 rc ihM x1 x4 F G hM
        · skip
          unfold mb_call_114
          refine PP.ix (fun _ => ?_)
          refine PP.bind (mm_note (8 : Int32) (G 6 x1.toNatClampNeg) (by decide) F G) ?_
          intro r5 F5 G5 hM5
          dsimp only
          exact mmj_call_126 rc ihM x1 x4 F5 G5 (MO.tr hM hM5)
  · skip
    exact mmj_call_126 rc ihM x1 x4 F G hM
theorem mmj_call_63 {fu : Nat} (rc : RC) (ihM : mMOI rc) {F0 : PF} (x1 : Int32) (x2 : Int32) (x3 : Int32) (x4 : Int32) (F : PF) (G : PG) (hM : MO F0 F) : PP (mb_call_63 fu rc x1 x2 x3 x4 F G) (fun _ F' _ => MO F0 F') := by
  unfold mb_call_63
  refine PP.ite (fun c_1 => ?_) (fun c_1 => ?_)
  · skip
    unfold mb_call_70
    refine PP.ite (fun c_2 => ?_) (fun c_2 => ?_)
    · skip
      exact mmj_call_87 rc ihM x1 x2 x4 F G hM
    · skip
      unfold mb_call_75
      refine PP.ix (fun _ => ?_)
      refine PP.bind (mm_note (6 : Int32) (G 6 x1.toNatClampNeg) (by decide) F G) ?_
      intro r3 F3 G3 hM3
      dsimp only
      exact mmj_call_87 rc ihM x1 x2 x4 F3 G3 (MO.tr hM hM3)
  · skip
    exact mmj_call_87 rc ihM x1 x2 x4 F G hM
theorem mmj_call_32 {fu : Nat} (rc : RC) (ihM : mMOI rc) {F0 : PF} (x1 : Int32) (x2 : Int32) (x3 : Int32) (z0 : Int32) (F : PF) (G : PG) (hM : MO F0 F) : PP (mb_call_32 fu rc x1 x2 x3 z0 F G) (fun _ F' _ => MO F0 F') := by
  unfold mb_call_32
  refine PP.ite (fun c_1 => ?_) (fun c_1 => ?_)
  · skip
    unfold mb_call_41
    refine PP.ite (fun c_2 => ?_) (fun c_2 => ?_)
    · skip
      unfold mb_call_46
      refine PP.ite (fun c_3 => ?_) (fun c_3 => ?_)
      · skip
        unfold mb_call_52
        refine PP.ix (fun _ => ?_)
        refine PP.bind (mm_note (4 : Int32) (G 6 x1.toNatClampNeg) (by decide) F G) ?_
        intro r4 F4 G4 hM4
        dsimp only
        exact mmj_call_63 rc ihM x1 x2 x3 z0 F4 G4 (MO.tr hM hM4)
      · skip
        exact mmj_call_63 rc ihM x1 x2 x3 z0 F G hM
    · skip
      exact mmj_call_63 rc ihM x1 x2 x3 z0 F G hM
  · skip
    exact mmj_call_63 rc ihM x1 x2 x3 z0 F G hM
theorem mmj_call_16 {fu : Nat} (rc : RC) (ihM : mMOI rc) {F0 : PF} (x1 : Int32) (x2 : Int32) (z0 : Int32) (F : PF) (G : PG) (hM : MO F0 F) : PP (mb_call_16 fu rc x1 x2 z0 F G) (fun _ F' _ => MO F0 F') := by
  unfold mb_call_16
  refine PP.ite (fun c_1 => ?_) (fun c_1 => ?_)
  · skip
    unfold mb_call_24
    exact mmj_call_32 rc ihM x1 x2 z0 (-1 : Int32) F G hM
  · skip
    unfold mb_call_28
    exact mmj_call_32 rc ihM x1 x2 z0 (F 62) F G hM
theorem mmt_call {fu : Nat} (rc : RC) (ihM : mMOI rc) (x1 : Int32) (x2 : Int32) (F : PF) (G : PG) : PP (mh_call fu rc x1 x2 F G) (fun _ F' _ => MO F F') := by
  unfold mh_call
  unfold mb_call_0
  refine PP.ite (fun c_1 => ?_) (fun c_1 => ?_)
  · skip
    unfold mb_call_7
    exact mmj_call_16 rc ihM x1 x2 (-1 : Int32) F G MO.rf
  · skip
    unfold mb_call_11
    refine PP.bind (mw_meaning x1 F G) ?_
    intro r2 F2 G2 hM2
    dsimp only
    exact mmj_call_16 rc ihM x1 x2 r2 F2 G2 (MO.tr MO.rf (MO.kx hM2 rfl rfl))
theorem mmj_chain_118 {fu : Nat} (rc : RC) (ihM : mMOI rc) {F0 : PF} (ag_10 : Int32 → Int32 → PF → PG → PR) (hag_10 : ∀ (x1 : Int32) (x2 : Int32) (F : PF) (G : PG) (hM : MO F0 F), PP (ag_10 x1 x2 F G) (fun _ F' _ => MO F0 F')) (x1 : Int32) (z0 : Int32) (z1 : Int32) (F : PF) (G : PG) (hM : MO F0 F) : PP (mb_chain_118 fu rc ag_10 x1 z0 z1 F G) (fun _ F' _ => MO F0 F') := by
  unfold mb_chain_118
  refine PP.ix (fun _ => ?_)
  unfold mb_chain_119
  unfold mb_chain_129
  unfold mb_chain_139
  refine PP.bind (ihM 7 0 0 (fup (fup F 70 ((F 70) + (1 : Int32))) 42 ((F 42) + (1 : Int32))) (gup G 69 z1.toNatClampNeg z0)) ?_
  intro r1 F1 G1 hM1
  dsimp only
  unfold mb_chain_143
  exact hag_10 x1 r1 F1 G1 (MO.tr (MO.f (k := 42) (by decide) (by decide) (MO.f (k := 70) (by decide) (by decide) hM)) hM1)
theorem mmj_chain_113 {fu : Nat} (rc : RC) (ihM : mMOI rc) {F0 : PF} (ag_10 : Int32 → Int32 → PF → PG → PR) (hag_10 : ∀ (x1 : Int32) (x2 : Int32) (F : PF) (G : PG) (hM : MO F0 F), PP (ag_10 x1 x2 F G) (fun _ F' _ => MO F0 F')) (x1 : Int32) (z0 : Int32) (z2 : Int32) (F : PF) (G : PG) (hM : MO F0 F) : PP (mb_chain_113 fu rc ag_10 x1 z0 z2 F G) (fun _ F' _ => MO F0 F') := by
  unfold mb_chain_113
  refine PP.bind (mw_step z0 (0 : Int32) (0 : Int32) F G) ?_
  intro r1 F1 G1 hM1
  dsimp only
  exact mmj_chain_118 rc ihM ag_10 hag_10 x1 r1 z2 F1 G1 (MO.tr hM (MO.kx hM1 rfl rfl))
theorem mmj_chain_49 {fu : Nat} (rc : RC) (ihM : mMOI rc) {F0 : PF} (ag_10 : Int32 → Int32 → PF → PG → PR) (hag_10 : ∀ (x1 : Int32) (x2 : Int32) (F : PF) (G : PG) (hM : MO F0 F), PP (ag_10 x1 x2 F G) (fun _ F' _ => MO F0 F')) (x1 : Int32) (x3 : Int32) (F : PF) (G : PG) (hM : MO F0 F) : PP (mb_chain_49 fu rc ag_10 x1 x3 F G) (fun _ F' _ => MO F0 F') := by
  unfold mb_chain_49
  refine PP.ite (fun c_1 => ?_) (fun c_1 => ?_)
  · skip
    unfold mb_chain_54
    refine PP.ret ?_
    exact hM
  · skip
    unfold mb_chain_56
    refine PP.ix (fun _ => ?_)
    refine PP.ix (fun _ => ?_)
    unfold mb_chain_74
    refine PP.ix (fun _ => ?_)
    unfold mb_chain_84
    refine PP.ite (fun c_2 => ?_) (fun c_2 => ?_)
    · skip
      unfold mb_chain_101
      refine PP.ite (fun c_3 => ?_) (fun c_3 => ?_)
      · skip
        unfold mb_chain_106
        exact mmj_chain_113 rc ihM ag_10 hag_10 x1 (14 : Int32) (F 70) F (gup (gup G 67 (F 70).toNatClampNeg (G 5 (F 42).toNatClampNeg)) 68 (F 70).toNatClampNeg x3) hM
      · skip
        unfold mb_chain_111
        exact mmj_chain_113 rc ihM ag_10 hag_10 x1 (13 : Int32) (F 70) F (gup (gup G 67 (F 70).toNatClampNeg (G 5 (F 42).toNatClampNeg)) 68 (F 70).toNatClampNeg x3) hM
    · skip
      unfold mb_chain_97
      exact mmj_chain_118 rc ihM ag_10 hag_10 x1 (-1 : Int32) (F 70) F (gup (gup G 67 (F 70).toNatClampNeg (G 5 (F 42).toNatClampNeg)) 68 (F 70).toNatClampNeg x3) hM
theorem mmz_chain_19 {fu : Nat} (rc : RC) (ihM : mMOI rc) {F0 : PF} (ag_10 : Int32 → Int32 → PF → PG → PR) (hag_10 : ∀ (x1 : Int32) (x2 : Int32) (F : PF) (G : PG) (hM : MO F0 F), PP (ag_10 x1 x2 F G) (fun _ F' _ => MO F0 F')) : ∀ (n : Nat) (x1 : Int32) (x3 : Int32) (F : PF) (G : PG) (hM : MO F0 F), PP (ml_chain_19 fu rc ag_10 n x1 x3 F G) (fun _ F' _ => MO F0 F') := by
  intro n
  induction n with
  | zero =>
    intro x1 x3 F G hM
    exact PP.no
  | succ n ihn =>
    intro x1 x3 F G hM
    show PP (mb_chain_19 fu rc ag_10 (ml_chain_19 fu rc ag_10 n) x1 x3 F G) _
    unfold mb_chain_19
    refine PP.ite (fun c_1 => ?_) (fun c_1 => ?_)
    · skip
      exact mmj_chain_49 rc ihM ag_10 hag_10 x1 x3 F G hM
    · skip
      unfold mb_chain_27
      refine PP.ix (fun _ => ?_)
      refine PP.ite (fun c_2 => ?_) (fun c_2 => ?_)
      · skip
        exact mmj_chain_49 rc ihM ag_10 hag_10 x1 x3 F G hM
      · skip
        unfold mb_chain_42
        refine PP.bind (mw_binds F G) ?_
        intro r3 F3 G3 hM3
        dsimp only
        unfold mb_chain_46
        exact ihn x1 x3 F3 G3 (MO.tr hM (MO.kx hM3 rfl rfl))
theorem mmz_chain_10 {fu : Nat} (rc : RC) (ihM : mMOI rc) {F0 : PF} : ∀ (n : Nat) (x1 : Int32) (x2 : Int32) (F : PF) (G : PG) (hM : MO F0 F), PP (ml_chain_10 fu rc n x1 x2 F G) (fun _ F' _ => MO F0 F') := by
  intro n
  induction n with
  | zero =>
    intro x1 x2 F G hM
    exact PP.no
  | succ n ihn =>
    intro x1 x2 F G hM
    show PP (mb_chain_10 fu rc (ml_chain_10 fu rc n) x1 x2 F G) _
    unfold mb_chain_10
    refine PP.ite (fun c_1 => ?_) (fun c_1 => ?_)
    · skip
      unfold mb_chain_147
      refine PP.ret ?_
      exact hM
    · skip
      unfold mb_chain_14
      refine PP.bind (mw_level F G) ?_
      intro r2 F2 G2 hM2
      dsimp only
      unfold mb_chain_18
      exact mmz_chain_19 rc ihM (ml_chain_10 fu rc n) ihn fu x1 r2 F2 G2 (MO.tr hM (MO.kx hM2 rfl rfl))
theorem mmt_chain {fu : Nat} (rc : RC) (ihM : mMOI rc) (F : PF) (G : PG) : PP (mh_chain fu rc F G) (fun _ F' _ => MO F F') := by
  unfold mh_chain
  unfold mb_chain_0
  refine PP.bind (ihM 7 0 0 F G) ?_
  intro r1 F1 G1 hM1
  dsimp only
  unfold mb_chain_9
  exact mmz_chain_10 rc ihM fu (F 70) r1 F1 G1 (MO.tr MO.rf hM1)
theorem mmj_element_89 {fu : Nat} (rc : RC) (ihM : mMOI rc) {F0 : PF} (F : PF) (G : PG) (hM : MO F0 F) : PP (mb_element_89 fu rc F G) (fun _ F' _ => MO F0 F') := by
  unfold mb_element_89
  refine PP.ret ?_
  exact hM
theorem mmj_element_121 {fu : Nat} (rc : RC) (ihM : mMOI rc) {F0 : PF} (z0 : Int32) (z1 : Int32) (z2 : Int32) (F : PF) (G : PG) (hM : MO F0 F) : PP (mb_element_121 fu rc z0 z1 z2 F G) (fun _ F' _ => MO F0 F') := by
  unfold mb_element_121
  refine PP.ix (fun _ => ?_)
  unfold mb_element_123
  refine PP.ret ?_
  exact hM
theorem mmj_element_62 {fu : Nat} (rc : RC) (ihM : mMOI rc) {F0 : PF} (x2 : Int32) (x3 : Int32) (x4 : Int32) (z0 : Int32) (F : PF) (G : PG) (hM : MO F0 F) : PP (mb_element_62 fu rc x2 x3 x4 z0 F G) (fun _ F' _ => MO F0 F') := by
  unfold mb_element_62
  refine PP.bind (mw_openSign (24 : Int32) F G) ?_
  intro r1 F1 G1 hM1
  dsimp only
  unfold mb_element_70
  refine PP.ite (fun c_2 => ?_) (fun c_2 => ?_)
  · skip
    exact mmj_element_89 rc ihM F1 G1 (MO.tr hM (MO.kx hM1 rfl rfl))
  · skip
    unfold mb_element_73
    refine PP.bind (ihM 4 0 0 F1 G1) ?_
    intro r3 F3 G3 hM3
    dsimp only
    unfold mb_element_77
    refine PP.ite (fun c_4 => ?_) (fun c_4 => ?_)
    · skip
      exact mmj_element_89 rc ihM F3 G3 (MO.tr (MO.tr hM (MO.kx hM1 rfl rfl)) hM3)
    · skip
      unfold mb_element_80
      refine PP.bind (mw_closeSign (25 : Int32) F3 G3) ?_
      intro r5 F5 G5 hM5
      dsimp only
      unfold mb_element_86
      refine PP.ite (fun c_6 => ?_) (fun c_6 => ?_)
      · skip
        exact mmj_element_89 rc ihM F5 G5 (MO.tr (MO.tr (MO.tr hM (MO.kx hM1 rfl rfl)) hM3) (MO.kx hM5 rfl rfl))
      · skip
        unfold mb_element_91
        refine PP.bind (mw_step (6 : Int32) x3 x4 F5 G5) ?_
        intro r7 F7 G7 hM7
        dsimp only
        unfold mb_element_100
        refine PP.ite (fun c_8 => ?_) (fun c_8 => ?_)
        · skip
          unfold mb_element_120
          exact mmj_element_121 rc ihM (0 : Int32) ((2 : Int32) * x2) r7 F7 G7 (MO.tr (MO.tr (MO.tr (MO.tr hM (MO.kx hM1 rfl rfl)) hM3) (MO.kx hM5 rfl rfl)) (MO.kx hM7 rfl rfl))
        · skip
          unfold mb_element_116
          exact mmj_element_121 rc ihM (1 : Int32) ((2 : Int32) * x2) r7 F7 G7 (MO.tr (MO.tr (MO.tr (MO.tr hM (MO.kx hM1 rfl rfl)) hM3) (MO.kx hM5 rfl rfl)) (MO.kx hM7 rfl rfl))
theorem mmj_element_61 {fu : Nat} (rc : RC) (ihM : mMOI rc) {F0 : PF} (x2 : Int32) (x3 : Int32) (x4 : Int32) (F : PF) (G : PG) (hM : MO F0 F) : PP (mb_element_61 fu rc x2 x3 x4 F G) (fun _ F' _ => MO F0 F') := by
  unfold mb_element_61
  exact mmj_element_62 rc ihM x2 x3 x4 (0 : Int32) F G hM
theorem mmj_element_41 {fu : Nat} (rc : RC) (ihM : mMOI rc) {F0 : PF} (x1 : Int32) (x2 : Int32) (x3 : Int32) (z0 : Int32) (F : PF) (G : PG) (hM : MO F0 F) : PP (mb_element_41 fu rc x1 x2 x3 z0 F G) (fun _ F' _ => MO F0 F') := by
  unfold mb_element_41
  refine PP.ite (fun c_1 => ?_) (fun c_1 => ?_)
  · skip
    exact mmj_element_61 rc ihM x2 x3 z0 F G hM
  · skip
    unfold mb_element_48
    refine PP.ix (fun _ => ?_)
    refine PP.ite (fun c_2 => ?_) (fun c_2 => ?_)
    · skip
      exact mmj_element_61 rc ihM x2 x3 z0 F G hM
    · skip
      unfold mb_element_57
      exact mmj_element_62 rc ihM x2 x3 z0 (1 : Int32) F G hM
theorem mmj_element_25 {fu : Nat} (rc : RC) (ihM : mMOI rc) {F0 : PF} (x1 : Int32) (x2 : Int32) (z0 : Int32) (F : PF) (G : PG) (hM : MO F0 F) : PP (mb_element_25 fu rc x1 x2 z0 F G) (fun _ F' _ => MO F0 F') := by
  unfold mb_element_25
  refine PP.ite (fun c_1 => ?_) (fun c_1 => ?_)
  · skip
    unfold mb_element_31
    exact mmj_element_41 rc ihM x1 x2 z0 (1 : Int32) F G hM
  · skip
    unfold mb_element_35
    refine PP.ix (fun _ => ?_)
    exact mmj_element_41 rc ihM x1 x2 z0 (G 21 x1.toNatClampNeg) F G hM
theorem mmt_element {fu : Nat} (rc : RC) (ihM : mMOI rc) (x1 : Int32) (F : PF) (G : PG) : PP (mh_element fu rc x1 F G) (fun _ F' _ => MO F F') := by
  unfold mh_element
  unfold mb_element_0
  refine PP.ix (fun _ => ?_)
  refine PP.ite (fun c_1 => ?_) (fun c_1 => ?_)
  · skip
    unfold mb_element_15
    exact mmj_element_25 rc ihM x1 (G 6 (F 42).toNatClampNeg) (0 : Int32) F G MO.rf
  · skip
    unfold mb_element_19
    refine PP.ix (fun _ => ?_)
    exact mmj_element_25 rc ihM x1 (G 6 (F 42).toNatClampNeg) (G 20 x1.toNatClampNeg) F G MO.rf
theorem mmj_expression_54 {fu : Nat} (rc : RC) (ihM : mMOI rc) {F0 : PF} (F : PF) (G : PG) (hM : MO F0 F) : PP (mb_expression_54 fu rc F G) (fun _ F' _ => MO F0 F') := by
  unfold mb_expression_54
  refine PP.ret ?_
  exact hM
theorem mmt_expression {fu : Nat} (rc : RC) (ihM : mMOI rc) (F : PF) (G : PG) : PP (mh_expression fu rc F G) (fun _ F' _ => MO F F') := by
  unfold mh_expression
  unfold mb_expression_0
  refine PP.bind (ihM 2 0 0 F G) ?_
  intro r1 F1 G1 hM1
  dsimp only
  unfold mb_expression_4
  refine PP.ite (fun c_2 => ?_) (fun c_2 => ?_)
  · skip
    unfold mb_expression_7
    refine PP.ret ?_
    exact (MO.tr MO.rf hM1)
  · skip
    unfold mb_expression_9
    refine PP.bind (mw_isSign (30 : Int32) F1 G1) ?_
    intro r3 F3 G3 hM3
    dsimp only
    unfold mb_expression_15
    refine PP.ite (fun c_4 => ?_) (fun c_4 => ?_)
    · skip
      unfold mb_expression_18
      refine PP.ret ?_
      exact (MO.tr (MO.tr MO.rf hM1) (MO.kx hM3 rfl rfl))
    · skip
      unfold mb_expression_20
      refine PP.bind (mw_opens F3 G3) ?_
      intro r5 F5 G5 hM5
      dsimp only
      unfold mb_expression_24
      refine PP.ite (fun c_6 => ?_) (fun c_6 => ?_)
      · skip
        unfold mb_expression_27
        refine PP.ret ?_
        exact (MO.tr (MO.tr (MO.tr MO.rf hM1) (MO.kx hM3 rfl rfl)) (MO.kx hM5 rfl rfl))
      · skip
        unfold mb_expression_29
        refine PP.bind (mw_step (13 : Int32) (0 : Int32) (0 : Int32) F5 G5) ?_
        intro r7 F7 G7 hM7
        dsimp only
        unfold mb_expression_37
        refine PP.bind (ihM 4 0 0 F7 G7) ?_
        intro r8 F8 G8 hM8
        dsimp only
        unfold mb_expression_42
        refine PP.ite (fun c_9 => ?_) (fun c_9 => ?_)
        · skip
          exact mmj_expression_54 rc ihM F8 G8 (MO.tr (MO.tr (MO.tr (MO.tr (MO.tr MO.rf hM1) (MO.kx hM3 rfl rfl)) (MO.kx hM5 rfl rfl)) (MO.kx hM7 rfl rfl)) hM8)
        · skip
          unfold mb_expression_45
          refine PP.bind (mw_sign (31 : Int32) F8 G8) ?_
          intro r10 F10 G10 hM10
          dsimp only
          unfold mb_expression_51
          refine PP.ite (fun c_11 => ?_) (fun c_11 => ?_)
          · skip
            exact mmj_expression_54 rc ihM F10 G10 (MO.tr (MO.tr (MO.tr (MO.tr (MO.tr (MO.tr MO.rf hM1) (MO.kx hM3 rfl rfl)) (MO.kx hM5 rfl rfl)) (MO.kx hM7 rfl rfl)) hM8) (MO.kx hM10 rfl rfl))
          · skip
            unfold mb_expression_56
            refine PP.bind (mw_step (12 : Int32) (0 : Int32) (0 : Int32) F10 G10) ?_
            intro r12 F12 G12 hM12
            dsimp only
            unfold mb_expression_64
            refine PP.ix (fun _ => ?_)
            unfold mb_expression_75
            refine PP.bind (ihM 4 0 0 F12 (gup G12 57 r7.toNatClampNeg (F12 60))) ?_
            intro r13 F13 G13 hM13
            dsimp only
            unfold mb_expression_79
            refine PP.ite (fun c_14 => ?_) (fun c_14 => ?_)
            · skip
              unfold mb_expression_82
              refine PP.ret ?_
              exact (MO.tr (MO.tr (MO.tr (MO.tr (MO.tr (MO.tr (MO.tr (MO.tr MO.rf hM1) (MO.kx hM3 rfl rfl)) (MO.kx hM5 rfl rfl)) (MO.kx hM7 rfl rfl)) hM8) (MO.kx hM10 rfl rfl)) (MO.kx hM12 rfl rfl)) hM13)
            · skip
              unfold mb_expression_84
              refine PP.ix (fun _ => ?_)
              unfold mb_expression_94
              unfold mb_expression_104
              refine PP.ret ?_
              exact (MO.f (k := 43) (by decide) (by decide) (MO.tr (MO.tr (MO.tr (MO.tr (MO.tr (MO.tr (MO.tr (MO.tr MO.rf hM1) (MO.kx hM3 rfl rfl)) (MO.kx hM5 rfl rfl)) (MO.kx hM7 rfl rfl)) hM8) (MO.kx hM10 rfl rfl)) (MO.kx hM12 rfl rfl)) hM13))
theorem mmj_inConstant_248 {fu : Nat} (rc : RC) (ihM : mMOI rc) {F0 : PF} (F : PF) (G : PG) (hM : MO F0 F) : PP (mb_inConstant_248 fu rc F G) (fun _ F' _ => MO F0 F') := by
  unfold mb_inConstant_248
  refine PP.ret ?_
  exact hM
theorem mmj_inConstant_243 {fu : Nat} (rc : RC) (ihM : mMOI rc) {F0 : PF} (z0 : Int32) (z1 : Int32) (F : PF) (G : PG) (hM : MO F0 F) : PP (mb_inConstant_243 fu rc z0 z1 F G) (fun _ F' _ => MO F0 F') := by
  unfold mb_inConstant_243
  refine PP.bind (mw_step z1 z0 (0 : Int32) F G) ?_
  intro r1 F1 G1 hM1
  dsimp only
  unfold mb_inConstant_247
  exact mmj_inConstant_248 rc ihM F1 G1 (MO.tr hM (MO.kx hM1 rfl rfl))
theorem mmj_inConstant_221 {fu : Nat} (rc : RC) (ihM : mMOI rc) {F0 : PF} (x2 : Int32) (x4 : Int32) (x5 : Int32) (F : PF) (G : PG) (hM : MO F0 F) : PP (mb_inConstant_221 fu rc x2 x4 x5 F G) (fun _ F' _ => MO F0 F') := by
  unfold mb_inConstant_221
  refine PP.ite (fun c_1 => ?_) (fun c_1 => ?_)
  · skip
    unfold mb_inConstant_226
    refine PP.ite (fun c_2 => ?_) (fun c_2 => ?_)
    · skip
      unfold mb_inConstant_242
      exact mmj_inConstant_243 rc ihM (0 : Int32) (0 : Int32) F G hM
    · skip
      unfold mb_inConstant_233
      refine PP.ix (fun _ => ?_)
      exact mmj_inConstant_243 rc ihM (G 20 x2.toNatClampNeg) (0 : Int32) F G hM
  · skip
    exact mmj_inConstant_248 rc ihM F G hM
theorem mmj_inConstant_182 {fu : Nat} (rc : RC) (ihM : mMOI rc) {F0 : PF} (x2 : Int32) (x4 : Int32) (x5 : Int32) (F : PF) (G : PG) (hM : MO F0 F) : PP (mb_inConstant_182 fu rc x2 x4 x5 F G) (fun _ F' _ => MO F0 F') := by
  unfold mb_inConstant_182
  refine PP.bind (mw_isSign (24 : Int32) F G) ?_
  intro r1 F1 G1 hM1
  dsimp only
  unfold mb_inConstant_188
  refine PP.ite (fun c_2 => ?_) (fun c_2 => ?_)
  · skip
    exact mmj_inConstant_221 rc ihM x2 x4 x5 F1 G1 (MO.tr hM (MO.kx hM1 rfl rfl))
  · skip
    unfold mb_inConstant_191
    refine PP.ite (fun c_3 => ?_) (fun c_3 => ?_)
    · skip
      exact mmj_inConstant_221 rc ihM x2 x4 x5 F1 G1 (MO.tr hM (MO.kx hM1 rfl rfl))
    · skip
      unfold mb_inConstant_196
      refine PP.ix (fun _ => ?_)
      refine PP.ite (fun c_4 => ?_) (fun c_4 => ?_)
      · skip
        unfold mb_inConstant_211
        refine PP.bind (ihM 3 (-1 : Int32) 0 F1 G1) ?_
        intro r5 F5 G5 hM5
        dsimp only
        unfold mb_inConstant_216
        refine PP.ite (fun c_6 => ?_) (fun c_6 => ?_)
        · skip
          unfold mb_inConstant_219
          refine PP.ret ?_
          exact (MO.tr (MO.tr hM (MO.kx hM1 rfl rfl)) hM5)
        · skip
          exact mmj_inConstant_221 rc ihM x2 x4 x5 F5 G5 (MO.tr (MO.tr hM (MO.kx hM1 rfl rfl)) hM5)
      · skip
        exact mmj_inConstant_221 rc ihM x2 x4 x5 F1 G1 (MO.tr hM (MO.kx hM1 rfl rfl))
theorem mmj_inConstant_162 {fu : Nat} (rc : RC) (ihM : mMOI rc) {F0 : PF} (x1 : Int32) (x2 : Int32) (x4 : Int32) (x5 : Int32) (F : PF) (G : PG) (hM : MO F0 F) : PP (mb_inConstant_162 fu rc x1 x2 x4 x5 F G) (fun _ F' _ => MO F0 F') := by
  unfold mb_inConstant_162
  refine PP.bind (mw_isSign (22 : Int32) F G) ?_
  intro r1 F1 G1 hM1
  dsimp only
  unfold mb_inConstant_168
  refine PP.ite (fun c_2 => ?_) (fun c_2 => ?_)
  · skip
    exact mmj_inConstant_182 rc ihM x2 x4 x5 F1 G1 (MO.tr hM (MO.kx hM1 rfl rfl))
  · skip
    unfold mb_inConstant_171
    refine PP.bind (ihM 1 x1 (0 : Int32) F1 G1) ?_
    intro r3 F3 G3 hM3
    dsimp only
    unfold mb_inConstant_177
    refine PP.ite (fun c_4 => ?_) (fun c_4 => ?_)
    · skip
      unfold mb_inConstant_180
      refine PP.ret ?_
      exact (MO.tr (MO.tr hM (MO.kx hM1 rfl rfl)) hM3)
    · skip
      exact mmj_inConstant_182 rc ihM x2 x4 x5 F3 G3 (MO.tr (MO.tr hM (MO.kx hM1 rfl rfl)) hM3)
theorem mmj_inConstant_157 {fu : Nat} (rc : RC) (ihM : mMOI rc) {F0 : PF} (x1 : Int32) (x2 : Int32) (x4 : Int32) (x5 : Int32) (F : PF) (G : PG) (hM : MO F0 F) : PP (mb_inConstant_157 fu rc x1 x2 x4 x5 F G) (fun _ F' _ => MO F0 F') := by
  unfold mb_inConstant_157
  exact mmj_inConstant_162 rc ihM x1 x2 x4 x5 (fup F 55 (1 : Int32)) G (MO.f55 hM)
theorem mmj_inConstant_137 {fu : Nat} (rc : RC) (ihM : mMOI rc) {F0 : PF} (x1 : Int32) (x2 : Int32) (x4 : Int32) (x5 : Int32) (F : PF) (G : PG) (hM : MO F0 F) : PP (mb_inConstant_137 fu rc x1 x2 x4 x5 F G) (fun _ F' _ => MO F0 F') := by
  unfold mb_inConstant_137
  refine PP.ite (fun c_1 => ?_) (fun c_1 => ?_)
  · skip
    exact mmj_inConstant_157 rc ihM x1 x2 x4 x5 F G hM
  · skip
    unfold mb_inConstant_142
    refine PP.ite (fun c_2 => ?_) (fun c_2 => ?_)
    · skip
      unfold mb_inConstant_147
      refine PP.ix (fun _ => ?_)
      refine PP.ite (fun c_3 => ?_) (fun c_3 => ?_)
      · skip
        exact mmj_inConstant_157 rc ihM x1 x2 x4 x5 F G hM
      · skip
        exact mmj_inConstant_162 rc ihM x1 x2 x4 x5 F G hM
    · skip
      exact mmj_inConstant_157 rc ihM x1 x2 x4 x5 F G hM
theorem mmj_inConstant_125 {fu : Nat} (rc : RC) (ihM : mMOI rc) {F0 : PF} (x1 : Int32) (x2 : Int32) (x4 : Int32) (x5 : Int32) (F : PF) (G : PG) (hM : MO F0 F) : PP (mb_inConstant_125 fu rc x1 x2 x4 x5 F G) (fun _ F' _ => MO F0 F') := by
  unfold mb_inConstant_125
  refine PP.ix (fun _ => ?_)
  refine PP.bind (mm_note (10 : Int32) (G 6 x1.toNatClampNeg) (by decide) F G) ?_
  intro r1 F1 G1 hM1
  dsimp only
  exact mmj_inConstant_137 rc ihM x1 x2 x4 x5 F1 G1 (MO.tr hM hM1)
theorem mmj_inConstant_104 {fu : Nat} (rc : RC) (ihM : mMOI rc) {F0 : PF} (x1 : Int32) (x2 : Int32) (x3 : Int32) (x4 : Int32) (x5 : Int32) (F : PF) (G : PG) (hM : MO F0 F) : PP (mb_inConstant_104 fu rc x1 x2 x3 x4 x5 F G) (fun _ F' _ => MO F0 F') := by
  unfold mb_inConstant_104
  refine PP.ite (fun c_1 => ?_) (fun c_1 => ?_)
  · skip
    exact mmj_inConstant_137 rc ihM x1 x2 x4 x5 F G hM
  · skip
    unfold mb_inConstant_111
    refine PP.ite (fun c_2 => ?_) (fun c_2 => ?_)
    · skip
      unfold mb_inConstant_115
      refine PP.ite (fun c_3 => ?_) (fun c_3 => ?_)
      · skip
        exact mmj_inConstant_125 rc ihM x1 x2 x4 x5 F G hM
      · skip
        unfold mb_inConstant_120
        refine PP.ite (fun c_4 => ?_) (fun c_4 => ?_)
        · skip
          exact mmj_inConstant_137 rc ihM x1 x2 x4 x5 F G hM
        · skip
          exact mmj_inConstant_125 rc ihM x1 x2 x4 x5 F G hM
    · skip
      exact mmj_inConstant_137 rc ihM x1 x2 x4 x5 F G hM
theorem mmj_inConstant_80 {fu : Nat} (rc : RC) (ihM : mMOI rc) {F0 : PF} (x1 : Int32) (x2 : Int32) (x3 : Int32) (x4 : Int32) (z0 : Int32) (F : PF) (G : PG) (hM : MO F0 F) : PP (mb_inConstant_80 fu rc x1 x2 x3 x4 z0 F G) (fun _ F' _ => MO F0 F') := by
  unfold mb_inConstant_80
  refine PP.ite (fun c_1 => ?_) (fun c_1 => ?_)
  · skip
    exact mmj_inConstant_104 rc ihM x1 x2 x3 x4 z0 F G hM
  · skip
    unfold mb_inConstant_89
    refine PP.ite (fun c_2 => ?_) (fun c_2 => ?_)
    · skip
      exact mmj_inConstant_104 rc ihM x1 x2 x3 x4 z0 F G hM
    · skip
      unfold mb_inConstant_93
      refine PP.ix (fun _ => ?_)
      refine PP.bind (mm_note (4 : Int32) (G 6 x1.toNatClampNeg) (by decide) F G) ?_
      intro r3 F3 G3 hM3
      dsimp only
      exact mmj_inConstant_104 rc ihM x1 x2 x3 x4 z0 F3 G3 (MO.tr hM hM3)
theorem mmj_inConstant_79 {fu : Nat} (rc : RC) (ihM : mMOI rc) {F0 : PF} (x1 : Int32) (x2 : Int32) (x3 : Int32) (x4 : Int32) (F : PF) (G : PG) (hM : MO F0 F) : PP (mb_inConstant_79 fu rc x1 x2 x3 x4 F G) (fun _ F' _ => MO F0 F') := by
  unfold mb_inConstant_79
  exact mmj_inConstant_80 rc ihM x1 x2 x3 x4 (0 : Int32) F G hM
theorem mmj_inConstant_59 {fu : Nat} (rc : RC) (ihM : mMOI rc) {F0 : PF} (x1 : Int32) (x2 : Int32) (x3 : Int32) (z0 : Int32) (F : PF) (G : PG) (hM : MO F0 F) : PP (mb_inConstant_59 fu rc x1 x2 x3 z0 F G) (fun _ F' _ => MO F0 F') := by
  unfold mb_inConstant_59
  refine PP.ite (fun c_1 => ?_) (fun c_1 => ?_)
  · skip
    exact mmj_inConstant_79 rc ihM x1 x2 x3 z0 F G hM
  · skip
    unfold mb_inConstant_66
    refine PP.ix (fun _ => ?_)
    refine PP.ite (fun c_2 => ?_) (fun c_2 => ?_)
    · skip
      unfold mb_inConstant_75
      exact mmj_inConstant_80 rc ihM x1 x2 x3 z0 (1 : Int32) F G hM
    · skip
      exact mmj_inConstant_79 rc ihM x1 x2 x3 z0 F G hM
theorem mmj_inConstant_54 {fu : Nat} (rc : RC) (ihM : mMOI rc) {F0 : PF} (x1 : Int32) (x2 : Int32) (x3 : Int32) (F : PF) (G : PG) (hM : MO F0 F) : PP (mb_inConstant_54 fu rc x1 x2 x3 F G) (fun _ F' _ => MO F0 F') := by
  unfold mb_inConstant_54
  exact mmj_inConstant_59 rc ihM x1 x2 x3 (1 : Int32) F G hM
theorem mmj_inConstant_35 {fu : Nat} (rc : RC) (ihM : mMOI rc) {F0 : PF} (x1 : Int32) (x2 : Int32) (z0 : Int32) (F : PF) (G : PG) (hM : MO F0 F) : PP (mb_inConstant_35 fu rc x1 x2 z0 F G) (fun _ F' _ => MO F0 F') := by
  unfold mb_inConstant_35
  refine PP.bind (mw_isSign (24 : Int32) F G) ?_
  intro r1 F1 G1 hM1
  dsimp only
  unfold mb_inConstant_42
  refine PP.ite (fun c_2 => ?_) (fun c_2 => ?_)
  · skip
    unfold mb_inConstant_45
    refine PP.bind (mw_isSign (22 : Int32) F1 G1) ?_
    intro r3 F3 G3 hM3
    dsimp only
    unfold mb_inConstant_51
    refine PP.ite (fun c_4 => ?_) (fun c_4 => ?_)
    · skip
      unfold mb_inConstant_58
      exact mmj_inConstant_59 rc ihM x1 x2 z0 (0 : Int32) F3 G3 (MO.tr (MO.tr hM (MO.kx hM1 rfl rfl)) (MO.kx hM3 rfl rfl))
    · skip
      exact mmj_inConstant_54 rc ihM x1 x2 z0 F3 G3 (MO.tr (MO.tr hM (MO.kx hM1 rfl rfl)) (MO.kx hM3 rfl rfl))
  · skip
    exact mmj_inConstant_54 rc ihM x1 x2 z0 F1 G1 (MO.tr hM (MO.kx hM1 rfl rfl))
theorem mmj_inConstant_34 {fu : Nat} (rc : RC) (ihM : mMOI rc) {F0 : PF} (x1 : Int32) (x2 : Int32) (F : PF) (G : PG) (hM : MO F0 F) : PP (mb_inConstant_34 fu rc x1 x2 F G) (fun _ F' _ => MO F0 F') := by
  unfold mb_inConstant_34
  exact mmj_inConstant_35 rc ihM x1 x2 (0 : Int32) F G hM
theorem mmj_inConstant_16 {fu : Nat} (rc : RC) (ihM : mMOI rc) {F0 : PF} (x1 : Int32) (z0 : Int32) (F : PF) (G : PG) (hM : MO F0 F) : PP (mb_inConstant_16 fu rc x1 z0 F G) (fun _ F' _ => MO F0 F') := by
  unfold mb_inConstant_16
  refine PP.ite (fun c_1 => ?_) (fun c_1 => ?_)
  · skip
    unfold mb_inConstant_22
    refine PP.ite (fun c_2 => ?_) (fun c_2 => ?_)
    · skip
      unfold mb_inConstant_30
      exact mmj_inConstant_35 rc ihM x1 z0 (1 : Int32) F G hM
    · skip
      exact mmj_inConstant_34 rc ihM x1 z0 F G hM
  · skip
    exact mmj_inConstant_34 rc ihM x1 z0 F G hM
theorem mmt_inConstant {fu : Nat} (rc : RC) (ihM : mMOI rc) (x1 : Int32) (F : PF) (G : PG) : PP (mh_inConstant fu rc x1 F G) (fun _ F' _ => MO F F') := by
  unfold mh_inConstant
  unfold mb_inConstant_0
  refine PP.ite (fun c_1 => ?_) (fun c_1 => ?_)
  · skip
    unfold mb_inConstant_7
    exact mmj_inConstant_16 rc ihM x1 (-1 : Int32) F G MO.rf
  · skip
    unfold mb_inConstant_11
    refine PP.bind (mw_meaning x1 F G) ?_
    intro r2 F2 G2 hM2
    dsimp only
    exact mmj_inConstant_16 rc ihM x1 r2 F2 G2 (MO.tr MO.rf (MO.kx hM2 rfl rfl))
theorem mmj_named_212 {fu : Nat} (rc : RC) (ihM : mMOI rc) {F0 : PF} (F : PF) (G : PG) (hM : MO F0 F) : PP (mb_named_212 fu rc F G) (fun _ F' _ => MO F0 F') := by
  unfold mb_named_212
  refine PP.ret ?_
  exact hM
theorem mmj_named_207 {fu : Nat} (rc : RC) (ihM : mMOI rc) {F0 : PF} (z0 : Int32) (z1 : Int32) (F : PF) (G : PG) (hM : MO F0 F) : PP (mb_named_207 fu rc z0 z1 F G) (fun _ F' _ => MO F0 F') := by
  unfold mb_named_207
  refine PP.bind (mw_step z1 z0 (0 : Int32) F G) ?_
  intro r1 F1 G1 hM1
  dsimp only
  unfold mb_named_211
  exact mmj_named_212 rc ihM F1 G1 (MO.tr hM (MO.kx hM1 rfl rfl))
theorem mmj_named_192 {fu : Nat} (rc : RC) (ihM : mMOI rc) {F0 : PF} (x2 : Int32) (z0 : Int32) (F : PF) (G : PG) (hM : MO F0 F) : PP (mb_named_192 fu rc x2 z0 F G) (fun _ F' _ => MO F0 F') := by
  unfold mb_named_192
  refine PP.ite (fun c_1 => ?_) (fun c_1 => ?_)
  · skip
    unfold mb_named_197
    exact mmj_named_207 rc ihM (0 : Int32) z0 F G hM
  · skip
    unfold mb_named_201
    refine PP.ix (fun _ => ?_)
    exact mmj_named_207 rc ihM (G 20 x2.toNatClampNeg) z0 F G hM
theorem mmj_named_191 {fu : Nat} (rc : RC) (ihM : mMOI rc) {F0 : PF} (x2 : Int32) (F : PF) (G : PG) (hM : MO F0 F) : PP (mb_named_191 fu rc x2 F G) (fun _ F' _ => MO F0 F') := by
  unfold mb_named_191
  exact mmj_named_192 rc ihM x2 (3 : Int32) F G hM
theorem mmj_named_172 {fu : Nat} (rc : RC) (ihM : mMOI rc) {F0 : PF} (x2 : Int32) (F : PF) (G : PG) (hM : MO F0 F) : PP (mb_named_172 fu rc x2 F G) (fun _ F' _ => MO F0 F') := by
  unfold mb_named_172
  refine PP.ite (fun c_1 => ?_) (fun c_1 => ?_)
  · skip
    exact mmj_named_191 rc ihM x2 F G hM
  · skip
    unfold mb_named_178
    refine PP.ix (fun _ => ?_)
    refine PP.ite (fun c_2 => ?_) (fun c_2 => ?_)
    · skip
      exact mmj_named_191 rc ihM x2 F G hM
    · skip
      unfold mb_named_187
      exact mmj_named_192 rc ihM x2 (1 : Int32) F G hM
theorem mmj_named_115 {fu : Nat} (rc : RC) (ihM : mMOI rc) {F0 : PF} (x2 : Int32) (x4 : Int32) (F : PF) (G : PG) (hM : MO F0 F) : PP (mb_named_115 fu rc x2 x4 F G) (fun _ F' _ => MO F0 F') := by
  unfold mb_named_115
  refine PP.ite (fun c_1 => ?_) (fun c_1 => ?_)
  · skip
    unfold mb_named_142
    refine PP.ite (fun c_2 => ?_) (fun c_2 => ?_)
    · skip
      exact mmj_named_172 rc ihM x2 F G hM
    · skip
      unfold mb_named_147
      refine PP.ix (fun _ => ?_)
      refine PP.ite (fun c_3 => ?_) (fun c_3 => ?_)
      · skip
        unfold mb_named_156
        refine PP.ix (fun _ => ?_)
        refine PP.bind (mw_step (0 : Int32) (G 20 x2.toNatClampNeg) (0 : Int32) F G) ?_
        intro r4 F4 G4 hM4
        dsimp only
        unfold mb_named_168
        exact mmj_named_212 rc ihM F4 G4 (MO.tr hM (MO.kx hM4 rfl rfl))
      · skip
        exact mmj_named_172 rc ihM x2 F G hM
  · skip
    unfold mb_named_120
    refine PP.bind (ihM 3 x2 0 F G) ?_
    intro r5 F5 G5 hM5
    dsimp only
    unfold mb_named_125
    refine PP.ite (fun c_6 => ?_) (fun c_6 => ?_)
    · skip
      unfold mb_named_128
      refine PP.ret ?_
      exact (MO.tr hM hM5)
    · skip
      unfold mb_named_130
      refine PP.bind (mw_step (7 : Int32) (0 : Int32) (0 : Int32) F5 G5) ?_
      intro r7 F7 G7 hM7
      dsimp only
      unfold mb_named_138
      exact mmj_named_212 rc ihM F7 G7 (MO.tr (MO.tr hM hM5) (MO.kx hM7 rfl rfl))
theorem mmj_named_103 {fu : Nat} (rc : RC) (ihM : mMOI rc) {F0 : PF} (x1 : Int32) (x2 : Int32) (x4 : Int32) (F : PF) (G : PG) (hM : MO F0 F) : PP (mb_named_103 fu rc x1 x2 x4 F G) (fun _ F' _ => MO F0 F') := by
  unfold mb_named_103
  refine PP.ix (fun _ => ?_)
  refine PP.bind (mm_note (6 : Int32) (G 6 x1.toNatClampNeg) (by decide) F G) ?_
  intro r1 F1 G1 hM1
  dsimp only
  exact mmj_named_115 rc ihM x2 x4 F1 G1 (MO.tr hM hM1)
theorem mmj_named_100 {fu : Nat} (rc : RC) (ihM : mMOI rc) {F0 : PF} (x1 : Int32) (x2 : Int32) (x4 : Int32) (z0 : Int32) (z1 : Int32) (F : PF) (G : PG) (hM : MO F0 F) : PP (mb_named_100 fu rc x1 x2 x4 z0 z1 F G) (fun _ F' _ => MO F0 F') := by
  unfold mb_named_100
  refine PP.ite (fun c_1 => ?_) (fun c_1 => ?_)
  · skip
    exact mmj_named_115 rc ihM x2 x4 F G hM
  · skip
    exact mmj_named_103 rc ihM x1 x2 x4 F G hM
theorem mmj_named_51 {fu : Nat} (rc : RC) (ihM : mMOI rc) {F0 : PF} (x1 : Int32) (x2 : Int32) (z0 : Int32) (F : PF) (G : PG) (hM : MO F0 F) : PP (mb_named_51 fu rc x1 x2 z0 F G) (fun _ F' _ => MO F0 F') := by
  unfold mb_named_51
  refine PP.bind (mw_isSign (24 : Int32) F G) ?_
  intro r1 F1 G1 hM1
  dsimp only
  unfold mb_named_58
  refine PP.ite (fun c_2 => ?_) (fun c_2 => ?_)
  · skip
    unfold mb_named_78
    refine PP.ite (fun c_3 => ?_) (fun c_3 => ?_)
    · skip
      exact mmj_named_103 rc ihM x1 x2 r1 F1 G1 (MO.tr hM (MO.kx hM1 rfl rfl))
    · skip
      unfold mb_named_83
      refine PP.ix (fun _ => ?_)
      refine PP.ite (fun c_4 => ?_) (fun c_4 => ?_)
      · skip
        unfold mb_named_95
        exact mmj_named_100 rc ihM x1 x2 r1 (1 : Int32) r1 F1 G1 (MO.tr hM (MO.kx hM1 rfl rfl))
      · skip
        unfold mb_named_99
        exact mmj_named_100 rc ihM x1 x2 r1 (0 : Int32) r1 F1 G1 (MO.tr hM (MO.kx hM1 rfl rfl))
  · skip
    unfold mb_named_64
    refine PP.ix (fun _ => ?_)
    refine PP.bind (mm_note (4 : Int32) (G1 6 x1.toNatClampNeg) (by decide) F1 G1) ?_
    intro r5 F5 G5 hM5
    dsimp only
    unfold mb_named_75
    exact mmj_named_115 rc ihM x2 r1 F5 G5 (MO.tr (MO.tr hM (MO.kx hM1 rfl rfl)) hM5)
theorem mmj_named_50 {fu : Nat} (rc : RC) (ihM : mMOI rc) {F0 : PF} (x1 : Int32) (x2 : Int32) (F : PF) (G : PG) (hM : MO F0 F) : PP (mb_named_50 fu rc x1 x2 F G) (fun _ F' _ => MO F0 F') := by
  unfold mb_named_50
  exact mmj_named_51 rc ihM x1 x2 (0 : Int32) F G hM
theorem mmj_named_32 {fu : Nat} (rc : RC) (ihM : mMOI rc) {F0 : PF} (x1 : Int32) (z0 : Int32) (F : PF) (G : PG) (hM : MO F0 F) : PP (mb_named_32 fu rc x1 z0 F G) (fun _ F' _ => MO F0 F') := by
  unfold mb_named_32
  refine PP.ite (fun c_1 => ?_) (fun c_1 => ?_)
  · skip
    unfold mb_named_38
    refine PP.ite (fun c_2 => ?_) (fun c_2 => ?_)
    · skip
      unfold mb_named_46
      exact mmj_named_51 rc ihM x1 z0 (1 : Int32) F G hM
    · skip
      exact mmj_named_50 rc ihM x1 z0 F G hM
  · skip
    exact mmj_named_50 rc ihM x1 z0 F G hM
theorem mmt_named {fu : Nat} (rc : RC) (ihM : mMOI rc) (x1 : Int32) (F : PF) (G : PG) : PP (mh_named fu rc x1 F G) (fun _ F' _ => MO F F') := by
  unfold mh_named
  unfold mb_named_0
  refine PP.bind (mw_isSign (22 : Int32) F G) ?_
  intro r1 F1 G1 hM1
  dsimp only
  unfold mb_named_6
  refine PP.ite (fun c_2 => ?_) (fun c_2 => ?_)
  · skip
    unfold mb_named_16
    refine PP.ite (fun c_3 => ?_) (fun c_3 => ?_)
    · skip
      unfold mb_named_23
      exact mmj_named_32 rc ihM x1 (-1 : Int32) F1 G1 (MO.tr MO.rf (MO.kx hM1 rfl rfl))
    · skip
      unfold mb_named_27
      refine PP.bind (mw_meaning x1 F1 G1) ?_
      intro r4 F4 G4 hM4
      dsimp only
      exact mmj_named_32 rc ihM x1 r4 F4 G4 (MO.tr (MO.tr MO.rf (MO.kx hM1 rfl rfl)) (MO.kx hM4 rfl rfl))
  · skip
    unfold mb_named_9
    refine PP.bind (ihM 1 x1 (1 : Int32) F1 G1) ?_
    intro r5 F5 G5 hM5
    dsimp only
    unfold mb_named_15
    refine PP.bz (fun _ => ?_)
    refine PP.ret ?_
    exact (MO.tr (MO.tr MO.rf (MO.kx hM1 rfl rfl)) hM5)
theorem mmz_operand_63 {fu : Nat} (rc : RC) (ihM : mMOI rc) {F0 : PF} : ∀ (n : Nat) (x1 : Int32) (x3 : Int32) (F : PF) (G : PG) (hM : MO F0 F), PP (ml_operand_63 fu rc n x1 x3 F G) (fun _ F' _ => MO F0 F') := by
  intro n
  induction n with
  | zero =>
    intro x1 x3 F G hM
    exact PP.no
  | succ n ihn =>
    intro x1 x3 F G hM
    show PP (mb_operand_63 fu rc (ml_operand_63 fu rc n) x1 x3 F G) _
    unfold mb_operand_63
    refine PP.ite (fun c_1 => ?_) (fun c_1 => ?_)
    · skip
      unfold mb_operand_88
      refine PP.ret ?_
      exact hM
    · skip
      unfold mb_operand_68
      refine PP.ix (fun _ => ?_)
      refine PP.bind (mw_step (11 : Int32) (G 5 x3.toNatClampNeg) (0 : Int32) F G) ?_
      intro r2 F2 G2 hM2
      dsimp only
      unfold mb_operand_81
      exact ihn x1 (x3 + (-1 : Int32)) F2 G2 (MO.tr hM (MO.kx hM2 rfl rfl))
theorem mmj_operand_32 {fu : Nat} (rc : RC) (ihM : mMOI rc) {F0 : PF} (ag_5 : Int32 → PF → PG → PR) (hag_5 : ∀ (x1 : Int32) (F : PF) (G : PG) (hM : MO F0 F), PP (ag_5 x1 F G) (fun _ F' _ => MO F0 F')) (x1 : Int32) (F : PF) (G : PG) (hM : MO F0 F) : PP (mb_operand_32 fu rc ag_5 x1 F G) (fun _ F' _ => MO F0 F') := by
  unfold mb_operand_32
  unfold mb_operand_42
  exact hag_5 x1 (fup F 42 ((F 42) + (1 : Int32))) G (MO.f (k := 42) (by decide) (by decide) hM)
theorem mmz_operand_5 {fu : Nat} (rc : RC) (ihM : mMOI rc) {F0 : PF} : ∀ (n : Nat) (x1 : Int32) (F : PF) (G : PG) (hM : MO F0 F), PP (ml_operand_5 fu rc n x1 F G) (fun _ F' _ => MO F0 F') := by
  intro n
  induction n with
  | zero =>
    intro x1 F G hM
    exact PP.no
  | succ n ihn =>
    intro x1 F G hM
    show PP (mb_operand_5 fu rc (ml_operand_5 fu rc n) x1 F G) _
    unfold mb_operand_5
    refine PP.bind (mw_isSign (39 : Int32) F G) ?_
    intro r1 F1 G1 hM1
    dsimp only
    unfold mb_operand_11
    refine PP.ite (fun c_2 => ?_) (fun c_2 => ?_)
    · skip
      unfold mb_operand_14
      refine PP.bind (mw_isSign (43 : Int32) F1 G1) ?_
      intro r3 F3 G3 hM3
      dsimp only
      unfold mb_operand_20
      refine PP.ite (fun c_4 => ?_) (fun c_4 => ?_)
      · skip
        unfold mb_operand_23
        refine PP.bind (mw_isSign (44 : Int32) F3 G3) ?_
        intro r5 F5 G5 hM5
        dsimp only
        unfold mb_operand_29
        refine PP.ite (fun c_6 => ?_) (fun c_6 => ?_)
        · skip
          unfold mb_operand_45
          refine PP.bind (ihM 8 0 0 F5 G5) ?_
          intro r7 F7 G7 hM7
          dsimp only
          unfold mb_operand_54
          refine PP.ite (fun c_8 => ?_) (fun c_8 => ?_)
          · skip
            unfold mb_operand_57
            refine PP.ret ?_
            exact (MO.tr (MO.tr (MO.tr (MO.tr hM (MO.kx hM1 rfl rfl)) (MO.kx hM3 rfl rfl)) (MO.kx hM5 rfl rfl)) hM7)
          · skip
            unfold mb_operand_59
            exact mmz_operand_63 rc ihM fu x1 ((F5 42) - (1 : Int32)) F7 G7 (MO.tr (MO.tr (MO.tr (MO.tr hM (MO.kx hM1 rfl rfl)) (MO.kx hM3 rfl rfl)) (MO.kx hM5 rfl rfl)) hM7)
        · skip
          exact mmj_operand_32 rc ihM (ml_operand_5 fu rc n) ihn x1 F5 G5 (MO.tr (MO.tr (MO.tr hM (MO.kx hM1 rfl rfl)) (MO.kx hM3 rfl rfl)) (MO.kx hM5 rfl rfl))
      · skip
        exact mmj_operand_32 rc ihM (ml_operand_5 fu rc n) ihn x1 F3 G3 (MO.tr (MO.tr hM (MO.kx hM1 rfl rfl)) (MO.kx hM3 rfl rfl))
    · skip
      exact mmj_operand_32 rc ihM (ml_operand_5 fu rc n) ihn x1 F1 G1 (MO.tr hM (MO.kx hM1 rfl rfl))
theorem mmt_operand {fu : Nat} (rc : RC) (ihM : mMOI rc) (F : PF) (G : PG) : PP (mh_operand fu rc F G) (fun _ F' _ => MO F F') := by
  unfold mh_operand
  unfold mb_operand_0
  exact mmz_operand_5 rc ihM fu (F 42) F G MO.rf
theorem mmj_plain_210 {fu : Nat} (rc : RC) (ihM : mMOI rc) {F0 : PF} (z0 : Int32) (F : PF) (G : PG) (hM : MO F0 F) : PP (mb_plain_210 fu rc z0 F G) (fun _ F' _ => MO F0 F') := by
  unfold mb_plain_210
  refine PP.bz (fun _ => ?_)
  refine PP.ret ?_
  exact hM
theorem mmj_plain_143 {fu : Nat} (rc : RC) (ihM : mMOI rc) {F0 : PF} (F : PF) (G : PG) (hM : MO F0 F) : PP (mb_plain_143 fu rc F G) (fun _ F' _ => MO F0 F') := by
  unfold mb_plain_143
  refine PP.ret ?_
  exact hM
theorem mmj_plain_115 {fu : Nat} (rc : RC) (ihM : mMOI rc) {F0 : PF} (F : PF) (G : PG) (hM : MO F0 F) : PP (mb_plain_115 fu rc F G) (fun _ F' _ => MO F0 F') := by
  unfold mb_plain_115
  unfold mb_plain_125
  refine PP.bind (mw_openSign (22 : Int32) (fup F 42 ((F 42) + (1 : Int32))) G) ?_
  intro r1 F1 G1 hM1
  dsimp only
  unfold mb_plain_131
  refine PP.ite (fun c_2 => ?_) (fun c_2 => ?_)
  · skip
    exact mmj_plain_143 rc ihM F1 G1 (MO.tr (MO.f (k := 42) (by decide) (by decide) hM) (MO.kx hM1 rfl rfl))
  · skip
    unfold mb_plain_134
    refine PP.bind (mw_closeSign (23 : Int32) F1 G1) ?_
    intro r3 F3 G3 hM3
    dsimp only
    unfold mb_plain_140
    refine PP.ite (fun c_4 => ?_) (fun c_4 => ?_)
    · skip
      exact mmj_plain_143 rc ihM F3 G3 (MO.tr (MO.tr (MO.f (k := 42) (by decide) (by decide) hM) (MO.kx hM1 rfl rfl)) (MO.kx hM3 rfl rfl))
    · skip
      unfold mb_plain_145
      refine PP.bind (mw_step (21 : Int32) (0 : Int32) (0 : Int32) F3 G3) ?_
      intro r5 F5 G5 hM5
      dsimp only
      unfold mb_plain_153
      refine PP.ret ?_
      exact (MO.tr (MO.tr (MO.tr (MO.f (k := 42) (by decide) (by decide) hM) (MO.kx hM1 rfl rfl)) (MO.kx hM3 rfl rfl)) (MO.kx hM5 rfl rfl))
theorem mmj_plain_78 {fu : Nat} (rc : RC) (ihM : mMOI rc) {F0 : PF} (z0 : Int32) (F : PF) (G : PG) (hM : MO F0 F) : PP (mb_plain_78 fu rc z0 F G) (fun _ F' _ => MO F0 F') := by
  unfold mb_plain_78
  refine PP.bz (fun _ => ?_)
  refine PP.ret ?_
  exact hM
theorem mmj_plain_77 {fu : Nat} (rc : RC) (ihM : mMOI rc) {F0 : PF} (F : PF) (G : PG) (hM : MO F0 F) : PP (mb_plain_77 fu rc F G) (fun _ F' _ => MO F0 F') := by
  unfold mb_plain_77
  exact mmj_plain_78 rc ihM (0 : Int32) F G hM
theorem mmt_plain {fu : Nat} (rc : RC) (ihM : mMOI rc) (F : PF) (G : PG) : PP (mh_plain fu rc F G) (fun _ F' _ => MO F F') := by
  unfold mh_plain
  unfold mb_plain_0
  refine PP.ix (fun _ => ?_)
  refine PP.ite (fun c_1 => ?_) (fun c_1 => ?_)
  · skip
    unfold mb_plain_13
    refine PP.ix (fun _ => ?_)
    refine PP.bind (mw_step (0 : Int32) (G 5 (F 42).toNatClampNeg) (0 : Int32) F G) ?_
    intro r2 F2 G2 hM2
    dsimp only
    unfold mb_plain_28
    unfold mb_plain_39
    refine PP.ret ?_
    exact (MO.f (k := 42) (by decide) (by decide) (MO.tr MO.rf (MO.kx hM2 rfl rfl)))
  · skip
    unfold mb_plain_41
    refine PP.bind (mw_isSign (22 : Int32) F G) ?_
    intro r3 F3 G3 hM3
    dsimp only
    unfold mb_plain_47
    refine PP.ite (fun c_4 => ?_) (fun c_4 => ?_)
    · skip
      unfold mb_plain_79
      refine PP.bind (mw_isWord (13 : Int32) F3 G3) ?_
      intro r5 F5 G5 hM5
      dsimp only
      unfold mb_plain_85
      refine PP.ite (fun c_6 => ?_) (fun c_6 => ?_)
      · skip
        unfold mb_plain_156
        refine PP.ix (fun _ => ?_)
        refine PP.ite (fun c_7 => ?_) (fun c_7 => ?_)
        · skip
          unfold mb_plain_175
          unfold mb_plain_190
          refine PP.ite (fun c_8 => ?_) (fun c_8 => ?_)
          · skip
            unfold mb_plain_205
            refine PP.bind (ihM 6 (F5 42) 0 (fup F5 42 ((F5 42) + (1 : Int32))) G5) ?_
            intro r9 F9 G9 hM9
            dsimp only
            exact mmj_plain_210 rc ihM r9 F9 G9 (MO.tr (MO.f (k := 42) (by decide) (by decide) (MO.tr (MO.tr MO.rf (MO.kx hM3 rfl rfl)) (MO.kx hM5 rfl rfl))) hM9)
          · skip
            unfold mb_plain_197
            refine PP.bind (ihM 5 (F5 42) 0 (fup F5 42 ((F5 42) + (1 : Int32))) G5) ?_
            intro r10 F10 G10 hM10
            dsimp only
            unfold mb_plain_202
            exact mmj_plain_210 rc ihM r10 F10 G10 (MO.tr (MO.f (k := 42) (by decide) (by decide) (MO.tr (MO.tr MO.rf (MO.kx hM3 rfl rfl)) (MO.kx hM5 rfl rfl))) hM10)
        · skip
          unfold mb_plain_169
          refine PP.bind (mw_fails (2 : Int32) F5 G5) ?_
          intro r11 F11 G11 hM11
          dsimp only
          unfold mb_plain_174
          refine PP.bz (fun _ => ?_)
          refine PP.ret ?_
          exact (MO.tr (MO.tr (MO.tr MO.rf (MO.kx hM3 rfl rfl)) (MO.kx hM5 rfl rfl)) (MO.kx hM11 rfl rfl))
      · skip
        unfold mb_plain_88
        refine PP.ite (fun c_12 => ?_) (fun c_12 => ?_)
        · skip
          exact mmj_plain_115 rc ihM F5 G5 (MO.tr (MO.tr MO.rf (MO.kx hM3 rfl rfl)) (MO.kx hM5 rfl rfl))
        · skip
          unfold mb_plain_95
          refine PP.ix (fun _ => ?_)
          refine PP.bind (mm_note (10 : Int32) (G5 6 (F5 42).toNatClampNeg) (by decide) F5 G5) ?_
          intro r13 F13 G13 hM13
          dsimp only
          unfold mb_plain_110
          exact mmj_plain_115 rc ihM (fup F13 55 (1 : Int32)) G13 (MO.f55 (MO.tr (MO.tr (MO.tr MO.rf (MO.kx hM3 rfl rfl)) (MO.kx hM5 rfl rfl)) hM13))
    · skip
      unfold mb_plain_50
      refine PP.bind (mw_opens F3 G3) ?_
      intro r14 F14 G14 hM14
      dsimp only
      unfold mb_plain_54
      refine PP.ite (fun c_15 => ?_) (fun c_15 => ?_)
      · skip
        exact mmj_plain_77 rc ihM F14 G14 (MO.tr (MO.tr MO.rf (MO.kx hM3 rfl rfl)) (MO.kx hM14 rfl rfl))
      · skip
        unfold mb_plain_57
        refine PP.bind (ihM 4 0 0 F14 G14) ?_
        intro r16 F16 G16 hM16
        dsimp only
        unfold mb_plain_61
        refine PP.ite (fun c_17 => ?_) (fun c_17 => ?_)
        · skip
          exact mmj_plain_77 rc ihM F16 G16 (MO.tr (MO.tr (MO.tr MO.rf (MO.kx hM3 rfl rfl)) (MO.kx hM14 rfl rfl)) hM16)
        · skip
          unfold mb_plain_64
          refine PP.bind (mw_closeSign (23 : Int32) F16 G16) ?_
          intro r18 F18 G18 hM18
          dsimp only
          unfold mb_plain_70
          refine PP.ite (fun c_19 => ?_) (fun c_19 => ?_)
          · skip
            exact mmj_plain_77 rc ihM F18 G18 (MO.tr (MO.tr (MO.tr (MO.tr MO.rf (MO.kx hM3 rfl rfl)) (MO.kx hM14 rfl rfl)) hM16) (MO.kx hM18 rfl rfl))
          · skip
            unfold mb_plain_73
            exact mmj_plain_78 rc ihM (1 : Int32) F18 G18 (MO.tr (MO.tr (MO.tr (MO.tr MO.rf (MO.kx hM3 rfl rfl)) (MO.kx hM14 rfl rfl)) hM16) (MO.kx hM18 rfl rfl))
theorem mmS1 {fu : Nat} : ∀ d : Nat, mMOI (mS1 fu d) := by
  intro d
  induction d with
  | zero => exact fun _ _ _ _ _ => PP.no
  | succ d ih =>
    intro i x y F G
    exact PP.ite (fun _ => mmt_argument (mS1 fu d) ih x y F G) (fun _ => PP.ite (fun _ => mmt_call (mS1 fu d) ih x y F G) (fun _ => PP.ite (fun _ => mmt_chain (mS1 fu d) ih F G) (fun _ => PP.ite (fun _ => mmt_element (mS1 fu d) ih x F G) (fun _ => PP.ite (fun _ => mmt_expression (mS1 fu d) ih F G) (fun _ => PP.ite (fun _ => mmt_inConstant (mS1 fu d) ih x F G) (fun _ => PP.ite (fun _ => mmt_named (mS1 fu d) ih x F G) (fun _ => PP.ite (fun _ => mmt_operand (mS1 fu d) ih F G) (fun _ => PP.ite (fun _ => mmt_plain (mS1 fu d) ih F G) (fun _ => PP.no)))))))))
theorem mm_argument {fu : Nat} (x : Int32) (y : Int32) (F : PF) (G : PG) : PP (mf_argument fu x y F G) (fun _ F' _ => MO F F') := mmS1 300 0 x y F G
theorem mm_call {fu : Nat} (x : Int32) (y : Int32) (F : PF) (G : PG) : PP (mf_call fu x y F G) (fun _ F' _ => MO F F') := mmS1 300 1 x y F G
theorem mm_chain {fu : Nat} (F : PF) (G : PG) : PP (mf_chain fu F G) (fun _ F' _ => MO F F') := mmS1 300 2 0 0 F G
theorem mm_element {fu : Nat} (x : Int32) (F : PF) (G : PG) : PP (mf_element fu x F G) (fun _ F' _ => MO F F') := mmS1 300 3 x 0 F G
theorem mm_expression {fu : Nat} (F : PF) (G : PG) : PP (mf_expression fu F G) (fun _ F' _ => MO F F') := mmS1 300 4 0 0 F G
theorem mm_inConstant {fu : Nat} (x : Int32) (F : PF) (G : PG) : PP (mf_inConstant fu x F G) (fun _ F' _ => MO F F') := mmS1 300 5 x 0 F G
theorem mm_named {fu : Nat} (x : Int32) (F : PF) (G : PG) : PP (mf_named fu x F G) (fun _ F' _ => MO F F') := mmS1 300 6 x 0 F G
theorem mm_operand {fu : Nat} (F : PF) (G : PG) : PP (mf_operand fu F G) (fun _ F' _ => MO F F') := mmS1 300 7 0 0 F G
theorem mm_plain {fu : Nat} (F : PF) (G : PG) : PP (mf_plain fu F G) (fun _ F' _ => MO F F') := mmS1 300 8 0 0 F G
