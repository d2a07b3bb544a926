theorem nqj_array_384 {fu : Nat} {F0 : PF} (ag_297 : Int32 → Int32 → Int32 → Int32 → Int32 → Int32 → Int32 → PF → PG → PR) (hag_297 : ∀ (x1 : Int32) (x2 : Int32) (x3 : Int32) (x4 : Int32) (x7 : Int32) (x8 : Int32) (x9 : Int32) (F : PF) (G : PG) (hM : MFS F0 F), PP (ag_297 x1 x2 x3 x4 x7 x8 x9 F G) (fun _ F' _ => MFS F0 F')) (x1 : Int32) (x2 : Int32) (x3 : Int32) (x4 : Int32) (x7 : Int32) (x8 : Int32) (F : PF) (G : PG) (hM : MFS F0 F) : PP (mb_array_384 fu ag_297 x1 x2 x3 x4 x7 x8 F G) (fun _ F' _ => MFS F0 F') := by
  unfold mb_array_384
  refine PP.ite (fun c_1 => ?_) (fun c_1 => ?_)
  · skip
    exact nqj_array_394 ag_297 hag_297 x1 x2 x3 x4 x7 (x8 + (1 : Int32)) F G hM
  · skip
    exact nqj_array_407 ag_297 hag_297 x1 x2 x3 x4 x7 (x8 + (1 : Int32)) F G hM
theorem nqj_array_383 {fu : Nat} {F0 : PF} (ag_297 : Int32 → Int32 → Int32 → Int32 → Int32 → Int32 → Int32 → PF → PG → PR) (hag_297 : ∀ (x1 : Int32) (x2 : Int32) (x3 : Int32) (x4 : Int32) (x7 : Int32) (x8 : Int32) (x9 : Int32) (F : PF) (G : PG) (hM : MFS F0 F), PP (ag_297 x1 x2 x3 x4 x7 x8 x9 F G) (fun _ F' _ => MFS F0 F')) (x1 : Int32) (x2 : Int32) (x3 : Int32) (x4 : Int32) (x7 : Int32) (x8 : Int32) (z0 : Int32) (z1 : Int32) (F : PF) (G : PG) (hM : MFS F0 F) : PP (mb_array_383 fu ag_297 x1 x2 x3 x4 x7 x8 z0 z1 F G) (fun _ F' _ => MFS F0 F') := by
  unfold mb_array_383
  refine PP.ix (fun _ => ?_)
  exact nqj_array_384 ag_297 hag_297 x1 x2 x3 x4 x7 x8 F (gup G 41 z1.toNatClampNeg z0) hM
theorem nqj_array_381 {fu : Nat} {F0 : PF} (ag_297 : Int32 → Int32 → Int32 → Int32 → Int32 → Int32 → Int32 → PF → PG → PR) (hag_297 : ∀ (x1 : Int32) (x2 : Int32) (x3 : Int32) (x4 : Int32) (x7 : Int32) (x8 : Int32) (x9 : Int32) (F : PF) (G : PG) (hM : MFS F0 F), PP (ag_297 x1 x2 x3 x4 x7 x8 x9 F G) (fun _ F' _ => MFS F0 F')) (x1 : Int32) (x2 : Int32) (x3 : Int32) (x4 : Int32) (x7 : Int32) (x8 : Int32) (x11 : Int32) (z0 : Int32) (F : PF) (G : PG) (hM : MFS F0 F) : PP (mb_array_381 fu ag_297 x1 x2 x3 x4 x7 x8 x11 z0 F G) (fun _ F' _ => MFS F0 F') := by
  unfold mb_array_381
  exact nqj_array_383 ag_297 hag_297 x1 x2 x3 x4 x7 x8 x11 z0 F G hM
theorem nqj_array_372 {fu : Nat} {F0 : PF} (ag_297 : Int32 → Int32 → Int32 → Int32 → Int32 → Int32 → Int32 → PF → PG → PR) (hag_297 : ∀ (x1 : Int32) (x2 : Int32) (x3 : Int32) (x4 : Int32) (x7 : Int32) (x8 : Int32) (x9 : Int32) (F : PF) (G : PG) (hM : MFS F0 F), PP (ag_297 x1 x2 x3 x4 x7 x8 x9 F G) (fun _ F' _ => MFS F0 F')) (x1 : Int32) (x2 : Int32) (x3 : Int32) (x4 : Int32) (x7 : Int32) (x8 : Int32) (x11 : Int32) (z0 : Int32) (F : PF) (G : PG) (hM : MFS F0 F) : PP (mb_array_372 fu ag_297 x1 x2 x3 x4 x7 x8 x11 z0 F G) (fun _ F' _ => MFS F0 F') := by
  unfold mb_array_372
  exact nqj_array_383 ag_297 hag_297 x1 x2 x3 x4 x7 x8 (x11 &&& (255 : Int32)) z0 F G hM
theorem nqj_array_359 {fu : Nat} {F0 : PF} (ag_297 : Int32 → Int32 → Int32 → Int32 → Int32 → Int32 → Int32 → PF → PG → PR) (hag_297 : ∀ (x1 : Int32) (x2 : Int32) (x3 : Int32) (x4 : Int32) (x7 : Int32) (x8 : Int32) (x9 : Int32) (F : PF) (G : PG) (hM : MFS F0 F), PP (ag_297 x1 x2 x3 x4 x7 x8 x9 F G) (fun _ F' _ => MFS F0 F')) (x1 : Int32) (x2 : Int32) (x3 : Int32) (x4 : Int32) (x7 : Int32) (x8 : Int32) (x11 : Int32) (F : PF) (G : PG) (hM : MFS F0 F) : PP (mb_array_359 fu ag_297 x1 x2 x3 x4 x7 x8 x11 F G) (fun _ F' _ => MFS F0 F') := by
  unfold mb_array_359
  refine PP.ite (fun c_1 => ?_) (fun c_1 => ?_)
  · skip
    exact nqj_array_381 ag_297 hag_297 x1 x2 x3 x4 x7 x8 x11 (x4 + x8) F G hM
  · skip
    exact nqj_array_372 ag_297 hag_297 x1 x2 x3 x4 x7 x8 x11 (x4 + x8) F G hM
theorem nqj_array_352 {fu : Nat} {F0 : PF} (ag_297 : Int32 → Int32 → Int32 → Int32 → Int32 → Int32 → Int32 → PF → PG → PR) (hag_297 : ∀ (x1 : Int32) (x2 : Int32) (x3 : Int32) (x4 : Int32) (x7 : Int32) (x8 : Int32) (x9 : Int32) (F : PF) (G : PG) (hM : MFS F0 F), PP (ag_297 x1 x2 x3 x4 x7 x8 x9 F G) (fun _ F' _ => MFS F0 F')) (x1 : Int32) (x2 : Int32) (x3 : Int32) (x4 : Int32) (x7 : Int32) (x8 : Int32) (x11 : Int32) (F : PF) (G : PG) (hM : MFS F0 F) : PP (mb_array_352 fu ag_297 x1 x2 x3 x4 x7 x8 x11 F G) (fun _ F' _ => MFS F0 F') := by
  unfold mb_array_352
  refine PP.ite (fun c_1 => ?_) (fun c_1 => ?_)
  · skip
    exact nqj_array_384 ag_297 hag_297 x1 x2 x3 x4 x7 x8 F G hM
  · skip
    exact nqj_array_359 ag_297 hag_297 x1 x2 x3 x4 x7 x8 x11 F G hM
theorem nqj_array_345 {fu : Nat} {F0 : PF} (ag_297 : Int32 → Int32 → Int32 → Int32 → Int32 → Int32 → Int32 → PF → PG → PR) (hag_297 : ∀ (x1 : Int32) (x2 : Int32) (x3 : Int32) (x4 : Int32) (x7 : Int32) (x8 : Int32) (x9 : Int32) (F : PF) (G : PG) (hM : MFS F0 F), PP (ag_297 x1 x2 x3 x4 x7 x8 x9 F G) (fun _ F' _ => MFS F0 F')) (x1 : Int32) (x2 : Int32) (x3 : Int32) (x4 : Int32) (x7 : Int32) (x8 : Int32) (x11 : Int32) (F : PF) (G : PG) (hM : MFS F0 F) : PP (mb_array_345 fu ag_297 x1 x2 x3 x4 x7 x8 x11 F G) (fun _ F' _ => MFS F0 F') := by
  unfold mb_array_345
  refine PP.ite (fun c_1 => ?_) (fun c_1 => ?_)
  · skip
    exact nqj_array_384 ag_297 hag_297 x1 x2 x3 x4 x7 x8 F G hM
  · skip
    exact nqj_array_352 ag_297 hag_297 x1 x2 x3 x4 x7 x8 x11 F G hM
theorem nqj_array_337 {fu : Nat} {F0 : PF} (ag_297 : Int32 → Int32 → Int32 → Int32 → Int32 → Int32 → Int32 → PF → PG → PR) (hag_297 : ∀ (x1 : Int32) (x2 : Int32) (x3 : Int32) (x4 : Int32) (x7 : Int32) (x8 : Int32) (x9 : Int32) (F : PF) (G : PG) (hM : MFS F0 F), PP (ag_297 x1 x2 x3 x4 x7 x8 x9 F G) (fun _ F' _ => MFS F0 F')) (x1 : Int32) (x2 : Int32) (x3 : Int32) (x4 : Int32) (x7 : Int32) (x8 : Int32) (x10 : Int32) (x11 : Int32) (F : PF) (G : PG) (hM : MFS F0 F) : PP (mb_array_337 fu ag_297 x1 x2 x3 x4 x7 x8 x10 x11 F G) (fun _ F' _ => MFS F0 F') := by
  unfold mb_array_337
  refine PP.bind (nq_note (10 : Int32) x10 (by decide) F G) ?_
  intro r1 F1 G1 hM1
  dsimp only
  exact nqj_array_345 ag_297 hag_297 x1 x2 x3 x4 x7 x8 x11 F1 G1 (MFS.tr hM hM1)
theorem nqj_array_331 {fu : Nat} {F0 : PF} (ag_297 : Int32 → Int32 → Int32 → Int32 → Int32 → Int32 → Int32 → PF → PG → PR) (hag_297 : ∀ (x1 : Int32) (x2 : Int32) (x3 : Int32) (x4 : Int32) (x7 : Int32) (x8 : Int32) (x9 : Int32) (F : PF) (G : PG) (hM : MFS F0 F), PP (ag_297 x1 x2 x3 x4 x7 x8 x9 F G) (fun _ F' _ => MFS F0 F')) (x1 : Int32) (x2 : Int32) (x3 : Int32) (x4 : Int32) (x7 : Int32) (x8 : Int32) (x10 : Int32) (x11 : Int32) (F : PF) (G : PG) (hM : MFS F0 F) : PP (mb_array_331 fu ag_297 x1 x2 x3 x4 x7 x8 x10 x11 F G) (fun _ F' _ => MFS F0 F') := by
  unfold mb_array_331
  refine PP.ite (fun c_1 => ?_) (fun c_1 => ?_)
  · skip
    exact nqj_array_337 ag_297 hag_297 x1 x2 x3 x4 x7 x8 x10 x11 F G hM
  · skip
    exact nqj_array_345 ag_297 hag_297 x1 x2 x3 x4 x7 x8 x11 F G hM
theorem nqj_array_324 {fu : Nat} {F0 : PF} (ag_297 : Int32 → Int32 → Int32 → Int32 → Int32 → Int32 → Int32 → PF → PG → PR) (hag_297 : ∀ (x1 : Int32) (x2 : Int32) (x3 : Int32) (x4 : Int32) (x7 : Int32) (x8 : Int32) (x9 : Int32) (F : PF) (G : PG) (hM : MFS F0 F), PP (ag_297 x1 x2 x3 x4 x7 x8 x9 F G) (fun _ F' _ => MFS F0 F')) (x1 : Int32) (x2 : Int32) (x3 : Int32) (x4 : Int32) (x7 : Int32) (x8 : Int32) (x10 : Int32) (z0 : Int32) (F : PF) (G : PG) (hM : MFS F0 F) : PP (mb_array_324 fu ag_297 x1 x2 x3 x4 x7 x8 x10 z0 F G) (fun _ F' _ => MFS F0 F') := by
  unfold mb_array_324
  refine PP.ite (fun c_1 => ?_) (fun c_1 => ?_)
  · skip
    exact nqj_array_345 ag_297 hag_297 x1 x2 x3 x4 x7 x8 z0 F G hM
  · skip
    exact nqj_array_331 ag_297 hag_297 x1 x2 x3 x4 x7 x8 x10 z0 F G hM
theorem nqj_array_309 {fu : Nat} {F0 : PF} (ag_297 : Int32 → Int32 → Int32 → Int32 → Int32 → Int32 → Int32 → PF → PG → PR) (hag_297 : ∀ (x1 : Int32) (x2 : Int32) (x3 : Int32) (x4 : Int32) (x7 : Int32) (x8 : Int32) (x9 : Int32) (F : PF) (G : PG) (hM : MFS F0 F), PP (ag_297 x1 x2 x3 x4 x7 x8 x9 F G) (fun _ F' _ => MFS F0 F')) (x1 : Int32) (x2 : Int32) (x3 : Int32) (x4 : Int32) (x7 : Int32) (x8 : Int32) (F : PF) (G : PG) (hM : MFS F0 F) : PP (mb_array_309 fu ag_297 x1 x2 x3 x4 x7 x8 F G) (fun _ F' _ => MFS F0 F') := by
  unfold mb_array_309
  refine PP.ix (fun _ => ?_)
  refine PP.bind (nq_value F G) ?_
  intro r1 F1 G1 hM1
  dsimp only
  exact nqj_array_324 ag_297 hag_297 x1 x2 x3 x4 x7 x8 (G 6 (F 42).toNatClampNeg) r1 F1 G1 (MFS.tr hM hM1)
theorem nqj_array_302 {fu : Nat} {F0 : PF} (ag_297 : Int32 → Int32 → Int32 → Int32 → Int32 → Int32 → Int32 → PF → PG → PR) (hag_297 : ∀ (x1 : Int32) (x2 : Int32) (x3 : Int32) (x4 : Int32) (x7 : Int32) (x8 : Int32) (x9 : Int32) (F : PF) (G : PG) (hM : MFS F0 F), PP (ag_297 x1 x2 x3 x4 x7 x8 x9 F G) (fun _ F' _ => MFS F0 F')) (x1 : Int32) (x2 : Int32) (x3 : Int32) (x4 : Int32) (x7 : Int32) (x8 : Int32) (F : PF) (G : PG) (hM : MFS F0 F) : PP (mb_array_302 fu ag_297 x1 x2 x3 x4 x7 x8 F G) (fun _ F' _ => MFS F0 F') := by
  unfold mb_array_302
  refine PP.ite (fun c_1 => ?_) (fun c_1 => ?_)
  · skip
    exact nqj_array_309 ag_297 hag_297 x1 x2 x3 x4 x7 x8 F G hM
  · skip
    exact nqj_array_432 x1 x2 x3 x4 F G hM
theorem nqz_array_297 {fu : Nat} {F0 : PF} : ∀ (n : Nat) (x1 : Int32) (x2 : Int32) (x3 : Int32) (x4 : Int32) (x7 : Int32) (x8 : Int32) (x9 : Int32) (F : PF) (G : PG) (hM : MFS F0 F), PP (ml_array_297 fu n x1 x2 x3 x4 x7 x8 x9 F G) (fun _ F' _ => MFS F0 F') := by
  intro n
  induction n with
  | zero =>
    intro x1 x2 x3 x4 x7 x8 x9 F G hM
    exact PP.no
  | succ n ihn =>
    intro x1 x2 x3 x4 x7 x8 x9 F G hM
    show PP (mb_array_297 fu (ml_array_297 fu n) x1 x2 x3 x4 x7 x8 x9 F G) _
    unfold mb_array_297
    refine PP.ite (fun c_1 => ?_) (fun c_1 => ?_)
    · skip
      exact nqj_array_432 x1 x2 x3 x4 F G hM
    · skip
      exact nqj_array_302 (ml_array_297 fu n) ihn x1 x2 x3 x4 x7 x8 F G hM
theorem nqj_array_291 {fu : Nat} {F0 : PF} (x1 : Int32) (x2 : Int32) (x3 : Int32) (x4 : Int32) (x7 : Int32) (F : PF) (G : PG) (hM : MFS F0 F) : PP (mb_array_291 fu x1 x2 x3 x4 x7 F G) (fun _ F' _ => MFS F0 F') := by
  unfold mb_array_291
  exact nqz_array_297 fu x1 x2 x3 x4 x7 (0 : Int32) (1 : Int32) F G hM
theorem nqj_array_286 {fu : Nat} {F0 : PF} (x1 : Int32) (x2 : Int32) (x3 : Int32) (x4 : Int32) (x7 : Int32) (z0 : Int32) (F : PF) (G : PG) (hM : MFS F0 F) : PP (mb_array_286 fu x1 x2 x3 x4 x7 z0 F G) (fun _ F' _ => MFS F0 F') := by
  unfold mb_array_286
  refine PP.ite (fun c_1 => ?_) (fun c_1 => ?_)
  · skip
    exact nqj_array_289 F G hM
  · skip
    exact nqj_array_291 x1 x2 x3 x4 x7 F G hM
theorem nqj_array_280 {fu : Nat} {F0 : PF} (x1 : Int32) (x2 : Int32) (x3 : Int32) (x4 : Int32) (x7 : Int32) (F : PF) (G : PG) (hM : MFS F0 F) : PP (mb_array_280 fu x1 x2 x3 x4 x7 F G) (fun _ F' _ => MFS F0 F') := by
  unfold mb_array_280
  refine PP.bind (nq_openSign (26 : Int32) F G) ?_
  intro r1 F1 G1 hM1
  dsimp only
  exact nqj_array_286 x1 x2 x3 x4 x7 r1 F1 G1 (MFS.tr hM hM1)
theorem nqj_array_270 {fu : Nat} {F0 : PF} (x1 : Int32) (x2 : Int32) (x3 : Int32) (x4 : Int32) (x7 : Int32) (F : PF) (G : PG) (hM : MFS F0 F) : PP (mb_array_270 fu x1 x2 x3 x4 x7 F G) (fun _ F' _ => MFS F0 F') := by
  unfold mb_array_270
  exact nqj_array_280 x1 x2 x3 x4 x7 (fup F 42 ((F 42) + (1 : Int32))) G (MFS.f (k := 42) rfl hM)
theorem nqj_array_267 {fu : Nat} {F0 : PF} (x1 : Int32) (x2 : Int32) (x3 : Int32) (x4 : Int32) (x7 : Int32) (z0 : Int32) (F : PF) (G : PG) (hM : MFS F0 F) : PP (mb_array_267 fu x1 x2 x3 x4 x7 z0 F G) (fun _ F' _ => MFS F0 F') := by
  unfold mb_array_267
  refine PP.ite (fun c_1 => ?_) (fun c_1 => ?_)
  · skip
    exact nqj_array_443 x1 x2 x3 x4 F G hM
  · skip
    exact nqj_array_270 x1 x2 x3 x4 x7 F G hM
theorem nqj_array_261 {fu : Nat} {F0 : PF} (x1 : Int32) (x2 : Int32) (x3 : Int32) (x4 : Int32) (x7 : Int32) (F : PF) (G : PG) (hM : MFS F0 F) : PP (mb_array_261 fu x1 x2 x3 x4 x7 F G) (fun _ F' _ => MFS F0 F') := by
  unfold mb_array_261
  refine PP.bind (mw_isSign (32 : Int32) F G) ?_
  intro r1 F1 G1 hM1
  dsimp only
  exact nqj_array_267 x1 x2 x3 x4 x7 r1 F1 G1 (MFS.tr hM (MFS.kx hM1 rfl rfl rfl rfl))
theorem nqj_array_250 {fu : Nat} {F0 : PF} (x1 : Int32) (x2 : Int32) (x3 : Int32) (x4 : Int32) (x7 : Int32) (F : PF) (G : PG) (hM : MFS F0 F) : PP (mb_array_250 fu x1 x2 x3 x4 x7 F G) (fun _ F' _ => MFS F0 F') := by
  unfold mb_array_250
  exact nqj_array_261 x1 x2 x3 x4 x7 (fup F 37 ((F 37) + x7)) G (MFS.f (k := 37) rfl hM)
theorem nqj_array_244 {fu : Nat} {F0 : PF} (ag_224 : Int32 → Int32 → Int32 → Int32 → Int32 → Int32 → PF → PG → PR) (hag_224 : ∀ (x1 : Int32) (x2 : Int32) (x3 : Int32) (x4 : Int32) (x7 : Int32) (x8 : Int32) (F : PF) (G : PG) (hM : MFS F0 F), PP (ag_224 x1 x2 x3 x4 x7 x8 F G) (fun _ F' _ => MFS F0 F')) (x1 : Int32) (x2 : Int32) (x3 : Int32) (x4 : Int32) (x7 : Int32) (x8 : Int32) (F : PF) (G : PG) (hM : MFS F0 F) : PP (mb_array_244 fu ag_224 x1 x2 x3 x4 x7 x8 F G) (fun _ F' _ => MFS F0 F') := by
  unfold mb_array_244
  exact hag_224 x1 x2 x3 x4 x7 (x8 + (1 : Int32)) F G hM
theorem nqj_array_231 {fu : Nat} {F0 : PF} (ag_224 : Int32 → Int32 → Int32 → Int32 → Int32 → Int32 → PF → PG → PR) (hag_224 : ∀ (x1 : Int32) (x2 : Int32) (x3 : Int32) (x4 : Int32) (x7 : Int32) (x8 : Int32) (F : PF) (G : PG) (hM : MFS F0 F), PP (ag_224 x1 x2 x3 x4 x7 x8 F G) (fun _ F' _ => MFS F0 F')) (x1 : Int32) (x2 : Int32) (x3 : Int32) (x4 : Int32) (x7 : Int32) (x8 : Int32) (F : PF) (G : PG) (hM : MFS F0 F) : PP (mb_array_231 fu ag_224 x1 x2 x3 x4 x7 x8 F G) (fun _ F' _ => MFS F0 F') := by
  unfold mb_array_231
  refine PP.ix (fun _ => ?_)
  exact nqj_array_244 ag_224 hag_224 x1 x2 x3 x4 x7 x8 F (gup G 41 ((F 37) + x8).toNatClampNeg (0 : Int32)) hM
theorem nqz_array_224 {fu : Nat} {F0 : PF} : ∀ (n : Nat) (x1 : Int32) (x2 : Int32) (x3 : Int32) (x4 : Int32) (x7 : Int32) (x8 : Int32) (F : PF) (G : PG) (hM : MFS F0 F), PP (ml_array_224 fu n x1 x2 x3 x4 x7 x8 F G) (fun _ F' _ => MFS F0 F') := by
  intro n
  induction n with
  | zero =>
    intro x1 x2 x3 x4 x7 x8 F G hM
    exact PP.no
  | succ n ihn =>
    intro x1 x2 x3 x4 x7 x8 F G hM
    show PP (mb_array_224 fu (ml_array_224 fu n) x1 x2 x3 x4 x7 x8 F G) _
    unfold mb_array_224
    refine PP.ite (fun c_1 => ?_) (fun c_1 => ?_)
    · skip
      exact nqj_array_250 x1 x2 x3 x4 x7 F G hM
    · skip
      exact nqj_array_231 (ml_array_224 fu n) ihn x1 x2 x3 x4 x7 x8 F G hM
theorem nqj_array_219 {fu : Nat} {F0 : PF} (x1 : Int32) (x2 : Int32) (x3 : Int32) (x4 : Int32) (z0 : Int32) (F : PF) (G : PG) (hM : MFS F0 F) : PP (mb_array_219 fu x1 x2 x3 x4 z0 F G) (fun _ F' _ => MFS F0 F') := by
  unfold mb_array_219
  exact nqz_array_224 fu x1 x2 x3 x4 z0 (0 : Int32) F G hM
theorem nqj_array_214 {fu : Nat} {F0 : PF} (x1 : Int32) (x2 : Int32) (x3 : Int32) (x4 : Int32) (F : PF) (G : PG) (hM : MFS F0 F) : PP (mb_array_214 fu x1 x2 x3 x4 F G) (fun _ F' _ => MFS F0 F') := by
  unfold mb_array_214
  exact nqj_array_219 x1 x2 x3 x4 (0 : Int32) F G hM
theorem nqj_array_218 {fu : Nat} {F0 : PF} (x1 : Int32) (x2 : Int32) (x3 : Int32) (x4 : Int32) (F : PF) (G : PG) (hM : MFS F0 F) : PP (mb_array_218 fu x1 x2 x3 x4 F G) (fun _ F' _ => MFS F0 F') := by
  unfold mb_array_218
  exact nqj_array_219 x1 x2 x3 x4 x3 F G hM
theorem nqj_array_209 {fu : Nat} {F0 : PF} (x1 : Int32) (x2 : Int32) (x3 : Int32) (x4 : Int32) (x6 : Int32) (F : PF) (G : PG) (hM : MFS F0 F) : PP (mb_array_209 fu x1 x2 x3 x4 x6 F G) (fun _ F' _ => MFS F0 F') := by
  unfold mb_array_209
  refine PP.ite (fun c_1 => ?_) (fun c_1 => ?_)
  · skip
    exact nqj_array_214 x1 x2 x3 x4 F G hM
  · skip
    exact nqj_array_218 x1 x2 x3 x4 F G hM
theorem nqj_array_204 {fu : Nat} {F0 : PF} (x1 : Int32) (x2 : Int32) (x3 : Int32) (x4 : Int32) (x6 : Int32) (F : PF) (G : PG) (hM : MFS F0 F) : PP (mb_array_204 fu x1 x2 x3 x4 x6 F G) (fun _ F' _ => MFS F0 F') := by
  unfold mb_array_204
  refine PP.ite (fun c_1 => ?_) (fun c_1 => ?_)
  · skip
    exact nqj_array_214 x1 x2 x3 x4 F G hM
  · skip
    exact nqj_array_209 x1 x2 x3 x4 x6 F G hM
theorem nqj_array_193 {fu : Nat} {F0 : PF} (x1 : Int32) (x2 : Int32) (x3 : Int32) (x4 : Int32) (x5 : Int32) (x6 : Int32) (F : PF) (G : PG) (hM : MFS F0 F) : PP (mb_array_193 fu x1 x2 x3 x4 x5 x6 F G) (fun _ F' _ => MFS F0 F') := by
  unfold mb_array_193
  exact nqj_array_204 x1 x2 x3 x4 x6 (fup F 36 ((F 36) + x5)) G (MFS.f (k := 36) rfl hM)
theorem nqj_array_187 {fu : Nat} {F0 : PF} (ag_102 : Int32 → Int32 → Int32 → Int32 → Int32 → Int32 → Int32 → PF → PG → PR) (hag_102 : ∀ (x1 : Int32) (x2 : Int32) (x3 : Int32) (x4 : Int32) (x5 : Int32) (x6 : Int32) (x7 : Int32) (F : PF) (G : PG) (hM : MFS F0 F), PP (ag_102 x1 x2 x3 x4 x5 x6 x7 F G) (fun _ F' _ => MFS F0 F')) (x1 : Int32) (x2 : Int32) (x3 : Int32) (x4 : Int32) (x5 : Int32) (x6 : Int32) (x7 : Int32) (F : PF) (G : PG) (hM : MFS F0 F) : PP (mb_array_187 fu ag_102 x1 x2 x3 x4 x5 x6 x7 F G) (fun _ F' _ => MFS F0 F') := by
  unfold mb_array_187
  exact hag_102 x1 x2 x3 x4 x5 x6 (x7 + (1 : Int32)) F G hM
theorem nqj_array_186 {fu : Nat} {F0 : PF} (ag_102 : Int32 → Int32 → Int32 → Int32 → Int32 → Int32 → Int32 → PF → PG → PR) (hag_102 : ∀ (x1 : Int32) (x2 : Int32) (x3 : Int32) (x4 : Int32) (x5 : Int32) (x6 : Int32) (x7 : Int32) (F : PF) (G : PG) (hM : MFS F0 F), PP (ag_102 x1 x2 x3 x4 x5 x6 x7 F G) (fun _ F' _ => MFS F0 F')) (x1 : Int32) (x2 : Int32) (x3 : Int32) (x4 : Int32) (x5 : Int32) (x6 : Int32) (x7 : Int32) (z0 : Int32) (z1 : Int32) (F : PF) (G : PG) (hM : MFS F0 F) : PP (mb_array_186 fu ag_102 x1 x2 x3 x4 x5 x6 x7 z0 z1 F G) (fun _ F' _ => MFS F0 F') := by
  unfold mb_array_186
  refine PP.ix (fun _ => ?_)
  exact nqj_array_187 ag_102 hag_102 x1 x2 x3 x4 x5 x6 x7 F (gup G 38 z1.toNatClampNeg z0) hM
theorem nqj_array_185 {fu : Nat} {F0 : PF} (ag_102 : Int32 → Int32 → Int32 → Int32 → Int32 → Int32 → Int32 → PF → PG → PR) (hag_102 : ∀ (x1 : Int32) (x2 : Int32) (x3 : Int32) (x4 : Int32) (x5 : Int32) (x6 : Int32) (x7 : Int32) (F : PF) (G : PG) (hM : MFS F0 F), PP (ag_102 x1 x2 x3 x4 x5 x6 x7 F G) (fun _ F' _ => MFS F0 F')) (x1 : Int32) (x2 : Int32) (x3 : Int32) (x4 : Int32) (x5 : Int32) (x6 : Int32) (x7 : Int32) (z0 : Int32) (F : PF) (G : PG) (hM : MFS F0 F) : PP (mb_array_185 fu ag_102 x1 x2 x3 x4 x5 x6 x7 z0 F G) (fun _ F' _ => MFS F0 F') := by
  unfold mb_array_185
  exact nqj_array_186 ag_102 hag_102 x1 x2 x3 x4 x5 x6 x7 (1 : Int32) z0 F G hM
theorem nqj_array_182 {fu : Nat} {F0 : PF} (ag_102 : Int32 → Int32 → Int32 → Int32 → Int32 → Int32 → Int32 → PF → PG → PR) (hag_102 : ∀ (x1 : Int32) (x2 : Int32) (x3 : Int32) (x4 : Int32) (x5 : Int32) (x6 : Int32) (x7 : Int32) (F : PF) (G : PG) (hM : MFS F0 F), PP (ag_102 x1 x2 x3 x4 x5 x6 x7 F G) (fun _ F' _ => MFS F0 F')) (x1 : Int32) (x2 : Int32) (x3 : Int32) (x4 : Int32) (x5 : Int32) (x6 : Int32) (x7 : Int32) (z0 : Int32) (z1 : Int32) (F : PF) (G : PG) (hM : MFS F0 F) : PP (mb_array_182 fu ag_102 x1 x2 x3 x4 x5 x6 x7 z0 z1 F G) (fun _ F' _ => MFS F0 F') := by
  unfold mb_array_182
  exact nqj_array_186 ag_102 hag_102 x1 x2 x3 x4 x5 x6 x7 z0 z1 F G hM
theorem nqj_array_172 {fu : Nat} {F0 : PF} (ag_102 : Int32 → Int32 → Int32 → Int32 → Int32 → Int32 → Int32 → PF → PG → PR) (hag_102 : ∀ (x1 : Int32) (x2 : Int32) (x3 : Int32) (x4 : Int32) (x5 : Int32) (x6 : Int32) (x7 : Int32) (F : PF) (G : PG) (hM : MFS F0 F), PP (ag_102 x1 x2 x3 x4 x5 x6 x7 F G) (fun _ F' _ => MFS F0 F')) (x1 : Int32) (x2 : Int32) (x3 : Int32) (x4 : Int32) (x5 : Int32) (x6 : Int32) (x7 : Int32) (z0 : Int32) (F : PF) (G : PG) (hM : MFS F0 F) : PP (mb_array_172 fu ag_102 x1 x2 x3 x4 x5 x6 x7 z0 F G) (fun _ F' _ => MFS F0 F') := by
  unfold mb_array_172
  exact nqj_array_182 ag_102 hag_102 x1 x2 x3 x4 x5 x6 x7 (if (x3 - ((4 : Int32) * x7)) < (4 : Int32) then (x3 - ((4 : Int32) * x7)) else (4 : Int32)) z0 F G hM
theorem nqj_array_157 {fu : Nat} {F0 : PF} (ag_102 : Int32 → Int32 → Int32 → Int32 → Int32 → Int32 → Int32 → PF → PG → PR) (hag_102 : ∀ (x1 : Int32) (x2 : Int32) (x3 : Int32) (x4 : Int32) (x5 : Int32) (x6 : Int32) (x7 : Int32) (F : PF) (G : PG) (hM : MFS F0 F), PP (ag_102 x1 x2 x3 x4 x5 x6 x7 F G) (fun _ F' _ => MFS F0 F')) (x1 : Int32) (x2 : Int32) (x3 : Int32) (x4 : Int32) (x5 : Int32) (x6 : Int32) (x7 : Int32) (F : PF) (G : PG) (hM : MFS F0 F) : PP (mb_array_157 fu ag_102 x1 x2 x3 x4 x5 x6 x7 F G) (fun _ F' _ => MFS F0 F') := by
  unfold mb_array_157
  refine PP.ite (fun c_1 => ?_) (fun c_1 => ?_)
  · skip
    exact nqj_array_185 ag_102 hag_102 x1 x2 x3 x4 x5 x6 x7 ((F 36) + x7) F G hM
  · skip
    exact nqj_array_172 ag_102 hag_102 x1 x2 x3 x4 x5 x6 x7 ((F 36) + x7) F G hM
theorem nqj_array_144 {fu : Nat} {F0 : PF} (ag_102 : Int32 → Int32 → Int32 → Int32 → Int32 → Int32 → Int32 → PF → PG → PR) (hag_102 : ∀ (x1 : Int32) (x2 : Int32) (x3 : Int32) (x4 : Int32) (x5 : Int32) (x6 : Int32) (x7 : Int32) (F : PF) (G : PG) (hM : MFS F0 F), PP (ag_102 x1 x2 x3 x4 x5 x6 x7 F G) (fun _ F' _ => MFS F0 F')) (x1 : Int32) (x2 : Int32) (x3 : Int32) (x4 : Int32) (x5 : Int32) (x6 : Int32) (x7 : Int32) (F : PF) (G : PG) (hM : MFS F0 F) : PP (mb_array_144 fu ag_102 x1 x2 x3 x4 x5 x6 x7 F G) (fun _ F' _ => MFS F0 F') := by
  unfold mb_array_144
  refine PP.ix (fun _ => ?_)
  exact nqj_array_157 ag_102 hag_102 x1 x2 x3 x4 x5 x6 x7 F (gup G 40 ((F 36) + x7).toNatClampNeg (vp_nar .boolean x2)) hM
theorem nqj_array_142 {fu : Nat} {F0 : PF} (ag_102 : Int32 → Int32 → Int32 → Int32 → Int32 → Int32 → Int32 → PF → PG → PR) (hag_102 : ∀ (x1 : Int32) (x2 : Int32) (x3 : Int32) (x4 : Int32) (x5 : Int32) (x6 : Int32) (x7 : Int32) (F : PF) (G : PG) (hM : MFS F0 F), PP (ag_102 x1 x2 x3 x4 x5 x6 x7 F G) (fun _ F' _ => MFS F0 F')) (x1 : Int32) (x2 : Int32) (x3 : Int32) (x4 : Int32) (x5 : Int32) (x6 : Int32) (x7 : Int32) (z0 : Int32) (z1 : Int32) (z2 : Int32) (F : PF) (G : PG) (hM : MFS F0 F) : PP (mb_array_142 fu ag_102 x1 x2 x3 x4 x5 x6 x7 z0 z1 z2 F G) (fun _ F' _ => MFS F0 F') := by
  unfold mb_array_142
  refine PP.ix (fun _ => ?_)
  exact nqj_array_144 ag_102 hag_102 x1 x2 x3 x4 x5 x6 x7 F (gup G 39 z2.toNatClampNeg (z1 + z0)) hM
theorem nqj_array_140 {fu : Nat} {F0 : PF} (ag_102 : Int32 → Int32 → Int32 → Int32 → Int32 → Int32 → Int32 → PF → PG → PR) (hag_102 : ∀ (x1 : Int32) (x2 : Int32) (x3 : Int32) (x4 : Int32) (x5 : Int32) (x6 : Int32) (x7 : Int32) (F : PF) (G : PG) (hM : MFS F0 F), PP (ag_102 x1 x2 x3 x4 x5 x6 x7 F G) (fun _ F' _ => MFS F0 F')) (x1 : Int32) (x2 : Int32) (x3 : Int32) (x4 : Int32) (x5 : Int32) (x6 : Int32) (x7 : Int32) (z0 : Int32) (z1 : Int32) (F : PF) (G : PG) (hM : MFS F0 F) : PP (mb_array_140 fu ag_102 x1 x2 x3 x4 x5 x6 x7 z0 z1 F G) (fun _ F' _ => MFS F0 F') := by
  unfold mb_array_140
  exact nqj_array_142 ag_102 hag_102 x1 x2 x3 x4 x5 x6 x7 x7 z0 z1 F G hM
theorem nqj_array_133 {fu : Nat} {F0 : PF} (ag_102 : Int32 → Int32 → Int32 → Int32 → Int32 → Int32 → Int32 → PF → PG → PR) (hag_102 : ∀ (x1 : Int32) (x2 : Int32) (x3 : Int32) (x4 : Int32) (x5 : Int32) (x6 : Int32) (x7 : Int32) (F : PF) (G : PG) (hM : MFS F0 F), PP (ag_102 x1 x2 x3 x4 x5 x6 x7 F G) (fun _ F' _ => MFS F0 F')) (x1 : Int32) (x2 : Int32) (x3 : Int32) (x4 : Int32) (x5 : Int32) (x6 : Int32) (x7 : Int32) (z0 : Int32) (z1 : Int32) (F : PF) (G : PG) (hM : MFS F0 F) : PP (mb_array_133 fu ag_102 x1 x2 x3 x4 x5 x6 x7 z0 z1 F G) (fun _ F' _ => MFS F0 F') := by
  unfold mb_array_133
  exact nqj_array_142 ag_102 hag_102 x1 x2 x3 x4 x5 x6 x7 ((4 : Int32) * x7) z0 z1 F G hM
theorem nqj_array_114 {fu : Nat} {F0 : PF} (ag_102 : Int32 → Int32 → Int32 → Int32 → Int32 → Int32 → Int32 → PF → PG → PR) (hag_102 : ∀ (x1 : Int32) (x2 : Int32) (x3 : Int32) (x4 : Int32) (x5 : Int32) (x6 : Int32) (x7 : Int32) (F : PF) (G : PG) (hM : MFS F0 F), PP (ag_102 x1 x2 x3 x4 x5 x6 x7 F G) (fun _ F' _ => MFS F0 F')) (x1 : Int32) (x2 : Int32) (x3 : Int32) (x4 : Int32) (x5 : Int32) (x6 : Int32) (x7 : Int32) (F : PF) (G : PG) (hM : MFS F0 F) : PP (mb_array_114 fu ag_102 x1 x2 x3 x4 x5 x6 x7 F G) (fun _ F' _ => MFS F0 F') := by
  unfold mb_array_114
  refine PP.ite (fun c_1 => ?_) (fun c_1 => ?_)
  · skip
    exact nqj_array_140 ag_102 hag_102 x1 x2 x3 x4 x5 x6 x7 (F 37) ((F 36) + x7) F G hM
  · skip
    exact nqj_array_133 ag_102 hag_102 x1 x2 x3 x4 x5 x6 x7 (F 37) ((F 36) + x7) F G hM
theorem nqj_array_109 {fu : Nat} {F0 : PF} (ag_102 : Int32 → Int32 → Int32 → Int32 → Int32 → Int32 → Int32 → PF → PG → PR) (hag_102 : ∀ (x1 : Int32) (x2 : Int32) (x3 : Int32) (x4 : Int32) (x5 : Int32) (x6 : Int32) (x7 : Int32) (F : PF) (G : PG) (hM : MFS F0 F), PP (ag_102 x1 x2 x3 x4 x5 x6 x7 F G) (fun _ F' _ => MFS F0 F')) (x1 : Int32) (x2 : Int32) (x3 : Int32) (x4 : Int32) (x5 : Int32) (x6 : Int32) (x7 : Int32) (F : PF) (G : PG) (hM : MFS F0 F) : PP (mb_array_109 fu ag_102 x1 x2 x3 x4 x5 x6 x7 F G) (fun _ F' _ => MFS F0 F') := by
  unfold mb_array_109
  refine PP.ite (fun c_1 => ?_) (fun c_1 => ?_)
  · skip
    exact nqj_array_193 x1 x2 x3 x4 x5 x6 F G hM
  · skip
    exact nqj_array_114 ag_102 hag_102 x1 x2 x3 x4 x5 x6 x7 F G hM
theorem nqz_array_102 {fu : Nat} {F0 : PF} : ∀ (n : Nat) (x1 : Int32) (x2 : Int32) (x3 : Int32) (x4 : Int32) (x5 : Int32) (x6 : Int32) (x7 : Int32) (F : PF) (G : PG) (hM : MFS F0 F), PP (ml_array_102 fu n x1 x2 x3 x4 x5 x6 x7 F G) (fun _ F' _ => MFS F0 F') := by
  intro n
  induction n with
  | zero =>
    intro x1 x2 x3 x4 x5 x6 x7 F G hM
    exact PP.no
  | succ n ihn =>
    intro x1 x2 x3 x4 x5 x6 x7 F G hM
    show PP (mb_array_102 fu (ml_array_102 fu n) x1 x2 x3 x4 x5 x6 x7 F G) _
    unfold mb_array_102
    refine PP.ite (fun c_1 => ?_) (fun c_1 => ?_)
    · skip
      exact nqj_array_193 x1 x2 x3 x4 x5 x6 F G hM
    · skip
      exact nqj_array_109 (ml_array_102 fu n) ihn x1 x2 x3 x4 x5 x6 x7 F G hM
theorem nqj_array_99 {fu : Nat} {F0 : PF} (x1 : Int32) (x2 : Int32) (x3 : Int32) (x4 : Int32) (x5 : Int32) (x6 : Int32) (F : PF) (G : PG) (hM : MFS F0 F) : PP (mb_array_99 fu x1 x2 x3 x4 x5 x6 F G) (fun _ F' _ => MFS F0 F') := by
  unfold mb_array_99
  exact nqz_array_102 fu x1 x2 x3 x4 x5 x6 (0 : Int32) F G hM
theorem nqj_array_87 {fu : Nat} {F0 : PF} (x1 : Int32) (x2 : Int32) (x3 : Int32) (x4 : Int32) (x5 : Int32) (x6 : Int32) (F : PF) (G : PG) (hM : MFS F0 F) : PP (mb_array_87 fu x1 x2 x3 x4 x5 x6 F G) (fun _ F' _ => MFS F0 F') := by
  unfold mb_array_87
  refine PP.ix (fun _ => ?_)
  refine PP.bind (nq_note (11 : Int32) (G 6 x1.toNatClampNeg) (by decide) F G) ?_
  intro r1 F1 G1 hM1
  dsimp only
  exact nqj_array_99 x1 x2 x3 x4 x5 x6 F1 G1 (MFS.tr hM hM1)
theorem nqj_array_80 {fu : Nat} {F0 : PF} (x1 : Int32) (x2 : Int32) (x3 : Int32) (x4 : Int32) (x5 : Int32) (z0 : Int32) (F : PF) (G : PG) (hM : MFS F0 F) : PP (mb_array_80 fu x1 x2 x3 x4 x5 z0 F G) (fun _ F' _ => MFS F0 F') := by
  unfold mb_array_80
  refine PP.ite (fun c_1 => ?_) (fun c_1 => ?_)
  · skip
    exact nqj_array_87 x1 x2 x3 x4 x5 z0 F G hM
  · skip
    exact nqj_array_99 x1 x2 x3 x4 x5 z0 F G hM
theorem nqj_array_79 {fu : Nat} {F0 : PF} (x1 : Int32) (x2 : Int32) (x3 : Int32) (x4 : Int32) (x5 : Int32) (F : PF) (G : PG) (hM : MFS F0 F) : PP (mb_array_79 fu x1 x2 x3 x4 x5 F G) (fun _ F' _ => MFS F0 F') := by
  unfold mb_array_79
  exact nqj_array_80 x1 x2 x3 x4 x5 (0 : Int32) F G hM
theorem nqj_array_75 {fu : Nat} {F0 : PF} (x1 : Int32) (x2 : Int32) (x3 : Int32) (x4 : Int32) (x5 : Int32) (F : PF) (G : PG) (hM : MFS F0 F) : PP (mb_array_75 fu x1 x2 x3 x4 x5 F G) (fun _ F' _ => MFS F0 F') := by
  unfold mb_array_75
  exact nqj_array_80 x1 x2 x3 x4 x5 (1 : Int32) F G hM
theorem nqj_array_60 {fu : Nat} {F0 : PF} (x1 : Int32) (x2 : Int32) (x3 : Int32) (x4 : Int32) (z0 : Int32) (F : PF) (G : PG) (hM : MFS F0 F) : PP (mb_array_60 fu x1 x2 x3 x4 z0 F G) (fun _ F' _ => MFS F0 F') := by
  unfold mb_array_60
  refine PP.ite (fun c_1 => ?_) (fun c_1 => ?_)
  · skip
    exact nqj_array_79 x1 x2 x3 x4 z0 F G hM
  · skip
    exact nqj_array_75 x1 x2 x3 x4 z0 F G hM
theorem nqj_array_43 {fu : Nat} {F0 : PF} (x1 : Int32) (x2 : Int32) (x3 : Int32) (x4 : Int32) (F : PF) (G : PG) (hM : MFS F0 F) : PP (mb_array_43 fu x1 x2 x3 x4 F G) (fun _ F' _ => MFS F0 F') := by
  unfold mb_array_43
  exact nqj_array_60 x1 x2 x3 x4 (0 : Int32) F G hM
theorem nqj_array_59 {fu : Nat} {F0 : PF} (x1 : Int32) (x2 : Int32) (x3 : Int32) (x4 : Int32) (F : PF) (G : PG) (hM : MFS F0 F) : PP (mb_array_59 fu x1 x2 x3 x4 F G) (fun _ F' _ => MFS F0 F') := by
  unfold mb_array_59
  exact nqj_array_60 x1 x2 x3 x4 x3 F G hM
theorem nqj_array_51 {fu : Nat} {F0 : PF} (x1 : Int32) (x2 : Int32) (x3 : Int32) (x4 : Int32) (F : PF) (G : PG) (hM : MFS F0 F) : PP (mb_array_51 fu x1 x2 x3 x4 F G) (fun _ F' _ => MFS F0 F') := by
  unfold mb_array_51
  exact nqj_array_60 x1 x2 x3 x4 ((x3 + (3 : Int32)) / (4 : Int32)) F G hM
theorem nqj_array_47 {fu : Nat} {F0 : PF} (x1 : Int32) (x2 : Int32) (x3 : Int32) (x4 : Int32) (F : PF) (G : PG) (hM : MFS F0 F) : PP (mb_array_47 fu x1 x2 x3 x4 F G) (fun _ F' _ => MFS F0 F') := by
  unfold mb_array_47
  refine PP.ite (fun c_1 => ?_) (fun c_1 => ?_)
  · skip
    exact nqj_array_59 x1 x2 x3 x4 F G hM
  · skip
    exact nqj_array_51 x1 x2 x3 x4 F G hM
theorem nqj_array_32 {fu : Nat} {F0 : PF} (x1 : Int32) (x2 : Int32) (x3 : Int32) (F : PF) (G : PG) (hM : MFS F0 F) : PP (mb_array_32 fu x1 x2 x3 F G) (fun _ F' _ => MFS F0 F') := by
  unfold mb_array_32
  refine PP.ite (fun c_1 => ?_) (fun c_1 => ?_)
  · skip
    exact nqj_array_43 x1 x2 x3 (F 37) F G hM
  · skip
    exact nqj_array_47 x1 x2 x3 (F 37) F G hM
theorem nqj_array_27 {fu : Nat} {F0 : PF} (x1 : Int32) (x2 : Int32) (x3 : Int32) (z0 : Int32) (F : PF) (G : PG) (hM : MFS F0 F) : PP (mb_array_27 fu x1 x2 x3 z0 F G) (fun _ F' _ => MFS F0 F') := by
  unfold mb_array_27
  refine PP.ite (fun c_1 => ?_) (fun c_1 => ?_)
  · skip
    exact nqj_array_30 F G hM
  · skip
    exact nqj_array_32 x1 x2 x3 F G hM
theorem nqj_array_20 {fu : Nat} {F0 : PF} (x1 : Int32) (x2 : Int32) (z0 : Int32) (F : PF) (G : PG) (hM : MFS F0 F) : PP (mb_array_20 fu x1 x2 z0 F G) (fun _ F' _ => MFS F0 F') := by
  unfold mb_array_20
  refine PP.bind (nq_closeSign (25 : Int32) F G) ?_
  intro r1 F1 G1 hM1
  dsimp only
  exact nqj_array_27 x1 x2 z0 r1 F1 G1 (MFS.tr hM hM1)
theorem nqj_array_16 {fu : Nat} {F0 : PF} (x1 : Int32) (x2 : Int32) (F : PF) (G : PG) (hM : MFS F0 F) : PP (mb_array_16 fu x1 x2 F G) (fun _ F' _ => MFS F0 F') := by
  unfold mb_array_16
  refine PP.bind (nq_sizeHere F G) ?_
  intro r1 F1 G1 hM1
  dsimp only
  exact nqj_array_20 x1 x2 r1 F1 G1 (MFS.tr hM hM1)
theorem nqj_array_11 {fu : Nat} {F0 : PF} (x1 : Int32) (x2 : Int32) (z0 : Int32) (F : PF) (G : PG) (hM : MFS F0 F) : PP (mb_array_11 fu x1 x2 z0 F G) (fun _ F' _ => MFS F0 F') := by
  unfold mb_array_11
  refine PP.ite (fun c_1 => ?_) (fun c_1 => ?_)
  · skip
    exact nqj_array_14 F G hM
  · skip
    exact nqj_array_16 x1 x2 F G hM
theorem nqj_array_5 {fu : Nat} {F0 : PF} (x1 : Int32) (x2 : Int32) (F : PF) (G : PG) (hM : MFS F0 F) : PP (mb_array_5 fu x1 x2 F G) (fun _ F' _ => MFS F0 F') := by
  unfold mb_array_5
  refine PP.bind (nq_openSign (24 : Int32) F G) ?_
  intro r1 F1 G1 hM1
  dsimp only
  exact nqj_array_11 x1 x2 r1 F1 G1 (MFS.tr hM hM1)
theorem nq_array {fu : Nat} (x1 : Int32) (x2 : Int32) (F : PF) (G : PG) : PP (mf_array fu x1 x2 F G) (fun _ F' _ => MFS F F') := by
  unfold mf_array
  unfold mb_array_0
  refine PP.bind (nq_twice x1 F G) ?_
  intro r1 F1 G1 hM1
  dsimp only
  exact nqj_array_5 x1 x2 F1 G1 (MFS.tr MFS.rf hM1)
theorem nqj_constantTold_14 {fu : Nat} {F0 : PF} (F : PF) (G : PG) (hM : MFS F0 F) : PP (mb_constantTold_14 fu F G) (fun _ F' _ => MFS F0 F') := by
  unfold mb_constantTold_14
  refine PP.ret ?_
  exact hM
theorem nqj_constantTold_64 {fu : Nat} {F0 : PF} (z0 : Int32) (F : PF) (G : PG) (hM : MFS F0 F) : PP (mb_constantTold_64 fu z0 F G) (fun _ F' _ => MFS F0 F') := by
  unfold mb_constantTold_64
  refine PP.bz (fun _ => ?_)
  refine PP.ret ?_
  exact hM
theorem nqj_constantTold_58 {fu : Nat} {F0 : PF} (F : PF) (G : PG) (hM : MFS F0 F) : PP (mb_constantTold_58 fu F G) (fun _ F' _ => MFS F0 F') := by
  unfold mb_constantTold_58
  refine PP.bind (nq_sign (29 : Int32) F G) ?_
  intro r1 F1 G1 hM1
  dsimp only
  exact nqj_constantTold_64 r1 F1 G1 (MFS.tr hM hM1)
theorem nqj_constantTold_54 {fu : Nat} {F0 : PF} (z0 : Int32) (z1 : Int32) (z2 : Int32) (z3 : Int32) (z4 : Int32) (F : PF) (G : PG) (hM : MFS F0 F) : PP (mb_constantTold_54 fu z0 z1 z2 z3 z4 F G) (fun _ F' _ => MFS F0 F') := by
  unfold mb_constantTold_54
  refine PP.bind (mw_declare z4 z3 z2 z1 z0 (0 : Int32) F G) ?_
  intro r1 F1 G1 hM1
  dsimp only
  exact nqj_constantTold_58 F1 G1 (MFS.tr hM (MFS.kx hM1 rfl rfl rfl rfl))
theorem nqj_constantTold_53 {fu : Nat} {F0 : PF} (z0 : Int32) (z1 : Int32) (z2 : Int32) (z3 : Int32) (F : PF) (G : PG) (hM : MFS F0 F) : PP (mb_constantTold_53 fu z0 z1 z2 z3 F G) (fun _ F' _ => MFS F0 F') := by
  unfold mb_constantTold_53
  exact nqj_constantTold_54 (1 : Int32) z0 z1 z2 z3 F G hM
theorem nqj_constantTold_49 {fu : Nat} {F0 : PF} (z0 : Int32) (z1 : Int32) (z2 : Int32) (z3 : Int32) (F : PF) (G : PG) (hM : MFS F0 F) : PP (mb_constantTold_49 fu z0 z1 z2 z3 F G) (fun _ F' _ => MFS F0 F') := by
  unfold mb_constantTold_49
  exact nqj_constantTold_54 (-1 : Int32) z0 z1 z2 z3 F G hM
theorem nqj_constantTold_40 {fu : Nat} {F0 : PF} (x1 : Int32) (x2 : Int32) (x3 : Int32) (F : PF) (G : PG) (hM : MFS F0 F) : PP (mb_constantTold_40 fu x1 x2 x3 F G) (fun _ F' _ => MFS F0 F') := by
  unfold mb_constantTold_40
  refine PP.ite (fun c_1 => ?_) (fun c_1 => ?_)
  · skip
    exact nqj_constantTold_53 x2 (0 : Int32) (0 : Int32) x1 F G hM
  · skip
    exact nqj_constantTold_49 x2 (0 : Int32) (0 : Int32) x1 F G hM
theorem nqj_constantTold_30 {fu : Nat} {F0 : PF} (x1 : Int32) (x2 : Int32) (F : PF) (G : PG) (hM : MFS F0 F) : PP (mb_constantTold_30 fu x1 x2 F G) (fun _ F' _ => MFS F0 F') := by
  unfold mb_constantTold_30
  refine PP.bind (nq_twice x1 F G) ?_
  intro r1 F1 G1 hM1
  dsimp only
  exact nqj_constantTold_40 x1 x2 (F 55) F1 G1 (MFS.tr hM hM1)
theorem nqj_constantTold_28 {fu : Nat} {F0 : PF} (F : PF) (G : PG) (hM : MFS F0 F) : PP (mb_constantTold_28 fu F G) (fun _ F' _ => MFS F0 F') := by
  unfold mb_constantTold_28
  refine PP.ret ?_
  exact hM
theorem nqj_constantTold_20 {fu : Nat} {F0 : PF} (x1 : Int32) (z0 : Int32) (F : PF) (G : PG) (hM : MFS F0 F) : PP (mb_constantTold_20 fu x1 z0 F G) (fun _ F' _ => MFS F0 F') := by
  unfold mb_constantTold_20
  refine PP.ite (fun c_1 => ?_) (fun c_1 => ?_)
  · skip
    exact nqj_constantTold_30 x1 z0 F G hM
  · skip
    exact nqj_constantTold_28 F G hM
theorem nqj_constantTold_16 {fu : Nat} {F0 : PF} (x1 : Int32) (F : PF) (G : PG) (hM : MFS F0 F) : PP (mb_constantTold_16 fu x1 F G) (fun _ F' _ => MFS F0 F') := by
  unfold mb_constantTold_16
  refine PP.bind (nq_value F G) ?_
  intro r1 F1 G1 hM1
  dsimp only
  exact nqj_constantTold_20 x1 r1 F1 G1 (MFS.tr hM hM1)
theorem nqj_constantTold_11 {fu : Nat} {F0 : PF} (x1 : Int32) (z0 : Int32) (F : PF) (G : PG) (hM : MFS F0 F) : PP (mb_constantTold_11 fu x1 z0 F G) (fun _ F' _ => MFS F0 F') := by
  unfold mb_constantTold_11
  refine PP.ite (fun c_1 => ?_) (fun c_1 => ?_)
  · skip
    exact nqj_constantTold_14 F G hM
  · skip
    exact nqj_constantTold_16 x1 F G hM
theorem nqj_constantTold_4 {fu : Nat} {F0 : PF} (z0 : Int32) (F : PF) (G : PG) (hM : MFS F0 F) : PP (mb_constantTold_4 fu z0 F G) (fun _ F' _ => MFS F0 F') := by
  unfold mb_constantTold_4
  refine PP.bind (nq_sign (32 : Int32) F G) ?_
  intro r1 F1 G1 hM1
  dsimp only
  exact nqj_constantTold_11 z0 r1 F1 G1 (MFS.tr hM hM1)
theorem nq_constantTold {fu : Nat} (F : PF) (G : PG) : PP (mf_constantTold fu F G) (fun _ F' _ => MFS F F') := by
  unfold mf_constantTold
  unfold mb_constantTold_0
  refine PP.bind (nq_name F G) ?_
  intro r1 F1 G1 hM1
  dsimp only
  exact nqj_constantTold_4 r1 F1 G1 (MFS.tr MFS.rf hM1)
theorem nqj_globalAt_100 {fu : Nat} {F0 : PF} (x2 : Int32) (F : PF) (G : PG) (hM : MFS F0 F) : PP (mb_globalAt_100 fu x2 F G) (fun _ F' _ => MFS F0 F') := by
  unfold mb_globalAt_100
  refine PP.ret ?_
  exact hM
theorem nqj_globalAt_90 {fu : Nat} {F0 : PF} (x2 : Int32) (F : PF) (G : PG) (hM : MFS F0 F) : PP (mb_globalAt_90 fu x2 F G) (fun _ F' _ => MFS F0 F') := by
  unfold mb_globalAt_90
  exact nqj_globalAt_100 x2 (fup F 37 ((F 37) + (1 : Int32))) G (MFS.f (k := 37) rfl hM)
theorem nqj_globalAt_80 {fu : Nat} {F0 : PF} (x2 : Int32) (F : PF) (G : PG) (hM : MFS F0 F) : PP (mb_globalAt_80 fu x2 F G) (fun _ F' _ => MFS F0 F') := by
  unfold mb_globalAt_80
  refine PP.ix (fun _ => ?_)
  exact nqj_globalAt_90 x2 F (gup G 41 (F 37).toNatClampNeg (0 : Int32)) hM
theorem nqj_globalAt_73 {fu : Nat} {F0 : PF} (x2 : Int32) (F : PF) (G : PG) (hM : MFS F0 F) : PP (mb_globalAt_73 fu x2 F G) (fun _ F' _ => MFS F0 F') := by
  unfold mb_globalAt_73
  refine PP.ite (fun c_1 => ?_) (fun c_1 => ?_)
  · skip
    exact nqj_globalAt_100 x2 F G hM
  · skip
    exact nqj_globalAt_80 x2 F G hM
theorem nqj_globalAt_63 {fu : Nat} {F0 : PF} (x2 : Int32) (F : PF) (G : PG) (hM : MFS F0 F) : PP (mb_globalAt_63 fu x2 F G) (fun _ F' _ => MFS F0 F') := by
  unfold mb_globalAt_63
  refine PP.ix (fun _ => ?_)
  exact nqj_globalAt_73 x2 F (gup G 39 x2.toNatClampNeg (F 37)) hM
theorem nqj_globalAt_56 {fu : Nat} {F0 : PF} (x2 : Int32) (F : PF) (G : PG) (hM : MFS F0 F) : PP (mb_globalAt_56 fu x2 F G) (fun _ F' _ => MFS F0 F') := by
  unfold mb_globalAt_56
  refine PP.ix (fun _ => ?_)
  exact nqj_globalAt_63 x2 F (gup G 40 x2.toNatClampNeg (vp_nar .boolean (0 : Int32))) hM
theorem nqj_globalAt_49 {fu : Nat} {F0 : PF} (x2 : Int32) (F : PF) (G : PG) (hM : MFS F0 F) : PP (mb_globalAt_49 fu x2 F G) (fun _ F' _ => MFS F0 F') := by
  unfold mb_globalAt_49
  refine PP.ix (fun _ => ?_)
  exact nqj_globalAt_56 x2 F (gup G 38 x2.toNatClampNeg (1 : Int32)) hM
theorem nqj_globalAt_42 {fu : Nat} {F0 : PF} (x2 : Int32) (F : PF) (G : PG) (hM : MFS F0 F) : PP (mb_globalAt_42 fu x2 F G) (fun _ F' _ => MFS F0 F') := by
  unfold mb_globalAt_42
  refine PP.ite (fun c_1 => ?_) (fun c_1 => ?_)
  · skip
    exact nqj_globalAt_73 x2 F G hM
  · skip
    exact nqj_globalAt_49 x2 F G hM
theorem nqj_globalAt_30 {fu : Nat} {F0 : PF} (x1 : Int32) (x2 : Int32) (F : PF) (G : PG) (hM : MFS F0 F) : PP (mb_globalAt_30 fu x1 x2 F G) (fun _ F' _ => MFS F0 F') := by
  unfold mb_globalAt_30
  refine PP.ix (fun _ => ?_)
  refine PP.bind (nq_note (11 : Int32) (G 6 x1.toNatClampNeg) (by decide) F G) ?_
  intro r1 F1 G1 hM1
  dsimp only
  exact nqj_globalAt_42 x2 F1 G1 (MFS.tr hM hM1)
theorem nqj_globalAt_20 {fu : Nat} {F0 : PF} (x1 : Int32) (x2 : Int32) (F : PF) (G : PG) (hM : MFS F0 F) : PP (mb_globalAt_20 fu x1 x2 F G) (fun _ F' _ => MFS F0 F') := by
  unfold mb_globalAt_20
  refine PP.ite (fun c_1 => ?_) (fun c_1 => ?_)
  · skip
    exact nqj_globalAt_42 x2 F G hM
  · skip
    exact nqj_globalAt_30 x1 x2 F G hM
theorem nqj_globalAt_5 {fu : Nat} {F0 : PF} (x1 : Int32) (F : PF) (G : PG) (hM : MFS F0 F) : PP (mb_globalAt_5 fu x1 F G) (fun _ F' _ => MFS F0 F') := by
  unfold mb_globalAt_5
  exact nqj_globalAt_20 x1 (F 36) (fup F 36 ((F 36) + (1 : Int32))) G (MFS.f (k := 36) rfl hM)
theorem nq_globalAt {fu : Nat} (x1 : Int32) (F : PF) (G : PG) : PP (mf_globalAt fu x1 F G) (fun _ F' _ => MFS F F') := by
  unfold mf_globalAt
  unfold mb_globalAt_0
  refine PP.bind (nq_twice x1 F G) ?_
  intro r1 F1 G1 hM1
  dsimp only
  exact nqj_globalAt_5 x1 F1 G1 (MFS.tr MFS.rf hM1)
theorem nqj_globalInt_27 {fu : Nat} {F0 : PF} (F : PF) (G : PG) (hM : MFS F0 F) : PP (mb_globalInt_27 fu F G) (fun _ F' _ => MFS F0 F') := by
  unfold mb_globalInt_27
  refine PP.ret ?_
  exact hM
theorem nqj_globalInt_21 {fu : Nat} {F0 : PF} (z0 : Int32) (z2 : Int32) (z3 : Int32) (z4 : Int32) (F : PF) (G : PG) (hM : MFS F0 F) : PP (mb_globalInt_21 fu z0 z2 z3 z4 F G) (fun _ F' _ => MFS F0 F') := by
  unfold mb_globalInt_21
  refine PP.ix (fun _ => ?_)
  refine PP.bind (mw_declare z4 z3 z2 (G 39 z0.toNatClampNeg) (1 : Int32) (0 : Int32) F G) ?_
  intro r1 F1 G1 hM1
  dsimp only
  exact nqj_globalInt_27 F1 G1 (MFS.tr hM (MFS.kx hM1 rfl rfl rfl rfl))
theorem nqj_globalInt_5 {fu : Nat} {F0 : PF} (x1 : Int32) (z0 : Int32) (F : PF) (G : PG) (hM : MFS F0 F) : PP (mb_globalInt_5 fu x1 z0 F G) (fun _ F' _ => MFS F0 F') := by
  unfold mb_globalInt_5
  exact nqj_globalInt_21 (if (2000 : Int32) < z0 then (2000 : Int32) else z0) (0 : Int32) (1 : Int32) x1 F G hM
theorem nq_globalInt {fu : Nat} (x1 : Int32) (F : PF) (G : PG) : PP (mf_globalInt fu x1 F G) (fun _ F' _ => MFS F F') := by
  unfold mf_globalInt
  unfold mb_globalInt_0
  refine PP.bind (nq_globalAt x1 F G) ?_
  intro r1 F1 G1 hM1
  dsimp only
  exact nqj_globalInt_5 x1 r1 F1 G1 (MFS.tr MFS.rf hM1)
theorem nqj_formalHere_23 {fu : Nat} {F0 : PF} (z0 : Int32) (F : PF) (G : PG) (hM : MFS F0 F) : PP (mb_formalHere_23 fu z0 F G) (fun _ F' _ => MFS F0 F') := by
  unfold mb_formalHere_23
  refine PP.ret ?_
  exact hM
theorem nqj_formalHere_18 {fu : Nat} {F0 : PF} (F : PF) (G : PG) (hM : MFS F0 F) : PP (mb_formalHere_18 fu F G) (fun _ F' _ => MFS F0 F') := by
  unfold mb_formalHere_18
  refine PP.bind (nq_fails (2 : Int32) (by decide) F G) ?_
  intro r1 F1 G1 hM1
  dsimp only
  exact nqj_formalHere_23 r1 F1 G1 (MFS.tr hM hM1)
theorem nqj_formalHere_185 {fu : Nat} {F0 : PF} (z0 : Int32) (F : PF) (G : PG) (hM : MFS F0 F) : PP (mb_formalHere_185 fu z0 F G) (fun _ F' _ => MFS F0 F') := by
  unfold mb_formalHere_185
  refine PP.ret ?_
  exact hM
theorem nqj_formalHere_172 {fu : Nat} {F0 : PF} (F : PF) (G : PG) (hM : MFS F0 F) : PP (mb_formalHere_172 fu F G) (fun _ F' _ => MFS F0 F') := by
  unfold mb_formalHere_172
  exact nqj_formalHere_185 (0 : Int32) F G hM
theorem nqj_formalHere_184 {fu : Nat} {F0 : PF} (F : PF) (G : PG) (hM : MFS F0 F) : PP (mb_formalHere_184 fu F G) (fun _ F' _ => MFS F0 F') := by
  unfold mb_formalHere_184
  exact nqj_formalHere_185 (1 : Int32) F G hM
theorem nqj_formalHere_180 {fu : Nat} {F0 : PF} (F : PF) (G : PG) (hM : MFS F0 F) : PP (mb_formalHere_180 fu F G) (fun _ F' _ => MFS F0 F') := by
  unfold mb_formalHere_180
  exact nqj_formalHere_185 (2 : Int32) F G hM
theorem nqj_formalHere_176 {fu : Nat} {F0 : PF} (x2 : Int32) (F : PF) (G : PG) (hM : MFS F0 F) : PP (mb_formalHere_176 fu x2 F G) (fun _ F' _ => MFS F0 F') := by
  unfold mb_formalHere_176
  refine PP.ite (fun c_1 => ?_) (fun c_1 => ?_)
  · skip
    exact nqj_formalHere_184 F G hM
  · skip
    exact nqj_formalHere_180 F G hM
theorem nqj_formalHere_167 {fu : Nat} {F0 : PF} (x2 : Int32) (x4 : Int32) (F : PF) (G : PG) (hM : MFS F0 F) : PP (mb_formalHere_167 fu x2 x4 F G) (fun _ F' _ => MFS F0 F') := by
  unfold mb_formalHere_167
  refine PP.ite (fun c_1 => ?_) (fun c_1 => ?_)
  · skip
    exact nqj_formalHere_172 F G hM
  · skip
    exact nqj_formalHere_176 x2 F G hM
theorem nqj_formalHere_163 {fu : Nat} {F0 : PF} (x2 : Int32) (x4 : Int32) (z0 : Int32) (z1 : Int32) (F : PF) (G : PG) (hM : MFS F0 F) : PP (mb_formalHere_163 fu x2 x4 z0 z1 F G) (fun _ F' _ => MFS F0 F') := by
  unfold mb_formalHere_163
  exact nqj_formalHere_167 x2 x4 (fup F 53 (z1 + z0)) G (MFS.f (k := 53) rfl hM)
theorem nqj_formalHere_162 {fu : Nat} {F0 : PF} (x2 : Int32) (x4 : Int32) (z0 : Int32) (F : PF) (G : PG) (hM : MFS F0 F) : PP (mb_formalHere_162 fu x2 x4 z0 F G) (fun _ F' _ => MFS F0 F') := by
  unfold mb_formalHere_162
  exact nqj_formalHere_163 x2 x4 (1 : Int32) z0 F G hM
theorem nqj_formalHere_158 {fu : Nat} {F0 : PF} (x2 : Int32) (x4 : Int32) (z0 : Int32) (F : PF) (G : PG) (hM : MFS F0 F) : PP (mb_formalHere_158 fu x2 x4 z0 F G) (fun _ F' _ => MFS F0 F') := by
  unfold mb_formalHere_158
  exact nqj_formalHere_163 x2 x4 (2 : Int32) z0 F G hM
theorem nqj_formalHere_148 {fu : Nat} {F0 : PF} (x2 : Int32) (x4 : Int32) (F : PF) (G : PG) (hM : MFS F0 F) : PP (mb_formalHere_148 fu x2 x4 F G) (fun _ F' _ => MFS F0 F') := by
  unfold mb_formalHere_148
  refine PP.ite (fun c_1 => ?_) (fun c_1 => ?_)
  · skip
    exact nqj_formalHere_162 x2 x4 (F 53) F G hM
  · skip
    exact nqj_formalHere_158 x2 x4 (F 53) F G hM
theorem nqj_formalHere_144 {fu : Nat} {F0 : PF} (x2 : Int32) (x4 : Int32) (z0 : Int32) (z1 : Int32) (z2 : Int32) (z3 : Int32) (z4 : Int32) (F : PF) (G : PG) (hM : MFS F0 F) : PP (mb_formalHere_144 fu x2 x4 z0 z1 z2 z3 z4 F G) (fun _ F' _ => MFS F0 F') := by
  unfold mb_formalHere_144
  refine PP.bind (mw_declare z4 z3 z2 z1 z0 (1 : Int32) F G) ?_
  intro r1 F1 G1 hM1
  dsimp only
  exact nqj_formalHere_148 x2 x4 F1 G1 (MFS.tr hM (MFS.kx hM1 rfl rfl rfl rfl))
theorem nqj_formalHere_143 {fu : Nat} {F0 : PF} (x2 : Int32) (x4 : Int32) (z0 : Int32) (z1 : Int32) (z2 : Int32) (z3 : Int32) (F : PF) (G : PG) (hM : MFS F0 F) : PP (mb_formalHere_143 fu x2 x4 z0 z1 z2 z3 F G) (fun _ F' _ => MFS F0 F') := by
  unfold mb_formalHere_143
  exact nqj_formalHere_144 x2 x4 (1 : Int32) z0 z1 z2 z3 F G hM
theorem nqj_formalHere_139 {fu : Nat} {F0 : PF} (x2 : Int32) (x4 : Int32) (z0 : Int32) (z1 : Int32) (z2 : Int32) (z3 : Int32) (F : PF) (G : PG) (hM : MFS F0 F) : PP (mb_formalHere_139 fu x2 x4 z0 z1 z2 z3 F G) (fun _ F' _ => MFS F0 F') := by
  unfold mb_formalHere_139
  exact nqj_formalHere_144 x2 x4 (-1 : Int32) z0 z1 z2 z3 F G hM
theorem nqj_formalHere_129 {fu : Nat} {F0 : PF} (x2 : Int32) (x4 : Int32) (z0 : Int32) (z1 : Int32) (F : PF) (G : PG) (hM : MFS F0 F) : PP (mb_formalHere_129 fu x2 x4 z0 z1 F G) (fun _ F' _ => MFS F0 F') := by
  unfold mb_formalHere_129
  refine PP.ite (fun c_1 => ?_) (fun c_1 => ?_)
  · skip
    exact nqj_formalHere_143 x2 x4 (F 53) x2 z0 z1 F G hM
  · skip
    exact nqj_formalHere_139 x2 x4 (F 53) x2 z0 z1 F G hM
theorem nqj_formalHere_128 {fu : Nat} {F0 : PF} (x2 : Int32) (x4 : Int32) (z0 : Int32) (F : PF) (G : PG) (hM : MFS F0 F) : PP (mb_formalHere_128 fu x2 x4 z0 F G) (fun _ F' _ => MFS F0 F') := by
  unfold mb_formalHere_128
  exact nqj_formalHere_129 x2 x4 (1 : Int32) z0 F G hM
theorem nqj_formalHere_124 {fu : Nat} {F0 : PF} (x2 : Int32) (x4 : Int32) (z0 : Int32) (F : PF) (G : PG) (hM : MFS F0 F) : PP (mb_formalHere_124 fu x2 x4 z0 F G) (fun _ F' _ => MFS F0 F') := by
  unfold mb_formalHere_124
  exact nqj_formalHere_129 x2 x4 (2 : Int32) z0 F G hM
theorem nqj_formalHere_117 {fu : Nat} {F0 : PF} (x2 : Int32) (x3 : Int32) (x4 : Int32) (F : PF) (G : PG) (hM : MFS F0 F) : PP (mb_formalHere_117 fu x2 x3 x4 F G) (fun _ F' _ => MFS F0 F') := by
  unfold mb_formalHere_117
  refine PP.ite (fun c_1 => ?_) (fun c_1 => ?_)
  · skip
    exact nqj_formalHere_128 x2 x4 x3 F G hM
  · skip
    exact nqj_formalHere_124 x2 x4 x3 F G hM
theorem nqj_formalHere_115 {fu : Nat} {F0 : PF} (F : PF) (G : PG) (hM : MFS F0 F) : PP (mb_formalHere_115 fu F G) (fun _ F' _ => MFS F0 F') := by
  unfold mb_formalHere_115
  refine PP.ret ?_
  exact hM
theorem nqj_formalHere_112 {fu : Nat} {F0 : PF} (x2 : Int32) (x3 : Int32) (x4 : Int32) (z0 : Int32) (F : PF) (G : PG) (hM : MFS F0 F) : PP (mb_formalHere_112 fu x2 x3 x4 z0 F G) (fun _ F' _ => MFS F0 F') := by
  unfold mb_formalHere_112
  refine PP.ite (fun c_1 => ?_) (fun c_1 => ?_)
  · skip
    exact nqj_formalHere_115 F G hM
  · skip
    exact nqj_formalHere_117 x2 x3 x4 F G hM
theorem nqj_formalHere_106 {fu : Nat} {F0 : PF} (x2 : Int32) (x3 : Int32) (x4 : Int32) (F : PF) (G : PG) (hM : MFS F0 F) : PP (mb_formalHere_106 fu x2 x3 x4 F G) (fun _ F' _ => MFS F0 F') := by
  unfold mb_formalHere_106
  refine PP.bind (nq_closeSign (25 : Int32) F G) ?_
  intro r1 F1 G1 hM1
  dsimp only
  exact nqj_formalHere_112 x2 x3 x4 r1 F1 G1 (MFS.tr hM hM1)
theorem nqj_formalHere_103 {fu : Nat} {F0 : PF} (x2 : Int32) (x3 : Int32) (x4 : Int32) (z0 : Int32) (F : PF) (G : PG) (hM : MFS F0 F) : PP (mb_formalHere_103 fu x2 x3 x4 z0 F G) (fun _ F' _ => MFS F0 F') := by
  unfold mb_formalHere_103
  refine PP.ite (fun c_1 => ?_) (fun c_1 => ?_)
  · skip
    exact nqj_formalHere_115 F G hM
  · skip
    exact nqj_formalHere_106 x2 x3 x4 F G hM
theorem nqj_formalHere_97 {fu : Nat} {F0 : PF} (x2 : Int32) (x3 : Int32) (x4 : Int32) (F : PF) (G : PG) (hM : MFS F0 F) : PP (mb_formalHere_97 fu x2 x3 x4 F G) (fun _ F' _ => MFS F0 F') := by
  unfold mb_formalHere_97
  refine PP.bind (nq_openSign (24 : Int32) F G) ?_
  intro r1 F1 G1 hM1
  dsimp only
  exact nqj_formalHere_103 x2 x3 x4 r1 F1 G1 (MFS.tr hM hM1)
theorem nqj_formalHere_90 {fu : Nat} {F0 : PF} (x2 : Int32) (x3 : Int32) (z0 : Int32) (F : PF) (G : PG) (hM : MFS F0 F) : PP (mb_formalHere_90 fu x2 x3 z0 F G) (fun _ F' _ => MFS F0 F') := by
  unfold mb_formalHere_90
  refine PP.ite (fun c_1 => ?_) (fun c_1 => ?_)
  · skip
    exact nqj_formalHere_117 x2 x3 z0 F G hM
  · skip
    exact nqj_formalHere_97 x2 x3 z0 F G hM
theorem nqj_formalHere_89 {fu : Nat} {F0 : PF} (x2 : Int32) (x3 : Int32) (F : PF) (G : PG) (hM : MFS F0 F) : PP (mb_formalHere_89 fu x2 x3 F G) (fun _ F' _ => MFS F0 F') := by
  unfold mb_formalHere_89
  exact nqj_formalHere_90 x2 x3 (0 : Int32) F G hM
theorem nqj_formalHere_85 {fu : Nat} {F0 : PF} (x2 : Int32) (x3 : Int32) (F : PF) (G : PG) (hM : MFS F0 F) : PP (mb_formalHere_85 fu x2 x3 F G) (fun _ F' _ => MFS F0 F') := by
  unfold mb_formalHere_85
  exact nqj_formalHere_90 x2 x3 (1 : Int32) F G hM
theorem nqj_formalHere_82 {fu : Nat} {F0 : PF} (x2 : Int32) (x3 : Int32) (z0 : Int32) (F : PF) (G : PG) (hM : MFS F0 F) : PP (mb_formalHere_82 fu x2 x3 z0 F G) (fun _ F' _ => MFS F0 F') := by
  unfold mb_formalHere_82
  refine PP.ite (fun c_1 => ?_) (fun c_1 => ?_)
  · skip
    exact nqj_formalHere_89 x2 x3 F G hM
  · skip
    exact nqj_formalHere_85 x2 x3 F G hM
theorem nqj_formalHere_76 {fu : Nat} {F0 : PF} (x2 : Int32) (x3 : Int32) (F : PF) (G : PG) (hM : MFS F0 F) : PP (mb_formalHere_76 fu x2 x3 F G) (fun _ F' _ => MFS F0 F') := by
  unfold mb_formalHere_76
  refine PP.bind (mw_isSign (24 : Int32) F G) ?_
  intro r1 F1 G1 hM1
  dsimp only
  exact nqj_formalHere_82 x2 x3 r1 F1 G1 (MFS.tr hM (MFS.kx hM1 rfl rfl rfl rfl))
theorem nqj_formalHere_72 {fu : Nat} {F0 : PF} (x2 : Int32) (x3 : Int32) (F : PF) (G : PG) (hM : MFS F0 F) : PP (mb_formalHere_72 fu x2 x3 F G) (fun _ F' _ => MFS F0 F') := by
  unfold mb_formalHere_72
  refine PP.ite (fun c_1 => ?_) (fun c_1 => ?_)
  · skip
    exact nqj_formalHere_76 x2 x3 F G hM
  · skip
    exact nqj_formalHere_85 x2 x3 F G hM
theorem nqj_formalHere_60 {fu : Nat} {F0 : PF} (x2 : Int32) (x3 : Int32) (F : PF) (G : PG) (hM : MFS F0 F) : PP (mb_formalHere_60 fu x2 x3 F G) (fun _ F' _ => MFS F0 F') := by
  unfold mb_formalHere_60
  refine PP.ix (fun _ => ?_)
  refine PP.bind (nq_note (11 : Int32) (G 6 x3.toNatClampNeg) (by decide) F G) ?_
  intro r1 F1 G1 hM1
  dsimp only
  exact nqj_formalHere_72 x2 x3 F1 G1 (MFS.tr hM hM1)
theorem nqj_formalHere_55 {fu : Nat} {F0 : PF} (x1 : Int32) (x2 : Int32) (x3 : Int32) (F : PF) (G : PG) (hM : MFS F0 F) : PP (mb_formalHere_55 fu x1 x2 x3 F G) (fun _ F' _ => MFS F0 F') := by
  unfold mb_formalHere_55
  refine PP.ite (fun c_1 => ?_) (fun c_1 => ?_)
  · skip
    exact nqj_formalHere_60 x2 x3 F G hM
  · skip
    exact nqj_formalHere_72 x2 x3 F G hM
theorem nqj_formalHere_50 {fu : Nat} {F0 : PF} (x1 : Int32) (x2 : Int32) (x3 : Int32) (F : PF) (G : PG) (hM : MFS F0 F) : PP (mb_formalHere_50 fu x1 x2 x3 F G) (fun _ F' _ => MFS F0 F') := by
  unfold mb_formalHere_50
  refine PP.bind (nq_twice x3 F G) ?_
  intro r1 F1 G1 hM1
  dsimp only
  exact nqj_formalHere_55 x1 x2 x3 F1 G1 (MFS.tr hM hM1)
theorem nqj_formalHere_48 {fu : Nat} {F0 : PF} (F : PF) (G : PG) (hM : MFS F0 F) : PP (mb_formalHere_48 fu F G) (fun _ F' _ => MFS F0 F') := by
  unfold mb_formalHere_48
  refine PP.ret ?_
  exact hM
theorem nqj_formalHere_40 {fu : Nat} {F0 : PF} (x1 : Int32) (x2 : Int32) (z0 : Int32) (F : PF) (G : PG) (hM : MFS F0 F) : PP (mb_formalHere_40 fu x1 x2 z0 F G) (fun _ F' _ => MFS F0 F') := by
  unfold mb_formalHere_40
  refine PP.ite (fun c_1 => ?_) (fun c_1 => ?_)
  · skip
    exact nqj_formalHere_50 x1 x2 z0 F G hM
  · skip
    exact nqj_formalHere_48 F G hM
theorem nqj_formalHere_36 {fu : Nat} {F0 : PF} (x1 : Int32) (x2 : Int32) (F : PF) (G : PG) (hM : MFS F0 F) : PP (mb_formalHere_36 fu x1 x2 F G) (fun _ F' _ => MFS F0 F') := by
  unfold mb_formalHere_36
  refine PP.bind (nq_name F G) ?_
  intro r1 F1 G1 hM1
  dsimp only
  exact nqj_formalHere_40 x1 x2 r1 F1 G1 (MFS.tr hM hM1)
theorem nqj_formalHere_26 {fu : Nat} {F0 : PF} (x1 : Int32) (x2 : Int32) (F : PF) (G : PG) (hM : MFS F0 F) : PP (mb_formalHere_26 fu x1 x2 F G) (fun _ F' _ => MFS F0 F') := by
  unfold mb_formalHere_26
  exact nqj_formalHere_36 x1 x2 (fup F 42 ((F 42) + (1 : Int32))) G (MFS.f (k := 42) rfl hM)
theorem nqj_formalHere_15 {fu : Nat} {F0 : PF} (x1 : Int32) (x2 : Int32) (z0 : Int32) (F : PF) (G : PG) (hM : MFS F0 F) : PP (mb_formalHere_15 fu x1 x2 z0 F G) (fun _ F' _ => MFS F0 F') := by
  unfold mb_formalHere_15
  refine PP.ite (fun c_1 => ?_) (fun c_1 => ?_)
  · skip
    exact nqj_formalHere_18 F G hM
  · skip
    exact nqj_formalHere_26 x1 x2 F G hM
theorem nqj_formalHere_10 {fu : Nat} {F0 : PF} (x1 : Int32) (x2 : Int32) (F : PF) (G : PG) (hM : MFS F0 F) : PP (mb_formalHere_10 fu x1 x2 F G) (fun _ F' _ => MFS F0 F') := by
  unfold mb_formalHere_10
  refine PP.bind (mw_isWord (0 : Int32) F G) ?_
  intro r1 F1 G1 hM1
  dsimp only
  exact nqj_formalHere_15 x1 x2 r1 F1 G1 (MFS.tr hM (MFS.kx hM1 rfl rfl rfl rfl))
theorem nqj_formalHere_5 {fu : Nat} {F0 : PF} (x1 : Int32) (z0 : Int32) (F : PF) (G : PG) (hM : MFS F0 F) : PP (mb_formalHere_5 fu x1 z0 F G) (fun _ F' _ => MFS F0 F') := by
  unfold mb_formalHere_5
  refine PP.ite (fun c_1 => ?_) (fun c_1 => ?_)
  · skip
    exact nqj_formalHere_10 x1 z0 F G hM
  · skip
    exact nqj_formalHere_26 x1 z0 F G hM
theorem nq_formalHere {fu : Nat} (x1 : Int32) (F : PF) (G : PG) : PP (mf_formalHere fu x1 F G) (fun _ F' _ => MFS F F') := by
  unfold mf_formalHere
  unfold mb_formalHere_0
  refine PP.bind (mw_isWord (1 : Int32) F G) ?_
  intro r1 F1 G1 hM1
  dsimp only
  exact nqj_formalHere_5 x1 r1 F1 G1 (MFS.tr MFS.rf (MFS.kx hM1 rfl rfl rfl rfl))
theorem nqj_condition_30 {fu : Nat} {F0 : PF} (z0 : Int32) (F : PF) (G : PG) (hM : MFS F0 F) : PP (mb_condition_30 fu z0 F G) (fun _ F' _ => MFS F0 F') := by
  unfold mb_condition_30
  refine PP.bz (fun _ => ?_)
  refine PP.ret ?_
  exact hM
theorem nqj_condition_29 {fu : Nat} {F0 : PF} (F : PF) (G : PG) (hM : MFS F0 F) : PP (mb_condition_29 fu F G) (fun _ F' _ => MFS F0 F') := by
  unfold mb_condition_29
  exact nqj_condition_30 (0 : Int32) F G hM
theorem nqj_condition_25 {fu : Nat} {F0 : PF} (F : PF) (G : PG) (hM : MFS F0 F) : PP (mb_condition_25 fu F G) (fun _ F' _ => MFS F0 F') := by
  unfold mb_condition_25
  exact nqj_condition_30 (1 : Int32) F G hM
theorem nqj_condition_22 {fu : Nat} {F0 : PF} (z0 : Int32) (F : PF) (G : PG) (hM : MFS F0 F) : PP (mb_condition_22 fu z0 F G) (fun _ F' _ => MFS F0 F') := by
  unfold mb_condition_22
  refine PP.ite (fun c_1 => ?_) (fun c_1 => ?_)
  · skip
    exact nqj_condition_29 F G hM
  · skip
    exact nqj_condition_25 F G hM
theorem nqj_condition_16 {fu : Nat} {F0 : PF} (F : PF) (G : PG) (hM : MFS F0 F) : PP (mb_condition_16 fu F G) (fun _ F' _ => MFS F0 F') := by
  unfold mb_condition_16
  refine PP.bind (nq_closeSign (23 : Int32) F G) ?_
  intro r1 F1 G1 hM1
  dsimp only
  exact nqj_condition_22 r1 F1 G1 (MFS.tr hM hM1)
theorem nqj_condition_13 {fu : Nat} {F0 : PF} (z0 : Int32) (F : PF) (G : PG) (hM : MFS F0 F) : PP (mb_condition_13 fu z0 F G) (fun _ F' _ => MFS F0 F') := by
  unfold mb_condition_13
  refine PP.ite (fun c_1 => ?_) (fun c_1 => ?_)
  · skip
    exact nqj_condition_29 F G hM
  · skip
    exact nqj_condition_16 F G hM
theorem nqj_condition_9 {fu : Nat} {F0 : PF} (F : PF) (G : PG) (hM : MFS F0 F) : PP (mb_condition_9 fu F G) (fun _ F' _ => MFS F0 F') := by
  unfold mb_condition_9
  refine PP.bind (nq_expression F G) ?_
  intro r1 F1 G1 hM1
  dsimp only
  exact nqj_condition_13 r1 F1 G1 (MFS.tr hM hM1)
theorem nqj_condition_6 {fu : Nat} {F0 : PF} (z0 : Int32) (F : PF) (G : PG) (hM : MFS F0 F) : PP (mb_condition_6 fu z0 F G) (fun _ F' _ => MFS F0 F') := by
  unfold mb_condition_6
  refine PP.ite (fun c_1 => ?_) (fun c_1 => ?_)
  · skip
    exact nqj_condition_29 F G hM
  · skip
    exact nqj_condition_9 F G hM
theorem nq_condition {fu : Nat} (F : PF) (G : PG) : PP (mf_condition fu F G) (fun _ F' _ => MFS F F') := by
  unfold mf_condition
  unfold mb_condition_0
  refine PP.bind (nq_openSign (22 : Int32) F G) ?_
  intro r1 F1 G1 hM1
  dsimp only
  exact nqj_condition_6 r1 F1 G1 (MFS.tr MFS.rf hM1)
theorem nqj_returns_96 {fu : Nat} {F0 : PF} (F : PF) (G : PG) (hM : MFS F0 F) : PP (mb_returns_96 fu F G) (fun _ F' _ => MFS F0 F') := by
  unfold mb_returns_96
  refine PP.ret ?_
  exact hM
theorem nqj_returns_113 {fu : Nat} {F0 : PF} (z0 : Int32) (F : PF) (G : PG) (hM : MFS F0 F) : PP (mb_returns_113 fu z0 F G) (fun _ F' _ => MFS F0 F') := by
  unfold mb_returns_113
  refine PP.bz (fun _ => ?_)
  refine PP.ret ?_
  exact hM
theorem nqj_returns_106 {fu : Nat} {F0 : PF} (z0 : Int32) (F : PF) (G : PG) (hM : MFS F0 F) : PP (mb_returns_106 fu z0 F G) (fun _ F' _ => MFS F0 F') := by
  unfold mb_returns_106
  refine PP.bind (nq_sign (29 : Int32) F G) ?_
  intro r1 F1 G1 hM1
  dsimp only
  exact nqj_returns_113 r1 F1 G1 (MFS.tr hM hM1)
theorem nqj_returns_98 {fu : Nat} {F0 : PF} (F : PF) (G : PG) (hM : MFS F0 F) : PP (mb_returns_98 fu F G) (fun _ F' _ => MFS F0 F') := by
  unfold mb_returns_98
  refine PP.bind (mw_step (17 : Int32) (0 : Int32) (0 : Int32) F G) ?_
  intro r1 F1 G1 hM1
  dsimp only
  exact nqj_returns_106 r1 F1 G1 (MFS.tr hM (MFS.kx hM1 rfl rfl rfl rfl))
theorem nqj_returns_93 {fu : Nat} {F0 : PF} (z0 : Int32) (F : PF) (G : PG) (hM : MFS F0 F) : PP (mb_returns_93 fu z0 F G) (fun _ F' _ => MFS F0 F') := by
  unfold mb_returns_93
  refine PP.ite (fun c_1 => ?_) (fun c_1 => ?_)
  · skip
    exact nqj_returns_96 F G hM
  · skip
    exact nqj_returns_98 F G hM
theorem nqj_returns_89 {fu : Nat} {F0 : PF} (F : PF) (G : PG) (hM : MFS F0 F) : PP (mb_returns_89 fu F G) (fun _ F' _ => MFS F0 F') := by
  unfold mb_returns_89
  refine PP.bind (nq_expression F G) ?_
  intro r1 F1 G1 hM1
  dsimp only
  exact nqj_returns_93 r1 F1 G1 (MFS.tr hM hM1)
theorem nqj_returns_69 {fu : Nat} {F0 : PF} (F : PF) (G : PG) (hM : MFS F0 F) : PP (mb_returns_69 fu F G) (fun _ F' _ => MFS F0 F') := by
  unfold mb_returns_69
  refine PP.ix (fun _ => ?_)
  refine PP.bind (mw_rank (7 : Int32) F G) ?_
  intro r1 F1 G1 hM1
  dsimp only
  unfold mb_returns_86
  refine PP.bind (nq_noteAs (8 : Int32) (G 6 (F 42).toNatClampNeg) r1 (by decide) F1 G1) ?_
  intro r2 F2 G2 hM2
  dsimp only
  exact nqj_returns_89 F2 G2 (MFS.tr (MFS.tr hM (MFS.kx hM1 rfl rfl rfl rfl)) hM2)
theorem nqj_returns_57 {fu : Nat} {F0 : PF} (F : PF) (G : PG) (hM : MFS F0 F) : PP (mb_returns_57 fu F G) (fun _ F' _ => MFS F0 F') := by
  unfold mb_returns_57
  refine PP.ix (fun _ => ?_)
  refine PP.ite (fun c_1 => ?_) (fun c_1 => ?_)
  · skip
    exact nqj_returns_89 F G hM
  · skip
    exact nqj_returns_69 F G hM
theorem nqj_returns_53 {fu : Nat} {F0 : PF} (z0 : Int32) (F : PF) (G : PG) (hM : MFS F0 F) : PP (mb_returns_53 fu z0 F G) (fun _ F' _ => MFS F0 F') := by
  unfold mb_returns_53
  exact nqj_returns_98 F G hM
theorem nqj_returns_46 {fu : Nat} {F0 : PF} (F : PF) (G : PG) (hM : MFS F0 F) : PP (mb_returns_46 fu F G) (fun _ F' _ => MFS F0 F') := by
  unfold mb_returns_46
  refine PP.bind (mw_step (0 : Int32) (0 : Int32) (0 : Int32) F G) ?_
  intro r1 F1 G1 hM1
  dsimp only
  exact nqj_returns_53 r1 F1 G1 (MFS.tr hM (MFS.kx hM1 rfl rfl rfl rfl))
theorem nqj_returns_31 {fu : Nat} {F0 : PF} (F : PF) (G : PG) (hM : MFS F0 F) : PP (mb_returns_31 fu F G) (fun _ F' _ => MFS F0 F') := by
  unfold mb_returns_31
  refine PP.ix (fun _ => ?_)
  refine PP.bind (nq_note (8 : Int32) (G 6 (F 42).toNatClampNeg) (by decide) F G) ?_
  intro r1 F1 G1 hM1
  dsimp only
  exact nqj_returns_46 F1 G1 (MFS.tr hM hM1)
theorem nqj_returns_19 {fu : Nat} {F0 : PF} (F : PF) (G : PG) (hM : MFS F0 F) : PP (mb_returns_19 fu F G) (fun _ F' _ => MFS F0 F') := by
  unfold mb_returns_19
  refine PP.ix (fun _ => ?_)
  refine PP.ite (fun c_1 => ?_) (fun c_1 => ?_)
  · skip
    exact nqj_returns_31 F G hM
  · skip
    exact nqj_returns_46 F G hM
theorem nqj_returns_16 {fu : Nat} {F0 : PF} (z0 : Int32) (F : PF) (G : PG) (hM : MFS F0 F) : PP (mb_returns_16 fu z0 F G) (fun _ F' _ => MFS F0 F') := by
  unfold mb_returns_16
  refine PP.ite (fun c_1 => ?_) (fun c_1 => ?_)
  · skip
    exact nqj_returns_57 F G hM
  · skip
    exact nqj_returns_19 F G hM
theorem nqj_returns_10 {fu : Nat} {F0 : PF} (F : PF) (G : PG) (hM : MFS F0 F) : PP (mb_returns_10 fu F G) (fun _ F' _ => MFS F0 F') := by
  unfold mb_returns_10
  refine PP.bind (mw_isSign (29 : Int32) F G) ?_
  intro r1 F1 G1 hM1
  dsimp only
  exact nqj_returns_16 r1 F1 G1 (MFS.tr hM (MFS.kx hM1 rfl rfl rfl rfl))
theorem nq_returns {fu : Nat} (F : PF) (G : PG) : PP (mf_returns fu F G) (fun _ F' _ => MFS F F') := by
  unfold mf_returns
  unfold mb_returns_0
  exact nqj_returns_10 (fup F 42 ((F 42) + (1 : Int32))) G (MFS.f (k := 42) rfl MFS.rf)
theorem nqj_simple_342 {fu : Nat} {F0 : PF} (z0 : Int32) (F : PF) (G : PG) (hM : MFS F0 F) : PP (mb_simple_342 fu z0 F G) (fun _ F' _ => MFS F0 F') := by
  unfold mb_simple_342
  refine PP.bz (fun _ => ?_)
  refine PP.ret ?_
  exact hM
theorem nqj_simple_337 {fu : Nat} {F0 : PF} (F : PF) (G : PG) (hM : MFS F0 F) : PP (mb_simple_337 fu F G) (fun _ F' _ => MFS F0 F') := by
  unfold mb_simple_337
  refine PP.bind (nq_fails (2 : Int32) (by decide) F G) ?_
  intro r1 F1 G1 hM1
  dsimp only
  exact nqj_simple_342 r1 F1 G1 (MFS.tr hM hM1)
theorem nqj_simple_628 {fu : Nat} {F0 : PF} (F : PF) (G : PG) (hM : MFS F0 F) : PP (mb_simple_628 fu F G) (fun _ F' _ => MFS F0 F') := by
  unfold mb_simple_628
  refine PP.ret ?_
  exact hM
theorem nqj_simple_627 {fu : Nat} {F0 : PF} (z0 : Int32) (F : PF) (G : PG) (hM : MFS F0 F) : PP (mb_simple_627 fu z0 F G) (fun _ F' _ => MFS F0 F') := by
  unfold mb_simple_627
  exact nqj_simple_628 F G hM
theorem nqj_simple_621 {fu : Nat} {F0 : PF} (x8 : Int32) (z0 : Int32) (F : PF) (G : PG) (hM : MFS F0 F) : PP (mb_simple_621 fu x8 z0 F G) (fun _ F' _ => MFS F0 F') := by
  unfold mb_simple_621
  refine PP.bind (mw_step z0 x8 (0 : Int32) F G) ?_
  intro r1 F1 G1 hM1
  dsimp only
  exact nqj_simple_627 r1 F1 G1 (MFS.tr hM (MFS.kx hM1 rfl rfl rfl rfl))
theorem nqj_simple_620 {fu : Nat} {F0 : PF} (x8 : Int32) (F : PF) (G : PG) (hM : MFS F0 F) : PP (mb_simple_620 fu x8 F G) (fun _ F' _ => MFS F0 F') := by
  unfold mb_simple_620
  exact nqj_simple_621 x8 (4 : Int32) F G hM
theorem nqj_simple_616 {fu : Nat} {F0 : PF} (x8 : Int32) (F : PF) (G : PG) (hM : MFS F0 F) : PP (mb_simple_616 fu x8 F G) (fun _ F' _ => MFS F0 F') := by
  unfold mb_simple_616
  exact nqj_simple_621 x8 (2 : Int32) F G hM
theorem nqj_simple_610 {fu : Nat} {F0 : PF} (x7 : Int32) (x8 : Int32) (F : PF) (G : PG) (hM : MFS F0 F) : PP (mb_simple_610 fu x7 x8 F G) (fun _ F' _ => MFS F0 F') := by
  unfold mb_simple_610
  refine PP.ite (fun c_1 => ?_) (fun c_1 => ?_)
  · skip
    exact nqj_simple_620 x8 F G hM
  · skip
    exact nqj_simple_616 x8 F G hM
theorem nqj_simple_606 {fu : Nat} {F0 : PF} (z0 : Int32) (F : PF) (G : PG) (hM : MFS F0 F) : PP (mb_simple_606 fu z0 F G) (fun _ F' _ => MFS F0 F') := by
  unfold mb_simple_606
  exact nqj_simple_628 F G hM
theorem nqj_simple_602 {fu : Nat} {F0 : PF} (z0 : Int32) (z1 : Int32) (F : PF) (G : PG) (hM : MFS F0 F) : PP (mb_simple_602 fu z0 z1 F G) (fun _ F' _ => MFS F0 F') := by
  unfold mb_simple_602
  refine PP.bind (mw_step z1 z0 (0 : Int32) F G) ?_
  intro r1 F1 G1 hM1
  dsimp only
  exact nqj_simple_606 r1 F1 G1 (MFS.tr hM (MFS.kx hM1 rfl rfl rfl rfl))
theorem nqj_simple_601 {fu : Nat} {F0 : PF} (z0 : Int32) (F : PF) (G : PG) (hM : MFS F0 F) : PP (mb_simple_601 fu z0 F G) (fun _ F' _ => MFS F0 F') := by
  unfold mb_simple_601
  exact nqj_simple_602 (0 : Int32) z0 F G hM
theorem nqj_simple_597 {fu : Nat} {F0 : PF} (z0 : Int32) (F : PF) (G : PG) (hM : MFS F0 F) : PP (mb_simple_597 fu z0 F G) (fun _ F' _ => MFS F0 F') := by
  unfold mb_simple_597
  exact nqj_simple_602 (1 : Int32) z0 F G hM
theorem nqj_simple_589 {fu : Nat} {F0 : PF} (x6 : Int32) (F : PF) (G : PG) (hM : MFS F0 F) : PP (mb_simple_589 fu x6 F G) (fun _ F' _ => MFS F0 F') := by
  unfold mb_simple_589
  refine PP.ite (fun c_1 => ?_) (fun c_1 => ?_)
  · skip
    exact nqj_simple_601 (8 : Int32) F G hM
  · skip
    exact nqj_simple_597 (8 : Int32) F G hM
theorem nqj_simple_584 {fu : Nat} {F0 : PF} (x4 : Int32) (x6 : Int32) (x7 : Int32) (x8 : Int32) (F : PF) (G : PG) (hM : MFS F0 F) : PP (mb_simple_584 fu x4 x6 x7 x8 F G) (fun _ F' _ => MFS F0 F') := by
  unfold mb_simple_584
  refine PP.ite (fun c_1 => ?_) (fun c_1 => ?_)
  · skip
    exact nqj_simple_610 x7 x8 F G hM
  · skip
    exact nqj_simple_589 x6 F G hM
theorem nqj_simple_583 {fu : Nat} {F0 : PF} (x4 : Int32) (x6 : Int32) (x7 : Int32) (x8 : Int32) (z0 : Int32) (F : PF) (G : PG) (hM : MFS F0 F) : PP (mb_simple_583 fu x4 x6 x7 x8 z0 F G) (fun _ F' _ => MFS F0 F') := by
  unfold mb_simple_583
  exact nqj_simple_584 x4 x6 x7 x8 F G hM
theorem nqj_simple_579 {fu : Nat} {F0 : PF} (x4 : Int32) (x6 : Int32) (x7 : Int32) (x8 : Int32) (z0 : Int32) (z1 : Int32) (F : PF) (G : PG) (hM : MFS F0 F) : PP (mb_simple_579 fu x4 x6 x7 x8 z0 z1 F G) (fun _ F' _ => MFS F0 F') := by
  unfold mb_simple_579
  refine PP.bind (mw_step z1 z0 (0 : Int32) F G) ?_
  intro r1 F1 G1 hM1
  dsimp only
  exact nqj_simple_583 x4 x6 x7 x8 r1 F1 G1 (MFS.tr hM (MFS.kx hM1 rfl rfl rfl rfl))
theorem nqj_simple_461 {fu : Nat} {F0 : PF} (x4 : Int32) (x6 : Int32) (x7 : Int32) (x8 : Int32) (z0 : Int32) (F : PF) (G : PG) (hM : MFS F0 F) : PP (mb_simple_461 fu x4 x6 x7 x8 z0 F G) (fun _ F' _ => MFS F0 F') := by
  unfold mb_simple_461
  exact nqj_simple_579 x4 x6 x7 x8 (38 : Int32) z0 F G hM
theorem nqj_simple_479 {fu : Nat} {F0 : PF} (x4 : Int32) (x6 : Int32) (x7 : Int32) (x8 : Int32) (z0 : Int32) (F : PF) (G : PG) (hM : MFS F0 F) : PP (mb_simple_479 fu x4 x6 x7 x8 z0 F G) (fun _ F' _ => MFS F0 F') := by
  unfold mb_simple_479
  exact nqj_simple_579 x4 x6 x7 x8 (39 : Int32) z0 F G hM
theorem nqj_simple_491 {fu : Nat} {F0 : PF} (x4 : Int32) (x6 : Int32) (x7 : Int32) (x8 : Int32) (z0 : Int32) (F : PF) (G : PG) (hM : MFS F0 F) : PP (mb_simple_491 fu x4 x6 x7 x8 z0 F G) (fun _ F' _ => MFS F0 F') := by
  unfold mb_simple_491
  exact nqj_simple_579 x4 x6 x7 x8 (40 : Int32) z0 F G hM
theorem nqj_simple_503 {fu : Nat} {F0 : PF} (x4 : Int32) (x6 : Int32) (x7 : Int32) (x8 : Int32) (z0 : Int32) (F : PF) (G : PG) (hM : MFS F0 F) : PP (mb_simple_503 fu x4 x6 x7 x8 z0 F G) (fun _ F' _ => MFS F0 F') := by
  unfold mb_simple_503
  exact nqj_simple_579 x4 x6 x7 x8 (41 : Int32) z0 F G hM
theorem nqj_simple_515 {fu : Nat} {F0 : PF} (x4 : Int32) (x6 : Int32) (x7 : Int32) (x8 : Int32) (z0 : Int32) (F : PF) (G : PG) (hM : MFS F0 F) : PP (mb_simple_515 fu x4 x6 x7 x8 z0 F G) (fun _ F' _ => MFS F0 F') := by
  unfold mb_simple_515
  exact nqj_simple_579 x4 x6 x7 x8 (42 : Int32) z0 F G hM
theorem nqj_simple_527 {fu : Nat} {F0 : PF} (x4 : Int32) (x6 : Int32) (x7 : Int32) (x8 : Int32) (z0 : Int32) (F : PF) (G : PG) (hM : MFS F0 F) : PP (mb_simple_527 fu x4 x6 x7 x8 z0 F G) (fun _ F' _ => MFS F0 F') := by
  unfold mb_simple_527
  exact nqj_simple_579 x4 x6 x7 x8 (35 : Int32) z0 F G hM
theorem nqj_simple_539 {fu : Nat} {F0 : PF} (x4 : Int32) (x6 : Int32) (x7 : Int32) (x8 : Int32) (z0 : Int32) (F : PF) (G : PG) (hM : MFS F0 F) : PP (mb_simple_539 fu x4 x6 x7 x8 z0 F G) (fun _ F' _ => MFS F0 F') := by
  unfold mb_simple_539
  exact nqj_simple_579 x4 x6 x7 x8 (33 : Int32) z0 F G hM
theorem nqj_simple_551 {fu : Nat} {F0 : PF} (x4 : Int32) (x6 : Int32) (x7 : Int32) (x8 : Int32) (z0 : Int32) (F : PF) (G : PG) (hM : MFS F0 F) : PP (mb_simple_551 fu x4 x6 x7 x8 z0 F G) (fun _ F' _ => MFS F0 F') := by
  unfold mb_simple_551
  exact nqj_simple_579 x4 x6 x7 x8 (34 : Int32) z0 F G hM
theorem nqj_simple_562 {fu : Nat} {F0 : PF} (x4 : Int32) (x6 : Int32) (x7 : Int32) (x8 : Int32) (z0 : Int32) (F : PF) (G : PG) (hM : MFS F0 F) : PP (mb_simple_562 fu x4 x6 x7 x8 z0 F G) (fun _ F' _ => MFS F0 F') := by
  unfold mb_simple_562
  exact nqj_simple_579 x4 x6 x7 x8 (20 : Int32) z0 F G hM
theorem nqj_simple_573 {fu : Nat} {F0 : PF} (x4 : Int32) (x6 : Int32) (x7 : Int32) (x8 : Int32) (z0 : Int32) (F : PF) (G : PG) (hM : MFS F0 F) : PP (mb_simple_573 fu x4 x6 x7 x8 z0 F G) (fun _ F' _ => MFS F0 F') := by
  unfold mb_simple_573
  exact nqj_simple_579 x4 x6 x7 x8 (21 : Int32) z0 F G hM
theorem nqj_simple_578 {fu : Nat} {F0 : PF} (x4 : Int32) (x6 : Int32) (x7 : Int32) (x8 : Int32) (z0 : Int32) (F : PF) (G : PG) (hM : MFS F0 F) : PP (mb_simple_578 fu x4 x6 x7 x8 z0 F G) (fun _ F' _ => MFS F0 F') := by
  unfold mb_simple_578
  exact nqj_simple_579 x4 x6 x7 x8 (1 : Int32) z0 F G hM
theorem nqj_simple_567 {fu : Nat} {F0 : PF} (x4 : Int32) (x6 : Int32) (x7 : Int32) (x8 : Int32) (x9 : Int32) (z0 : Int32) (F : PF) (G : PG) (hM : MFS F0 F) : PP (mb_simple_567 fu x4 x6 x7 x8 x9 z0 F G) (fun _ F' _ => MFS F0 F') := by
  unfold mb_simple_567
  refine PP.ite (fun c_1 => ?_) (fun c_1 => ?_)
  · skip
    exact nqj_simple_573 x4 x6 x7 x8 z0 F G hM
  · skip
    exact nqj_simple_578 x4 x6 x7 x8 z0 F G hM
theorem nqj_simple_556 {fu : Nat} {F0 : PF} (x4 : Int32) (x6 : Int32) (x7 : Int32) (x8 : Int32) (x9 : Int32) (z0 : Int32) (F : PF) (G : PG) (hM : MFS F0 F) : PP (mb_simple_556 fu x4 x6 x7 x8 x9 z0 F G) (fun _ F' _ => MFS F0 F') := by
  unfold mb_simple_556
  refine PP.ite (fun c_1 => ?_) (fun c_1 => ?_)
  · skip
    exact nqj_simple_562 x4 x6 x7 x8 z0 F G hM
  · skip
    exact nqj_simple_567 x4 x6 x7 x8 x9 z0 F G hM
theorem nqj_simple_544 {fu : Nat} {F0 : PF} (x4 : Int32) (x6 : Int32) (x7 : Int32) (x8 : Int32) (x9 : Int32) (z0 : Int32) (F : PF) (G : PG) (hM : MFS F0 F) : PP (mb_simple_544 fu x4 x6 x7 x8 x9 z0 F G) (fun _ F' _ => MFS F0 F') := by
  unfold mb_simple_544
  refine PP.ite (fun c_1 => ?_) (fun c_1 => ?_)
  · skip
    exact nqj_simple_551 x4 x6 x7 x8 z0 F G hM
  · skip
    exact nqj_simple_556 x4 x6 x7 x8 x9 z0 F G hM
theorem nqj_simple_532 {fu : Nat} {F0 : PF} (x4 : Int32) (x6 : Int32) (x7 : Int32) (x8 : Int32) (x9 : Int32) (z0 : Int32) (F : PF) (G : PG) (hM : MFS F0 F) : PP (mb_simple_532 fu x4 x6 x7 x8 x9 z0 F G) (fun _ F' _ => MFS F0 F') := by
  unfold mb_simple_532
  refine PP.ite (fun c_1 => ?_) (fun c_1 => ?_)
  · skip
    exact nqj_simple_539 x4 x6 x7 x8 z0 F G hM
  · skip
    exact nqj_simple_544 x4 x6 x7 x8 x9 z0 F G hM
theorem nqj_simple_520 {fu : Nat} {F0 : PF} (x4 : Int32) (x6 : Int32) (x7 : Int32) (x8 : Int32) (x9 : Int32) (z0 : Int32) (F : PF) (G : PG) (hM : MFS F0 F) : PP (mb_simple_520 fu x4 x6 x7 x8 x9 z0 F G) (fun _ F' _ => MFS F0 F') := by
  unfold mb_simple_520
  refine PP.ite (fun c_1 => ?_) (fun c_1 => ?_)
  · skip
    exact nqj_simple_527 x4 x6 x7 x8 z0 F G hM
  · skip
    exact nqj_simple_532 x4 x6 x7 x8 x9 z0 F G hM
theorem nqj_simple_508 {fu : Nat} {F0 : PF} (x4 : Int32) (x6 : Int32) (x7 : Int32) (x8 : Int32) (x9 : Int32) (z0 : Int32) (F : PF) (G : PG) (hM : MFS F0 F) : PP (mb_simple_508 fu x4 x6 x7 x8 x9 z0 F G) (fun _ F' _ => MFS F0 F') := by
  unfold mb_simple_508
  refine PP.ite (fun c_1 => ?_) (fun c_1 => ?_)
  · skip
    exact nqj_simple_515 x4 x6 x7 x8 z0 F G hM
  · skip
    exact nqj_simple_520 x4 x6 x7 x8 x9 z0 F G hM
theorem nqj_simple_496 {fu : Nat} {F0 : PF} (x4 : Int32) (x6 : Int32) (x7 : Int32) (x8 : Int32) (x9 : Int32) (z0 : Int32) (F : PF) (G : PG) (hM : MFS F0 F) : PP (mb_simple_496 fu x4 x6 x7 x8 x9 z0 F G) (fun _ F' _ => MFS F0 F') := by
  unfold mb_simple_496
  refine PP.ite (fun c_1 => ?_) (fun c_1 => ?_)
  · skip
    exact nqj_simple_503 x4 x6 x7 x8 z0 F G hM
  · skip
    exact nqj_simple_508 x4 x6 x7 x8 x9 z0 F G hM
theorem nqj_simple_484 {fu : Nat} {F0 : PF} (x4 : Int32) (x6 : Int32) (x7 : Int32) (x8 : Int32) (x9 : Int32) (z0 : Int32) (F : PF) (G : PG) (hM : MFS F0 F) : PP (mb_simple_484 fu x4 x6 x7 x8 x9 z0 F G) (fun _ F' _ => MFS F0 F') := by
  unfold mb_simple_484
  refine PP.ite (fun c_1 => ?_) (fun c_1 => ?_)
  · skip
    exact nqj_simple_491 x4 x6 x7 x8 z0 F G hM
  · skip
    exact nqj_simple_496 x4 x6 x7 x8 x9 z0 F G hM
theorem nqj_simple_473 {fu : Nat} {F0 : PF} (x4 : Int32) (x6 : Int32) (x7 : Int32) (x8 : Int32) (x9 : Int32) (z0 : Int32) (F : PF) (G : PG) (hM : MFS F0 F) : PP (mb_simple_473 fu x4 x6 x7 x8 x9 z0 F G) (fun _ F' _ => MFS F0 F') := by
  unfold mb_simple_473
  refine PP.ite (fun c_1 => ?_) (fun c_1 => ?_)
  · skip
    exact nqj_simple_479 x4 x6 x7 x8 z0 F G hM
  · skip
    exact nqj_simple_484 x4 x6 x7 x8 x9 z0 F G hM
theorem nqj_simple_466 {fu : Nat} {F0 : PF} (x4 : Int32) (x6 : Int32) (x7 : Int32) (x8 : Int32) (x9 : Int32) (z0 : Int32) (F : PF) (G : PG) (hM : MFS F0 F) : PP (mb_simple_466 fu x4 x6 x7 x8 x9 z0 F G) (fun _ F' _ => MFS F0 F') := by
  unfold mb_simple_466
  refine PP.ite (fun c_1 => ?_) (fun c_1 => ?_)
  · skip
    exact nqj_simple_479 x4 x6 x7 x8 z0 F G hM
  · skip
    exact nqj_simple_473 x4 x6 x7 x8 x9 z0 F G hM
theorem nqj_simple_455 {fu : Nat} {F0 : PF} (x4 : Int32) (x6 : Int32) (x7 : Int32) (x8 : Int32) (x9 : Int32) (z0 : Int32) (F : PF) (G : PG) (hM : MFS F0 F) : PP (mb_simple_455 fu x4 x6 x7 x8 x9 z0 F G) (fun _ F' _ => MFS F0 F') := by
  unfold mb_simple_455
  refine PP.ite (fun c_1 => ?_) (fun c_1 => ?_)
  · skip
    exact nqj_simple_461 x4 x6 x7 x8 z0 F G hM
  · skip
    exact nqj_simple_466 x4 x6 x7 x8 x9 z0 F G hM
theorem nqj_simple_445 {fu : Nat} {F0 : PF} (x4 : Int32) (x6 : Int32) (x7 : Int32) (x8 : Int32) (x9 : Int32) (F : PF) (G : PG) (hM : MFS F0 F) : PP (mb_simple_445 fu x4 x6 x7 x8 x9 F G) (fun _ F' _ => MFS F0 F') := by
  unfold mb_simple_445
  refine PP.ite (fun c_1 => ?_) (fun c_1 => ?_)
  · skip
    exact nqj_simple_461 x4 x6 x7 x8 (10 : Int32) F G hM
  · skip
    exact nqj_simple_455 x4 x6 x7 x8 x9 (10 : Int32) F G hM
theorem nqj_simple_438 {fu : Nat} {F0 : PF} (x4 : Int32) (x6 : Int32) (x7 : Int32) (x8 : Int32) (x9 : Int32) (F : PF) (G : PG) (hM : MFS F0 F) : PP (mb_simple_438 fu x4 x6 x7 x8 x9 F G) (fun _ F' _ => MFS F0 F') := by
  unfold mb_simple_438
  refine PP.ite (fun c_1 => ?_) (fun c_1 => ?_)
  · skip
    exact nqj_simple_584 x4 x6 x7 x8 F G hM
  · skip
    exact nqj_simple_445 x4 x6 x7 x8 x9 F G hM
theorem nqj_simple_425 {fu : Nat} {F0 : PF} (x4 : Int32) (x6 : Int32) (x7 : Int32) (x8 : Int32) (x9 : Int32) (z0 : Int32) (F : PF) (G : PG) (hM : MFS F0 F) : PP (mb_simple_425 fu x4 x6 x7 x8 x9 z0 F G) (fun _ F' _ => MFS F0 F') := by
  unfold mb_simple_425
  exact nqj_simple_438 x4 x6 x7 x8 x9 F G hM
theorem nqj_simple_418 {fu : Nat} {F0 : PF} (x4 : Int32) (x6 : Int32) (x7 : Int32) (x8 : Int32) (x9 : Int32) (F : PF) (G : PG) (hM : MFS F0 F) : PP (mb_simple_418 fu x4 x6 x7 x8 x9 F G) (fun _ F' _ => MFS F0 F') := by
  unfold mb_simple_418
  refine PP.bind (mw_step (0 : Int32) (1 : Int32) (0 : Int32) F G) ?_
  intro r1 F1 G1 hM1
  dsimp only
  exact nqj_simple_425 x4 x6 x7 x8 x9 r1 F1 G1 (MFS.tr hM (MFS.kx hM1 rfl rfl rfl rfl))
theorem nqj_simple_436 {fu : Nat} {F0 : PF} (F : PF) (G : PG) (hM : MFS F0 F) : PP (mb_simple_436 fu F G) (fun _ F' _ => MFS F0 F') := by
  unfold mb_simple_436
  refine PP.ret ?_
  exact hM
theorem nqj_simple_433 {fu : Nat} {F0 : PF} (x4 : Int32) (x6 : Int32) (x7 : Int32) (x8 : Int32) (x9 : Int32) (z0 : Int32) (F : PF) (G : PG) (hM : MFS F0 F) : PP (mb_simple_433 fu x4 x6 x7 x8 x9 z0 F G) (fun _ F' _ => MFS F0 F') := by
  unfold mb_simple_433
  refine PP.ite (fun c_1 => ?_) (fun c_1 => ?_)
  · skip
    exact nqj_simple_436 F G hM
  · skip
    exact nqj_simple_438 x4 x6 x7 x8 x9 F G hM
theorem nqj_simple_429 {fu : Nat} {F0 : PF} (x4 : Int32) (x6 : Int32) (x7 : Int32) (x8 : Int32) (x9 : Int32) (F : PF) (G : PG) (hM : MFS F0 F) : PP (mb_simple_429 fu x4 x6 x7 x8 x9 F G) (fun _ F' _ => MFS F0 F') := by
  unfold mb_simple_429
  refine PP.bind (nq_expression F G) ?_
  intro r1 F1 G1 hM1
  dsimp only
  exact nqj_simple_433 x4 x6 x7 x8 x9 r1 F1 G1 (MFS.tr hM hM1)
theorem nqj_simple_411 {fu : Nat} {F0 : PF} (x4 : Int32) (x6 : Int32) (x7 : Int32) (x8 : Int32) (x9 : Int32) (F : PF) (G : PG) (hM : MFS F0 F) : PP (mb_simple_411 fu x4 x6 x7 x8 x9 F G) (fun _ F' _ => MFS F0 F') := by
  unfold mb_simple_411
  refine PP.ite (fun c_1 => ?_) (fun c_1 => ?_)
  · skip
    exact nqj_simple_418 x4 x6 x7 x8 x9 F G hM
  · skip
    exact nqj_simple_429 x4 x6 x7 x8 x9 F G hM
theorem nqj_simple_404 {fu : Nat} {F0 : PF} (x4 : Int32) (x6 : Int32) (x7 : Int32) (x8 : Int32) (x9 : Int32) (F : PF) (G : PG) (hM : MFS F0 F) : PP (mb_simple_404 fu x4 x6 x7 x8 x9 F G) (fun _ F' _ => MFS F0 F') := by
  unfold mb_simple_404
  refine PP.ite (fun c_1 => ?_) (fun c_1 => ?_)
  · skip
    exact nqj_simple_418 x4 x6 x7 x8 x9 F G hM
  · skip
    exact nqj_simple_411 x4 x6 x7 x8 x9 F G hM
theorem nqj_simple_403 {fu : Nat} {F0 : PF} (x4 : Int32) (x6 : Int32) (x7 : Int32) (x8 : Int32) (x9 : Int32) (z0 : Int32) (F : PF) (G : PG) (hM : MFS F0 F) : PP (mb_simple_403 fu x4 x6 x7 x8 x9 z0 F G) (fun _ F' _ => MFS F0 F') := by
  unfold mb_simple_403
  exact nqj_simple_404 x4 x6 x7 x8 x9 F G hM
theorem nqj_simple_397 {fu : Nat} {F0 : PF} (x4 : Int32) (x6 : Int32) (x7 : Int32) (x8 : Int32) (x9 : Int32) (z0 : Int32) (F : PF) (G : PG) (hM : MFS F0 F) : PP (mb_simple_397 fu x4 x6 x7 x8 x9 z0 F G) (fun _ F' _ => MFS F0 F') := by
  unfold mb_simple_397
  refine PP.bind (mw_step z0 x8 (0 : Int32) F G) ?_
  intro r1 F1 G1 hM1
  dsimp only
  exact nqj_simple_403 x4 x6 x7 x8 x9 r1 F1 G1 (MFS.tr hM (MFS.kx hM1 rfl rfl rfl rfl))
theorem nqj_simple_396 {fu : Nat} {F0 : PF} (x4 : Int32) (x6 : Int32) (x7 : Int32) (x8 : Int32) (x9 : Int32) (F : PF) (G : PG) (hM : MFS F0 F) : PP (mb_simple_396 fu x4 x6 x7 x8 x9 F G) (fun _ F' _ => MFS F0 F') := by
  unfold mb_simple_396
  exact nqj_simple_397 x4 x6 x7 x8 x9 (3 : Int32) F G hM
theorem nqj_simple_392 {fu : Nat} {F0 : PF} (x4 : Int32) (x6 : Int32) (x7 : Int32) (x8 : Int32) (x9 : Int32) (F : PF) (G : PG) (hM : MFS F0 F) : PP (mb_simple_392 fu x4 x6 x7 x8 x9 F G) (fun _ F' _ => MFS F0 F') := by
  unfold mb_simple_392
  exact nqj_simple_397 x4 x6 x7 x8 x9 (1 : Int32) F G hM
theorem nqj_simple_386 {fu : Nat} {F0 : PF} (x4 : Int32) (x6 : Int32) (x7 : Int32) (x8 : Int32) (x9 : Int32) (F : PF) (G : PG) (hM : MFS F0 F) : PP (mb_simple_386 fu x4 x6 x7 x8 x9 F G) (fun _ F' _ => MFS F0 F') := by
  unfold mb_simple_386
  refine PP.ite (fun c_1 => ?_) (fun c_1 => ?_)
  · skip
    exact nqj_simple_396 x4 x6 x7 x8 x9 F G hM
  · skip
    exact nqj_simple_392 x4 x6 x7 x8 x9 F G hM
theorem nqj_simple_382 {fu : Nat} {F0 : PF} (x4 : Int32) (x6 : Int32) (x7 : Int32) (x8 : Int32) (x9 : Int32) (z0 : Int32) (F : PF) (G : PG) (hM : MFS F0 F) : PP (mb_simple_382 fu x4 x6 x7 x8 x9 z0 F G) (fun _ F' _ => MFS F0 F') := by
  unfold mb_simple_382
  exact nqj_simple_404 x4 x6 x7 x8 x9 F G hM
theorem nqj_simple_373 {fu : Nat} {F0 : PF} (x4 : Int32) (x6 : Int32) (x7 : Int32) (x8 : Int32) (x9 : Int32) (z0 : Int32) (F : PF) (G : PG) (hM : MFS F0 F) : PP (mb_simple_373 fu x4 x6 x7 x8 x9 z0 F G) (fun _ F' _ => MFS F0 F') := by
  unfold mb_simple_373
  refine PP.bind (mw_step (7 : Int32) (0 : Int32) (0 : Int32) F G) ?_
  intro r1 F1 G1 hM1
  dsimp only
  exact nqj_simple_382 x4 x6 x7 x8 x9 r1 F1 G1 (MFS.tr hM (MFS.kx hM1 rfl rfl rfl rfl))
theorem nqj_simple_365 {fu : Nat} {F0 : PF} (x4 : Int32) (x6 : Int32) (x7 : Int32) (x8 : Int32) (x9 : Int32) (F : PF) (G : PG) (hM : MFS F0 F) : PP (mb_simple_365 fu x4 x6 x7 x8 x9 F G) (fun _ F' _ => MFS F0 F') := by
  unfold mb_simple_365
  refine PP.bind (mw_step (9 : Int32) (0 : Int32) (0 : Int32) F G) ?_
  intro r1 F1 G1 hM1
  dsimp only
  exact nqj_simple_373 x4 x6 x7 x8 x9 r1 F1 G1 (MFS.tr hM (MFS.kx hM1 rfl rfl rfl rfl))
theorem nqj_simple_360 {fu : Nat} {F0 : PF} (x4 : Int32) (x6 : Int32) (x7 : Int32) (x8 : Int32) (x9 : Int32) (F : PF) (G : PG) (hM : MFS F0 F) : PP (mb_simple_360 fu x4 x6 x7 x8 x9 F G) (fun _ F' _ => MFS F0 F') := by
  unfold mb_simple_360
  refine PP.ite (fun c_1 => ?_) (fun c_1 => ?_)
  · skip
    exact nqj_simple_386 x4 x6 x7 x8 x9 F G hM
  · skip
    exact nqj_simple_365 x4 x6 x7 x8 x9 F G hM
theorem nqj_simple_353 {fu : Nat} {F0 : PF} (x4 : Int32) (x6 : Int32) (x7 : Int32) (x8 : Int32) (x9 : Int32) (F : PF) (G : PG) (hM : MFS F0 F) : PP (mb_simple_353 fu x4 x6 x7 x8 x9 F G) (fun _ F' _ => MFS F0 F') := by
  unfold mb_simple_353
  refine PP.ite (fun c_1 => ?_) (fun c_1 => ?_)
  · skip
    exact nqj_simple_404 x4 x6 x7 x8 x9 F G hM
  · skip
    exact nqj_simple_360 x4 x6 x7 x8 x9 F G hM
theorem nqj_simple_343 {fu : Nat} {F0 : PF} (x4 : Int32) (x6 : Int32) (x7 : Int32) (x8 : Int32) (x9 : Int32) (F : PF) (G : PG) (hM : MFS F0 F) : PP (mb_simple_343 fu x4 x6 x7 x8 x9 F G) (fun _ F' _ => MFS F0 F') := by
  unfold mb_simple_343
  exact nqj_simple_353 x4 x6 x7 x8 x9 (fup F 42 ((F 42) + (1 : Int32))) G (MFS.f (k := 42) rfl hM)
theorem nqj_simple_330 {fu : Nat} {F0 : PF} (x4 : Int32) (x6 : Int32) (x7 : Int32) (x8 : Int32) (x9 : Int32) (z0 : Int32) (F : PF) (G : PG) (hM : MFS F0 F) : PP (mb_simple_330 fu x4 x6 x7 x8 x9 z0 F G) (fun _ F' _ => MFS F0 F') := by
  unfold mb_simple_330
  refine PP.ite (fun c_1 => ?_) (fun c_1 => ?_)
  · skip
    exact nqj_simple_337 F G hM
  · skip
    exact nqj_simple_343 x4 x6 x7 x8 x9 F G hM
theorem nqj_simple_325 {fu : Nat} {F0 : PF} (x4 : Int32) (x6 : Int32) (x7 : Int32) (x8 : Int32) (x9 : Int32) (F : PF) (G : PG) (hM : MFS F0 F) : PP (mb_simple_325 fu x4 x6 x7 x8 x9 F G) (fun _ F' _ => MFS F0 F') := by
  unfold mb_simple_325
  exact nqj_simple_330 x4 x6 x7 x8 x9 (1 : Int32) F G hM
theorem nqj_simple_329 {fu : Nat} {F0 : PF} (x4 : Int32) (x6 : Int32) (x7 : Int32) (x8 : Int32) (x9 : Int32) (F : PF) (G : PG) (hM : MFS F0 F) : PP (mb_simple_329 fu x4 x6 x7 x8 x9 F G) (fun _ F' _ => MFS F0 F') := by
  unfold mb_simple_329
  exact nqj_simple_330 x4 x6 x7 x8 x9 (0 : Int32) F G hM
theorem nqj_simple_318 {fu : Nat} {F0 : PF} (x4 : Int32) (x6 : Int32) (x7 : Int32) (x8 : Int32) (x9 : Int32) (F : PF) (G : PG) (hM : MFS F0 F) : PP (mb_simple_318 fu x4 x6 x7 x8 x9 F G) (fun _ F' _ => MFS F0 F') := by
  unfold mb_simple_318
  refine PP.ite (fun c_1 => ?_) (fun c_1 => ?_)
  · skip
    exact nqj_simple_329 x4 x6 x7 x8 x9 F G hM
  · skip
    exact nqj_simple_325 x4 x6 x7 x8 x9 F G hM
theorem nqj_simple_312 {fu : Nat} {F0 : PF} (x4 : Int32) (x6 : Int32) (x7 : Int32) (x8 : Int32) (x9 : Int32) (F : PF) (G : PG) (hM : MFS F0 F) : PP (mb_simple_312 fu x4 x6 x7 x8 x9 F G) (fun _ F' _ => MFS F0 F') := by
  unfold mb_simple_312
  refine PP.ite (fun c_1 => ?_) (fun c_1 => ?_)
  · skip
    exact nqj_simple_329 x4 x6 x7 x8 x9 F G hM
  · skip
    exact nqj_simple_318 x4 x6 x7 x8 x9 F G hM
theorem nqj_simple_306 {fu : Nat} {F0 : PF} (x4 : Int32) (x6 : Int32) (x7 : Int32) (x8 : Int32) (x9 : Int32) (F : PF) (G : PG) (hM : MFS F0 F) : PP (mb_simple_306 fu x4 x6 x7 x8 x9 F G) (fun _ F' _ => MFS F0 F') := by
  unfold mb_simple_306
  refine PP.ite (fun c_1 => ?_) (fun c_1 => ?_)
  · skip
    exact nqj_simple_325 x4 x6 x7 x8 x9 F G hM
  · skip
    exact nqj_simple_312 x4 x6 x7 x8 x9 F G hM
theorem nqj_simple_300 {fu : Nat} {F0 : PF} (x4 : Int32) (x6 : Int32) (x7 : Int32) (x8 : Int32) (x9 : Int32) (F : PF) (G : PG) (hM : MFS F0 F) : PP (mb_simple_300 fu x4 x6 x7 x8 x9 F G) (fun _ F' _ => MFS F0 F') := by
  unfold mb_simple_300
  refine PP.ite (fun c_1 => ?_) (fun c_1 => ?_)
  · skip
    exact nqj_simple_325 x4 x6 x7 x8 x9 F G hM
  · skip
    exact nqj_simple_306 x4 x6 x7 x8 x9 F G hM
theorem nqj_simple_295 {fu : Nat} {F0 : PF} (x4 : Int32) (x6 : Int32) (x7 : Int32) (x8 : Int32) (x9 : Int32) (F : PF) (G : PG) (hM : MFS F0 F) : PP (mb_simple_295 fu x4 x6 x7 x8 x9 F G) (fun _ F' _ => MFS F0 F') := by
  unfold mb_simple_295
  refine PP.ite (fun c_1 => ?_) (fun c_1 => ?_)
  · skip
    exact nqj_simple_325 x4 x6 x7 x8 x9 F G hM
  · skip
    exact nqj_simple_300 x4 x6 x7 x8 x9 F G hM
theorem nqj_simple_288 {fu : Nat} {F0 : PF} (x4 : Int32) (x6 : Int32) (x7 : Int32) (x8 : Int32) (x9 : Int32) (F : PF) (G : PG) (hM : MFS F0 F) : PP (mb_simple_288 fu x4 x6 x7 x8 x9 F G) (fun _ F' _ => MFS F0 F') := by
  unfold mb_simple_288
  refine PP.ite (fun c_1 => ?_) (fun c_1 => ?_)
  · skip
    exact nqj_simple_325 x4 x6 x7 x8 x9 F G hM
  · skip
    exact nqj_simple_295 x4 x6 x7 x8 x9 F G hM
theorem nqj_simple_281 {fu : Nat} {F0 : PF} (x4 : Int32) (x6 : Int32) (x7 : Int32) (x8 : Int32) (x9 : Int32) (F : PF) (G : PG) (hM : MFS F0 F) : PP (mb_simple_281 fu x4 x6 x7 x8 x9 F G) (fun _ F' _ => MFS F0 F') := by
  unfold mb_simple_281
  refine PP.ite (fun c_1 => ?_) (fun c_1 => ?_)
  · skip
    exact nqj_simple_325 x4 x6 x7 x8 x9 F G hM
  · skip
    exact nqj_simple_288 x4 x6 x7 x8 x9 F G hM
theorem nqj_simple_272 {fu : Nat} {F0 : PF} (x4 : Int32) (x6 : Int32) (x7 : Int32) (x8 : Int32) (z0 : Int32) (F : PF) (G : PG) (hM : MFS F0 F) : PP (mb_simple_272 fu x4 x6 x7 x8 z0 F G) (fun _ F' _ => MFS F0 F') := by
  unfold mb_simple_272
  refine PP.ite (fun c_1 => ?_) (fun c_1 => ?_)
  · skip
    exact nqj_simple_325 x4 x6 x7 x8 z0 F G hM
  · skip
    exact nqj_simple_281 x4 x6 x7 x8 z0 F G hM
theorem nqj_simple_259 {fu : Nat} {F0 : PF} (x4 : Int32) (x6 : Int32) (x7 : Int32) (x8 : Int32) (F : PF) (G : PG) (hM : MFS F0 F) : PP (mb_simple_259 fu x4 x6 x7 x8 F G) (fun _ F' _ => MFS F0 F') := by
  unfold mb_simple_259
  refine PP.ix (fun _ => ?_)
  exact nqj_simple_272 x4 x6 x7 x8 (G 5 (F 42).toNatClampNeg) F G hM
theorem nqj_simple_271 {fu : Nat} {F0 : PF} (x4 : Int32) (x6 : Int32) (x7 : Int32) (x8 : Int32) (F : PF) (G : PG) (hM : MFS F0 F) : PP (mb_simple_271 fu x4 x6 x7 x8 F G) (fun _ F' _ => MFS F0 F') := by
  unfold mb_simple_271
  exact nqj_simple_272 x4 x6 x7 x8 (-1 : Int32) F G hM
theorem nqj_simple_246 {fu : Nat} {F0 : PF} (x4 : Int32) (x6 : Int32) (x7 : Int32) (x8 : Int32) (F : PF) (G : PG) (hM : MFS F0 F) : PP (mb_simple_246 fu x4 x6 x7 x8 F G) (fun _ F' _ => MFS F0 F') := by
  unfold mb_simple_246
  refine PP.ix (fun _ => ?_)
  refine PP.ite (fun c_1 => ?_) (fun c_1 => ?_)
  · skip
    exact nqj_simple_259 x4 x6 x7 x8 F G hM
  · skip
    exact nqj_simple_271 x4 x6 x7 x8 F G hM
theorem nqj_simple_244 {fu : Nat} {F0 : PF} (F : PF) (G : PG) (hM : MFS F0 F) : PP (mb_simple_244 fu F G) (fun _ F' _ => MFS F0 F') := by
  unfold mb_simple_244
  refine PP.ret ?_
  exact hM
theorem nqj_simple_241 {fu : Nat} {F0 : PF} (x4 : Int32) (x6 : Int32) (x7 : Int32) (x8 : Int32) (z0 : Int32) (F : PF) (G : PG) (hM : MFS F0 F) : PP (mb_simple_241 fu x4 x6 x7 x8 z0 F G) (fun _ F' _ => MFS F0 F') := by
  unfold mb_simple_241
  refine PP.ite (fun c_1 => ?_) (fun c_1 => ?_)
  · skip
    exact nqj_simple_244 F G hM
  · skip
    exact nqj_simple_246 x4 x6 x7 x8 F G hM
theorem nqj_simple_236 {fu : Nat} {F0 : PF} (x2 : Int32) (x4 : Int32) (x6 : Int32) (x7 : Int32) (x8 : Int32) (F : PF) (G : PG) (hM : MFS F0 F) : PP (mb_simple_236 fu x2 x4 x6 x7 x8 F G) (fun _ F' _ => MFS F0 F') := by
  unfold mb_simple_236
  refine PP.bind (nq_element x2 F G) ?_
  intro r1 F1 G1 hM1
  dsimp only
  exact nqj_simple_241 x4 x6 x7 x8 r1 F1 G1 (MFS.tr hM hM1)
theorem nqj_simple_229 {fu : Nat} {F0 : PF} (x2 : Int32) (x4 : Int32) (x6 : Int32) (x7 : Int32) (z0 : Int32) (F : PF) (G : PG) (hM : MFS F0 F) : PP (mb_simple_229 fu x2 x4 x6 x7 z0 F G) (fun _ F' _ => MFS F0 F') := by
  unfold mb_simple_229
  refine PP.ite (fun c_1 => ?_) (fun c_1 => ?_)
  · skip
    exact nqj_simple_246 x4 x6 x7 z0 F G hM
  · skip
    exact nqj_simple_236 x2 x4 x6 x7 z0 F G hM
theorem nqj_simple_219 {fu : Nat} {F0 : PF} (x2 : Int32) (x4 : Int32) (x6 : Int32) (x7 : Int32) (F : PF) (G : PG) (hM : MFS F0 F) : PP (mb_simple_219 fu x2 x4 x6 x7 F G) (fun _ F' _ => MFS F0 F') := by
  unfold mb_simple_219
  exact nqj_simple_229 x2 x4 x6 x7 (0 : Int32) F G hM
theorem nqj_simple_223 {fu : Nat} {F0 : PF} (x2 : Int32) (x4 : Int32) (x6 : Int32) (x7 : Int32) (F : PF) (G : PG) (hM : MFS F0 F) : PP (mb_simple_223 fu x2 x4 x6 x7 F G) (fun _ F' _ => MFS F0 F') := by
  unfold mb_simple_223
  refine PP.ix (fun _ => ?_)
  exact nqj_simple_229 x2 x4 x6 x7 (G 20 x2.toNatClampNeg) F G hM
theorem nqj_simple_212 {fu : Nat} {F0 : PF} (x2 : Int32) (x4 : Int32) (x6 : Int32) (z0 : Int32) (F : PF) (G : PG) (hM : MFS F0 F) : PP (mb_simple_212 fu x2 x4 x6 z0 F G) (fun _ F' _ => MFS F0 F') := by
  unfold mb_simple_212
  refine PP.ite (fun c_1 => ?_) (fun c_1 => ?_)
  · skip
    exact nqj_simple_219 x2 x4 x6 z0 F G hM
  · skip
    exact nqj_simple_223 x2 x4 x6 z0 F G hM
theorem nqj_simple_211 {fu : Nat} {F0 : PF} (x2 : Int32) (x4 : Int32) (x6 : Int32) (F : PF) (G : PG) (hM : MFS F0 F) : PP (mb_simple_211 fu x2 x4 x6 F G) (fun _ F' _ => MFS F0 F') := by
  unfold mb_simple_211
  exact nqj_simple_212 x2 x4 x6 (0 : Int32) F G hM
theorem nqj_simple_207 {fu : Nat} {F0 : PF} (x2 : Int32) (x4 : Int32) (x6 : Int32) (F : PF) (G : PG) (hM : MFS F0 F) : PP (mb_simple_207 fu x2 x4 x6 F G) (fun _ F' _ => MFS F0 F') := by
  unfold mb_simple_207
  exact nqj_simple_212 x2 x4 x6 (1 : Int32) F G hM
theorem nqj_simple_198 {fu : Nat} {F0 : PF} (x2 : Int32) (x4 : Int32) (x6 : Int32) (F : PF) (G : PG) (hM : MFS F0 F) : PP (mb_simple_198 fu x2 x4 x6 F G) (fun _ F' _ => MFS F0 F') := by
  unfold mb_simple_198
  refine PP.ix (fun _ => ?_)
  refine PP.ite (fun c_1 => ?_) (fun c_1 => ?_)
  · skip
    exact nqj_simple_211 x2 x4 x6 F G hM
  · skip
    exact nqj_simple_207 x2 x4 x6 F G hM
theorem nqj_simple_191 {fu : Nat} {F0 : PF} (x2 : Int32) (x4 : Int32) (z0 : Int32) (F : PF) (G : PG) (hM : MFS F0 F) : PP (mb_simple_191 fu x2 x4 z0 F G) (fun _ F' _ => MFS F0 F') := by
  unfold mb_simple_191
  refine PP.ite (fun c_1 => ?_) (fun c_1 => ?_)
  · skip
    exact nqj_simple_211 x2 x4 z0 F G hM
  · skip
    exact nqj_simple_198 x2 x4 z0 F G hM
theorem nqj_simple_190 {fu : Nat} {F0 : PF} (x2 : Int32) (x4 : Int32) (F : PF) (G : PG) (hM : MFS F0 F) : PP (mb_simple_190 fu x2 x4 F G) (fun _ F' _ => MFS F0 F') := by
  unfold mb_simple_190
  exact nqj_simple_191 x2 x4 (0 : Int32) F G hM
theorem nqj_simple_186 {fu : Nat} {F0 : PF} (x2 : Int32) (x4 : Int32) (F : PF) (G : PG) (hM : MFS F0 F) : PP (mb_simple_186 fu x2 x4 F G) (fun _ F' _ => MFS F0 F') := by
  unfold mb_simple_186
  exact nqj_simple_191 x2 x4 (1 : Int32) F G hM
theorem nqj_simple_177 {fu : Nat} {F0 : PF} (x2 : Int32) (x4 : Int32) (F : PF) (G : PG) (hM : MFS F0 F) : PP (mb_simple_177 fu x2 x4 F G) (fun _ F' _ => MFS F0 F') := by
  unfold mb_simple_177
  refine PP.ix (fun _ => ?_)
  refine PP.ite (fun c_1 => ?_) (fun c_1 => ?_)
  · skip
    exact nqj_simple_190 x2 x4 F G hM
  · skip
    exact nqj_simple_186 x2 x4 F G hM
theorem nqj_simple_172 {fu : Nat} {F0 : PF} (x2 : Int32) (x4 : Int32) (F : PF) (G : PG) (hM : MFS F0 F) : PP (mb_simple_172 fu x2 x4 F G) (fun _ F' _ => MFS F0 F') := by
  unfold mb_simple_172
  refine PP.ite (fun c_1 => ?_) (fun c_1 => ?_)
  · skip
    exact nqj_simple_190 x2 x4 F G hM
  · skip
    exact nqj_simple_177 x2 x4 F G hM
theorem nqj_simple_160 {fu : Nat} {F0 : PF} (x1 : Int32) (x2 : Int32) (x4 : Int32) (F : PF) (G : PG) (hM : MFS F0 F) : PP (mb_simple_160 fu x1 x2 x4 F G) (fun _ F' _ => MFS F0 F') := by
  unfold mb_simple_160
  refine PP.ix (fun _ => ?_)
  refine PP.bind (nq_note (6 : Int32) (G 6 x1.toNatClampNeg) (by decide) F G) ?_
  intro r1 F1 G1 hM1
  dsimp only
  exact nqj_simple_172 x2 x4 F1 G1 (MFS.tr hM hM1)
theorem nqj_simple_155 {fu : Nat} {F0 : PF} (x1 : Int32) (x2 : Int32) (x4 : Int32) (x5 : Int32) (F : PF) (G : PG) (hM : MFS F0 F) : PP (mb_simple_155 fu x1 x2 x4 x5 F G) (fun _ F' _ => MFS F0 F') := by
  unfold mb_simple_155
  refine PP.ite (fun c_1 => ?_) (fun c_1 => ?_)
  · skip
    exact nqj_simple_160 x1 x2 x4 F G hM
  · skip
    exact nqj_simple_172 x2 x4 F G hM
theorem nqj_simple_149 {fu : Nat} {F0 : PF} (x1 : Int32) (x2 : Int32) (x3 : Int32) (x4 : Int32) (z0 : Int32) (F : PF) (G : PG) (hM : MFS F0 F) : PP (mb_simple_149 fu x1 x2 x3 x4 z0 F G) (fun _ F' _ => MFS F0 F') := by
  unfold mb_simple_149
  refine PP.ite (fun c_1 => ?_) (fun c_1 => ?_)
  · skip
    exact nqj_simple_155 x1 x2 x4 z0 F G hM
  · skip
    exact nqj_simple_172 x2 x4 F G hM
theorem nqj_simple_148 {fu : Nat} {F0 : PF} (x1 : Int32) (x2 : Int32) (x3 : Int32) (x4 : Int32) (F : PF) (G : PG) (hM : MFS F0 F) : PP (mb_simple_148 fu x1 x2 x3 x4 F G) (fun _ F' _ => MFS F0 F') := by
  unfold mb_simple_148
  exact nqj_simple_149 x1 x2 x3 x4 (0 : Int32) F G hM
theorem nqj_simple_144 {fu : Nat} {F0 : PF} (x1 : Int32) (x2 : Int32) (x3 : Int32) (x4 : Int32) (F : PF) (G : PG) (hM : MFS F0 F) : PP (mb_simple_144 fu x1 x2 x3 x4 F G) (fun _ F' _ => MFS F0 F') := by
  unfold mb_simple_144
  exact nqj_simple_149 x1 x2 x3 x4 (1 : Int32) F G hM
theorem nqj_simple_134 {fu : Nat} {F0 : PF} (x1 : Int32) (x2 : Int32) (x3 : Int32) (x4 : Int32) (F : PF) (G : PG) (hM : MFS F0 F) : PP (mb_simple_134 fu x1 x2 x3 x4 F G) (fun _ F' _ => MFS F0 F') := by
  unfold mb_simple_134
  refine PP.ix (fun _ => ?_)
  refine PP.ite (fun c_1 => ?_) (fun c_1 => ?_)
  · skip
    exact nqj_simple_144 x1 x2 x3 x4 F G hM
  · skip
    exact nqj_simple_148 x1 x2 x3 x4 F G hM
theorem nqj_simple_131 {fu : Nat} {F0 : PF} (x1 : Int32) (x2 : Int32) (x3 : Int32) (x4 : Int32) (F : PF) (G : PG) (hM : MFS F0 F) : PP (mb_simple_131 fu x1 x2 x3 x4 F G) (fun _ F' _ => MFS F0 F') := by
  unfold mb_simple_131
  exact nqj_simple_144 x1 x2 x3 x4 F G hM
theorem nqj_simple_121 {fu : Nat} {F0 : PF} (x1 : Int32) (x2 : Int32) (x3 : Int32) (x4 : Int32) (F : PF) (G : PG) (hM : MFS F0 F) : PP (mb_simple_121 fu x1 x2 x3 x4 F G) (fun _ F' _ => MFS F0 F') := by
  unfold mb_simple_121
  refine PP.ix (fun _ => ?_)
  refine PP.ite (fun c_1 => ?_) (fun c_1 => ?_)
  · skip
    exact nqj_simple_131 x1 x2 x3 x4 F G hM
  · skip
    exact nqj_simple_148 x1 x2 x3 x4 F G hM
theorem nqj_simple_116 {fu : Nat} {F0 : PF} (x1 : Int32) (x2 : Int32) (x3 : Int32) (x4 : Int32) (F : PF) (G : PG) (hM : MFS F0 F) : PP (mb_simple_116 fu x1 x2 x3 x4 F G) (fun _ F' _ => MFS F0 F') := by
  unfold mb_simple_116
  refine PP.ite (fun c_1 => ?_) (fun c_1 => ?_)
  · skip
    exact nqj_simple_134 x1 x2 x3 x4 F G hM
  · skip
    exact nqj_simple_121 x1 x2 x3 x4 F G hM
theorem nqj_simple_111 {fu : Nat} {F0 : PF} (x1 : Int32) (x2 : Int32) (x3 : Int32) (x4 : Int32) (F : PF) (G : PG) (hM : MFS F0 F) : PP (mb_simple_111 fu x1 x2 x3 x4 F G) (fun _ F' _ => MFS F0 F') := by
  unfold mb_simple_111
  refine PP.ite (fun c_1 => ?_) (fun c_1 => ?_)
  · skip
    exact nqj_simple_148 x1 x2 x3 x4 F G hM
  · skip
    exact nqj_simple_116 x1 x2 x3 x4 F G hM
theorem nqj_simple_100 {fu : Nat} {F0 : PF} (x1 : Int32) (x2 : Int32) (x3 : Int32) (x4 : Int32) (F : PF) (G : PG) (hM : MFS F0 F) : PP (mb_simple_100 fu x1 x2 x3 x4 F G) (fun _ F' _ => MFS F0 F') := by
  unfold mb_simple_100
  refine PP.ix (fun _ => ?_)
  refine PP.bind (nq_note (4 : Int32) (G 6 x1.toNatClampNeg) (by decide) F G) ?_
  intro r1 F1 G1 hM1
  dsimp only
  exact nqj_simple_111 x1 x2 x3 x4 F1 G1 (MFS.tr hM hM1)
theorem nqj_simple_94 {fu : Nat} {F0 : PF} (x1 : Int32) (x2 : Int32) (x3 : Int32) (z0 : Int32) (F : PF) (G : PG) (hM : MFS F0 F) : PP (mb_simple_94 fu x1 x2 x3 z0 F G) (fun _ F' _ => MFS F0 F') := by
  unfold mb_simple_94
  refine PP.ite (fun c_1 => ?_) (fun c_1 => ?_)
  · skip
    exact nqj_simple_111 x1 x2 x3 z0 F G hM
  · skip
    exact nqj_simple_100 x1 x2 x3 z0 F G hM
theorem nqj_simple_87 {fu : Nat} {F0 : PF} (x1 : Int32) (x2 : Int32) (z0 : Int32) (F : PF) (G : PG) (hM : MFS F0 F) : PP (mb_simple_87 fu x1 x2 z0 F G) (fun _ F' _ => MFS F0 F') := by
  unfold mb_simple_87
  refine PP.bind (mw_isSign (24 : Int32) F G) ?_
  intro r1 F1 G1 hM1
  dsimp only
  exact nqj_simple_94 x1 x2 z0 r1 F1 G1 (MFS.tr hM (MFS.kx hM1 rfl rfl rfl rfl))
theorem nqj_simple_86 {fu : Nat} {F0 : PF} (x1 : Int32) (x2 : Int32) (F : PF) (G : PG) (hM : MFS F0 F) : PP (mb_simple_86 fu x1 x2 F G) (fun _ F' _ => MFS F0 F') := by
  unfold mb_simple_86
  exact nqj_simple_87 x1 x2 (0 : Int32) F G hM
theorem nqj_simple_82 {fu : Nat} {F0 : PF} (x1 : Int32) (x2 : Int32) (F : PF) (G : PG) (hM : MFS F0 F) : PP (mb_simple_82 fu x1 x2 F G) (fun _ F' _ => MFS F0 F') := by
  unfold mb_simple_82
  exact nqj_simple_87 x1 x2 (1 : Int32) F G hM
theorem nqj_simple_74 {fu : Nat} {F0 : PF} (x1 : Int32) (x2 : Int32) (F : PF) (G : PG) (hM : MFS F0 F) : PP (mb_simple_74 fu x1 x2 F G) (fun _ F' _ => MFS F0 F') := by
  unfold mb_simple_74
  refine PP.ite (fun c_1 => ?_) (fun c_1 => ?_)
  · skip
    exact nqj_simple_82 x1 x2 F G hM
  · skip
    exact nqj_simple_86 x1 x2 F G hM
theorem nqj_simple_69 {fu : Nat} {F0 : PF} (x1 : Int32) (x2 : Int32) (F : PF) (G : PG) (hM : MFS F0 F) : PP (mb_simple_69 fu x1 x2 F G) (fun _ F' _ => MFS F0 F') := by
  unfold mb_simple_69
  refine PP.ite (fun c_1 => ?_) (fun c_1 => ?_)
  · skip
    exact nqj_simple_74 x1 x2 F G hM
  · skip
    exact nqj_simple_86 x1 x2 F G hM
theorem nqj_simple_61 {fu : Nat} {F0 : PF} (x1 : Int32) (z0 : Int32) (F : PF) (G : PG) (hM : MFS F0 F) : PP (mb_simple_61 fu x1 z0 F G) (fun _ F' _ => MFS F0 F') := by
  unfold mb_simple_61
  refine PP.ite (fun c_1 => ?_) (fun c_1 => ?_)
  · skip
    exact nqj_simple_86 x1 z0 F G hM
  · skip
    exact nqj_simple_69 x1 z0 F G hM
theorem nqj_simple_52 {fu : Nat} {F0 : PF} (x1 : Int32) (F : PF) (G : PG) (hM : MFS F0 F) : PP (mb_simple_52 fu x1 F G) (fun _ F' _ => MFS F0 F') := by
  unfold mb_simple_52
  exact nqj_simple_61 x1 (-1 : Int32) F G hM
theorem nqj_simple_56 {fu : Nat} {F0 : PF} (x1 : Int32) (F : PF) (G : PG) (hM : MFS F0 F) : PP (mb_simple_56 fu x1 F G) (fun _ F' _ => MFS F0 F') := by
  unfold mb_simple_56
  refine PP.bind (mw_meaning x1 F G) ?_
  intro r1 F1 G1 hM1
  dsimp only
  exact nqj_simple_61 x1 r1 F1 G1 (MFS.tr hM (MFS.kx hM1 rfl rfl rfl rfl))
theorem nqj_simple_45 {fu : Nat} {F0 : PF} (x1 : Int32) (F : PF) (G : PG) (hM : MFS F0 F) : PP (mb_simple_45 fu x1 F G) (fun _ F' _ => MFS F0 F') := by
  unfold mb_simple_45
  refine PP.ite (fun c_1 => ?_) (fun c_1 => ?_)
  · skip
    exact nqj_simple_52 x1 F G hM
  · skip
    exact nqj_simple_56 x1 F G hM
theorem nqj_simple_32 {fu : Nat} {F0 : PF} (F : PF) (G : PG) (hM : MFS F0 F) : PP (mb_simple_32 fu F G) (fun _ F' _ => MFS F0 F') := by
  unfold mb_simple_32
  refine PP.ret ?_
  exact hM
theorem nqj_simple_42 {fu : Nat} {F0 : PF} (z0 : Int32) (F : PF) (G : PG) (hM : MFS F0 F) : PP (mb_simple_42 fu z0 F G) (fun _ F' _ => MFS F0 F') := by
  unfold mb_simple_42
  refine PP.ret ?_
  exact hM
theorem nqj_simple_34 {fu : Nat} {F0 : PF} (F : PF) (G : PG) (hM : MFS F0 F) : PP (mb_simple_34 fu F G) (fun _ F' _ => MFS F0 F') := by
  unfold mb_simple_34
  refine PP.bind (mw_step (18 : Int32) (0 : Int32) (0 : Int32) F G) ?_
  intro r1 F1 G1 hM1
  dsimp only
  exact nqj_simple_42 r1 F1 G1 (MFS.tr hM (MFS.kx hM1 rfl rfl rfl rfl))
theorem nqj_simple_29 {fu : Nat} {F0 : PF} (z0 : Int32) (F : PF) (G : PG) (hM : MFS F0 F) : PP (mb_simple_29 fu z0 F G) (fun _ F' _ => MFS F0 F') := by
  unfold mb_simple_29
  refine PP.ite (fun c_1 => ?_) (fun c_1 => ?_)
  · skip
    exact nqj_simple_32 F G hM
  · skip
    exact nqj_simple_34 F G hM
theorem nqj_simple_23 {fu : Nat} {F0 : PF} (x1 : Int32) (F : PF) (G : PG) (hM : MFS F0 F) : PP (mb_simple_23 fu x1 F G) (fun _ F' _ => MFS F0 F') := by
  unfold mb_simple_23
  refine PP.bind (nq_call x1 (0 : Int32) F G) ?_
  intro r1 F1 G1 hM1
  dsimp only
  exact nqj_simple_29 r1 F1 G1 (MFS.tr hM hM1)
theorem nqj_simple_20 {fu : Nat} {F0 : PF} (x1 : Int32) (z0 : Int32) (F : PF) (G : PG) (hM : MFS F0 F) : PP (mb_simple_20 fu x1 z0 F G) (fun _ F' _ => MFS F0 F') := by
  unfold mb_simple_20
  refine PP.ite (fun c_1 => ?_) (fun c_1 => ?_)
  · skip
    exact nqj_simple_45 x1 F G hM
  · skip
    exact nqj_simple_23 x1 F G hM
theorem nqj_simple_14 {fu : Nat} {F0 : PF} (x1 : Int32) (F : PF) (G : PG) (hM : MFS F0 F) : PP (mb_simple_14 fu x1 F G) (fun _ F' _ => MFS F0 F') := by
  unfold mb_simple_14
  refine PP.bind (mw_isSign (22 : Int32) F G) ?_
  intro r1 F1 G1 hM1
  dsimp only
  exact nqj_simple_20 x1 r1 F1 G1 (MFS.tr hM (MFS.kx hM1 rfl rfl rfl rfl))
theorem nqj_simple_12 {fu : Nat} {F0 : PF} (F : PF) (G : PG) (hM : MFS F0 F) : PP (mb_simple_12 fu F G) (fun _ F' _ => MFS F0 F') := by
  unfold mb_simple_12
  refine PP.ret ?_
  exact hM
theorem nqj_simple_4 {fu : Nat} {F0 : PF} (z0 : Int32) (F : PF) (G : PG) (hM : MFS F0 F) : PP (mb_simple_4 fu z0 F G) (fun _ F' _ => MFS F0 F') := by
  unfold mb_simple_4
  refine PP.ite (fun c_1 => ?_) (fun c_1 => ?_)
  · skip
    exact nqj_simple_14 z0 F G hM
  · skip
    exact nqj_simple_12 F G hM
theorem nq_simple {fu : Nat} (F : PF) (G : PG) : PP (mf_simple fu F G) (fun _ F' _ => MFS F F') := by
  unfold mf_simple
  unfold mb_simple_0
  refine PP.bind (nq_name F G) ?_
  intro r1 F1 G1 hM1
  dsimp only
  exact nqj_simple_4 r1 F1 G1 (MFS.tr MFS.rf hM1)
theorem nqj_tellHere_325 {fu : Nat} {F0 : PF} (z0 : Int32) (F : PF) (G : PG) (hM : MFS F0 F) : PP (mb_tellHere_325 fu z0 F G) (fun _ F' _ => MFS F0 F') := by
  unfold mb_tellHere_325
  refine PP.bz (fun _ => ?_)
  refine PP.ret ?_
  exact hM
theorem nqj_tellHere_320 {fu : Nat} {F0 : PF} (F : PF) (G : PG) (hM : MFS F0 F) : PP (mb_tellHere_320 fu F G) (fun _ F' _ => MFS F0 F') := by
  unfold mb_tellHere_320
  refine PP.bind (nq_fails (2 : Int32) (by decide) F G) ?_
  intro r1 F1 G1 hM1
  dsimp only
  exact nqj_tellHere_325 r1 F1 G1 (MFS.tr hM hM1)
theorem nqj_tellHere_346 {fu : Nat} {F0 : PF} (F : PF) (G : PG) (hM : MFS F0 F) : PP (mb_tellHere_346 fu F G) (fun _ F' _ => MFS F0 F') := by
  unfold mb_tellHere_346
  refine PP.ret ?_
  exact hM
theorem nqj_tellHere_334 {fu : Nat} {F0 : PF} (x3 : Int32) (x4 : Int32) (z0 : Int32) (F : PF) (G : PG) (hM : MFS F0 F) : PP (mb_tellHere_334 fu x3 x4 z0 F G) (fun _ F' _ => MFS F0 F') := by
  unfold mb_tellHere_334
  refine PP.bind (mw_declare x3 (1 : Int32) (0 : Int32) x4 (1 : Int32) (1 : Int32) F G) ?_
  intro r1 F1 G1 hM1
  dsimp only
  exact nqj_tellHere_346 F1 G1 (MFS.tr hM (MFS.kx hM1 rfl rfl rfl rfl))
theorem nqj_tellHere_326 {fu : Nat} {F0 : PF} (x3 : Int32) (x4 : Int32) (F : PF) (G : PG) (hM : MFS F0 F) : PP (mb_tellHere_326 fu x3 x4 F G) (fun _ F' _ => MFS F0 F') := by
  unfold mb_tellHere_326
  refine PP.bind (mw_step (2 : Int32) x4 (0 : Int32) F G) ?_
  intro r1 F1 G1 hM1
  dsimp only
  exact nqj_tellHere_334 x3 x4 r1 F1 G1 (MFS.tr hM (MFS.kx hM1 rfl rfl rfl rfl))
theorem nqj_tellHere_316 {fu : Nat} {F0 : PF} (x3 : Int32) (x4 : Int32) (z0 : Int32) (F : PF) (G : PG) (hM : MFS F0 F) : PP (mb_tellHere_316 fu x3 x4 z0 F G) (fun _ F' _ => MFS F0 F') := by
  unfold mb_tellHere_316
  exact nqj_tellHere_326 x3 x4 F G hM
theorem nqj_tellHere_309 {fu : Nat} {F0 : PF} (x3 : Int32) (x4 : Int32) (F : PF) (G : PG) (hM : MFS F0 F) : PP (mb_tellHere_309 fu x3 x4 F G) (fun _ F' _ => MFS F0 F') := by
  unfold mb_tellHere_309
  refine PP.bind (mw_step (0 : Int32) (0 : Int32) (0 : Int32) F G) ?_
  intro r1 F1 G1 hM1
  dsimp only
  exact nqj_tellHere_316 x3 x4 r1 F1 G1 (MFS.tr hM (MFS.kx hM1 rfl rfl rfl rfl))
theorem nqj_tellHere_305 {fu : Nat} {F0 : PF} (x1 : Int32) (x3 : Int32) (x4 : Int32) (F : PF) (G : PG) (hM : MFS F0 F) : PP (mb_tellHere_305 fu x1 x3 x4 F G) (fun _ F' _ => MFS F0 F') := by
  unfold mb_tellHere_305
  refine PP.ite (fun c_1 => ?_) (fun c_1 => ?_)
  · skip
    exact nqj_tellHere_320 F G hM
  · skip
    exact nqj_tellHere_309 x3 x4 F G hM
theorem nqj_tellHere_303 {fu : Nat} {F0 : PF} (F : PF) (G : PG) (hM : MFS F0 F) : PP (mb_tellHere_303 fu F G) (fun _ F' _ => MFS F0 F') := by
  unfold mb_tellHere_303
  refine PP.ret ?_
  exact hM
theorem nqj_tellHere_300 {fu : Nat} {F0 : PF} (x3 : Int32) (x4 : Int32) (z0 : Int32) (F : PF) (G : PG) (hM : MFS F0 F) : PP (mb_tellHere_300 fu x3 x4 z0 F G) (fun _ F' _ => MFS F0 F') := by
  unfold mb_tellHere_300
  refine PP.ite (fun c_1 => ?_) (fun c_1 => ?_)
  · skip
    exact nqj_tellHere_303 F G hM
  · skip
    exact nqj_tellHere_326 x3 x4 F G hM
theorem nqj_tellHere_296 {fu : Nat} {F0 : PF} (x3 : Int32) (x4 : Int32) (F : PF) (G : PG) (hM : MFS F0 F) : PP (mb_tellHere_296 fu x3 x4 F G) (fun _ F' _ => MFS F0 F') := by
  unfold mb_tellHere_296
  refine PP.bind (nq_expression F G) ?_
  intro r1 F1 G1 hM1
  dsimp only
  exact nqj_tellHere_300 x3 x4 r1 F1 G1 (MFS.tr hM hM1)
theorem nqj_tellHere_286 {fu : Nat} {F0 : PF} (x3 : Int32) (x4 : Int32) (F : PF) (G : PG) (hM : MFS F0 F) : PP (mb_tellHere_286 fu x3 x4 F G) (fun _ F' _ => MFS F0 F') := by
  unfold mb_tellHere_286
  exact nqj_tellHere_296 x3 x4 (fup F 42 ((F 42) + (1 : Int32))) G (MFS.f (k := 42) rfl hM)
theorem nqj_tellHere_283 {fu : Nat} {F0 : PF} (x1 : Int32) (x3 : Int32) (x4 : Int32) (z0 : Int32) (F : PF) (G : PG) (hM : MFS F0 F) : PP (mb_tellHere_283 fu x1 x3 x4 z0 F G) (fun _ F' _ => MFS F0 F') := by
  unfold mb_tellHere_283
  refine PP.ite (fun c_1 => ?_) (fun c_1 => ?_)
  · skip
    exact nqj_tellHere_305 x1 x3 x4 F G hM
  · skip
    exact nqj_tellHere_286 x3 x4 F G hM
theorem nqj_tellHere_277 {fu : Nat} {F0 : PF} (x1 : Int32) (x3 : Int32) (x4 : Int32) (F : PF) (G : PG) (hM : MFS F0 F) : PP (mb_tellHere_277 fu x1 x3 x4 F G) (fun _ F' _ => MFS F0 F') := by
  unfold mb_tellHere_277
  refine PP.bind (mw_isSign (32 : Int32) F G) ?_
  intro r1 F1 G1 hM1
  dsimp only
  exact nqj_tellHere_283 x1 x3 x4 r1 F1 G1 (MFS.tr hM (MFS.kx hM1 rfl rfl rfl rfl))
theorem nqj_tellHere_273 {fu : Nat} {F0 : PF} (x1 : Int32) (x3 : Int32) (x4 : Int32) (z0 : Int32) (z1 : Int32) (F : PF) (G : PG) (hM : MFS F0 F) : PP (mb_tellHere_273 fu x1 x3 x4 z0 z1 F G) (fun _ F' _ => MFS F0 F') := by
  unfold mb_tellHere_273
  exact nqj_tellHere_277 x1 x3 x4 (fup F 53 (z1 + z0)) G (MFS.f (k := 53) rfl hM)
theorem nqj_tellHere_272 {fu : Nat} {F0 : PF} (x1 : Int32) (x3 : Int32) (x4 : Int32) (z0 : Int32) (F : PF) (G : PG) (hM : MFS F0 F) : PP (mb_tellHere_272 fu x1 x3 x4 z0 F G) (fun _ F' _ => MFS F0 F') := by
  unfold mb_tellHere_272
  exact nqj_tellHere_273 x1 x3 x4 (1 : Int32) z0 F G hM
theorem nqj_tellHere_268 {fu : Nat} {F0 : PF} (x1 : Int32) (x3 : Int32) (x4 : Int32) (z0 : Int32) (F : PF) (G : PG) (hM : MFS F0 F) : PP (mb_tellHere_268 fu x1 x3 x4 z0 F G) (fun _ F' _ => MFS F0 F') := by
  unfold mb_tellHere_268
  exact nqj_tellHere_273 x1 x3 x4 (0 : Int32) z0 F G hM
theorem nqj_tellHere_247 {fu : Nat} {F0 : PF} (x1 : Int32) (x3 : Int32) (F : PF) (G : PG) (hM : MFS F0 F) : PP (mb_tellHere_247 fu x1 x3 F G) (fun _ F' _ => MFS F0 F') := by
  unfold mb_tellHere_247
  refine PP.ite (fun c_1 => ?_) (fun c_1 => ?_)
  · skip
    exact nqj_tellHere_272 x1 x3 (F 53) (F 53) F G hM
  · skip
    exact nqj_tellHere_268 x1 x3 (F 53) (F 53) F G hM
theorem nqj_tellHere_235 {fu : Nat} {F0 : PF} (x1 : Int32) (x3 : Int32) (F : PF) (G : PG) (hM : MFS F0 F) : PP (mb_tellHere_235 fu x1 x3 F G) (fun _ F' _ => MFS F0 F') := by
  unfold mb_tellHere_235
  refine PP.ix (fun _ => ?_)
  refine PP.bind (nq_note (11 : Int32) (G 6 x3.toNatClampNeg) (by decide) F G) ?_
  intro r1 F1 G1 hM1
  dsimp only
  exact nqj_tellHere_247 x1 x3 F1 G1 (MFS.tr hM hM1)
theorem nqj_tellHere_225 {fu : Nat} {F0 : PF} (x1 : Int32) (x3 : Int32) (F : PF) (G : PG) (hM : MFS F0 F) : PP (mb_tellHere_225 fu x1 x3 F G) (fun _ F' _ => MFS F0 F') := by
  unfold mb_tellHere_225
  refine PP.ite (fun c_1 => ?_) (fun c_1 => ?_)
  · skip
    exact nqj_tellHere_247 x1 x3 F G hM
  · skip
    exact nqj_tellHere_235 x1 x3 F G hM
theorem nqj_tellHere_215 {fu : Nat} {F0 : PF} (x1 : Int32) (x3 : Int32) (F : PF) (G : PG) (hM : MFS F0 F) : PP (mb_tellHere_215 fu x1 x3 F G) (fun _ F' _ => MFS F0 F') := by
  unfold mb_tellHere_215
  exact nqj_tellHere_225 x1 x3 (fup F 52 ((F 52) + (1 : Int32))) G (MFS.f (k := 52) rfl hM)
theorem nqj_tellHere_210 {fu : Nat} {F0 : PF} (x1 : Int32) (x3 : Int32) (F : PF) (G : PG) (hM : MFS F0 F) : PP (mb_tellHere_210 fu x1 x3 F G) (fun _ F' _ => MFS F0 F') := by
  unfold mb_tellHere_210
  refine PP.bind (nq_twice x3 F G) ?_
  intro r1 F1 G1 hM1
  dsimp only
  exact nqj_tellHere_215 x1 x3 F1 G1 (MFS.tr hM hM1)
theorem nqj_tellHere_61 {fu : Nat} {F0 : PF} (F : PF) (G : PG) (hM : MFS F0 F) : PP (mb_tellHere_61 fu F G) (fun _ F' _ => MFS F0 F') := by
  unfold mb_tellHere_61
  refine PP.ret ?_
  exact hM
theorem nqj_tellHere_78 {fu : Nat} {F0 : PF} (F : PF) (G : PG) (hM : MFS F0 F) : PP (mb_tellHere_78 fu F G) (fun _ F' _ => MFS F0 F') := by
  unfold mb_tellHere_78
  refine PP.ret ?_
  exact hM
theorem nqj_tellHere_208 {fu : Nat} {F0 : PF} (F : PF) (G : PG) (hM : MFS F0 F) : PP (mb_tellHere_208 fu F G) (fun _ F' _ => MFS F0 F') := by
  unfold mb_tellHere_208
  refine PP.ret ?_
  exact hM
theorem nqj_tellHere_197 {fu : Nat} {F0 : PF} (x5 : Int32) (F : PF) (G : PG) (hM : MFS F0 F) : PP (mb_tellHere_197 fu x5 F G) (fun _ F' _ => MFS F0 F') := by
  unfold mb_tellHere_197
  exact nqj_tellHere_208 (fup F 53 ((F 53) + x5)) G (MFS.f (k := 53) rfl hM)
theorem nqj_tellHere_193 {fu : Nat} {F0 : PF} (x5 : Int32) (z0 : Int32) (z1 : Int32) (z2 : Int32) (z3 : Int32) (z4 : Int32) (F : PF) (G : PG) (hM : MFS F0 F) : PP (mb_tellHere_193 fu x5 z0 z1 z2 z3 z4 F G) (fun _ F' _ => MFS F0 F') := by
  unfold mb_tellHere_193
  refine PP.bind (mw_declare z4 z3 z2 z1 z0 (1 : Int32) F G) ?_
  intro r1 F1 G1 hM1
  dsimp only
  exact nqj_tellHere_197 x5 F1 G1 (MFS.tr hM (MFS.kx hM1 rfl rfl rfl rfl))
theorem nqj_tellHere_187 {fu : Nat} {F0 : PF} (x5 : Int32) (z0 : Int32) (z1 : Int32) (z2 : Int32) (z3 : Int32) (F : PF) (G : PG) (hM : MFS F0 F) : PP (mb_tellHere_187 fu x5 z0 z1 z2 z3 F G) (fun _ F' _ => MFS F0 F') := by
  unfold mb_tellHere_187
  exact nqj_tellHere_193 x5 (1 : Int32) z0 z1 z2 z3 F G hM
theorem nqj_tellHere_191 {fu : Nat} {F0 : PF} (x4 : Int32) (x5 : Int32) (z0 : Int32) (z1 : Int32) (z2 : Int32) (z3 : Int32) (F : PF) (G : PG) (hM : MFS F0 F) : PP (mb_tellHere_191 fu x4 x5 z0 z1 z2 z3 F G) (fun _ F' _ => MFS F0 F') := by
  unfold mb_tellHere_191
  exact nqj_tellHere_193 x5 x4 z0 z1 z2 z3 F G hM
theorem nqj_tellHere_172 {fu : Nat} {F0 : PF} (x2 : Int32) (x3 : Int32) (x4 : Int32) (x5 : Int32) (z0 : Int32) (F : PF) (G : PG) (hM : MFS F0 F) : PP (mb_tellHere_172 fu x2 x3 x4 x5 z0 F G) (fun _ F' _ => MFS F0 F') := by
  unfold mb_tellHere_172
  refine PP.ite (fun c_1 => ?_) (fun c_1 => ?_)
  · skip
    exact nqj_tellHere_187 x5 (F 53) x2 (2 : Int32) x3 F G hM
  · skip
    exact nqj_tellHere_191 x4 x5 (F 53) x2 (2 : Int32) x3 F G hM
theorem nqj_tellHere_158 {fu : Nat} {F0 : PF} (x2 : Int32) (x3 : Int32) (x4 : Int32) (z0 : Int32) (F : PF) (G : PG) (hM : MFS F0 F) : PP (mb_tellHere_158 fu x2 x3 x4 z0 F G) (fun _ F' _ => MFS F0 F') := by
  unfold mb_tellHere_158
  refine PP.bind (mw_step (22 : Int32) (F 53) z0 F G) ?_
  intro r1 F1 G1 hM1
  dsimp only
  exact nqj_tellHere_172 x2 x3 x4 z0 r1 F1 G1 (MFS.tr hM (MFS.kx hM1 rfl rfl rfl rfl))
theorem nqj_tellHere_152 {fu : Nat} {F0 : PF} (x2 : Int32) (x3 : Int32) (x4 : Int32) (F : PF) (G : PG) (hM : MFS F0 F) : PP (mb_tellHere_152 fu x2 x3 x4 F G) (fun _ F' _ => MFS F0 F') := by
  unfold mb_tellHere_152
  exact nqj_tellHere_158 x2 x3 x4 (0 : Int32) F G hM
theorem nqj_tellHere_156 {fu : Nat} {F0 : PF} (x2 : Int32) (x3 : Int32) (x4 : Int32) (F : PF) (G : PG) (hM : MFS F0 F) : PP (mb_tellHere_156 fu x2 x3 x4 F G) (fun _ F' _ => MFS F0 F') := by
  unfold mb_tellHere_156
  exact nqj_tellHere_158 x2 x3 x4 x4 F G hM
theorem nqj_tellHere_142 {fu : Nat} {F0 : PF} (x2 : Int32) (x3 : Int32) (x4 : Int32) (F : PF) (G : PG) (hM : MFS F0 F) : PP (mb_tellHere_142 fu x2 x3 x4 F G) (fun _ F' _ => MFS F0 F') := by
  unfold mb_tellHere_142
  refine PP.ite (fun c_1 => ?_) (fun c_1 => ?_)
  · skip
    exact nqj_tellHere_156 x2 x3 x4 F G hM
  · skip
    exact nqj_tellHere_152 x2 x3 x4 F G hM
theorem nqj_tellHere_136 {fu : Nat} {F0 : PF} (x2 : Int32) (x3 : Int32) (x4 : Int32) (F : PF) (G : PG) (hM : MFS F0 F) : PP (mb_tellHere_136 fu x2 x3 x4 F G) (fun _ F' _ => MFS F0 F') := by
  unfold mb_tellHere_136
  refine PP.ite (fun c_1 => ?_) (fun c_1 => ?_)
  · skip
    exact nqj_tellHere_152 x2 x3 x4 F G hM
  · skip
    exact nqj_tellHere_142 x2 x3 x4 F G hM
theorem nqj_tellHere_124 {fu : Nat} {F0 : PF} (x2 : Int32) (x3 : Int32) (x4 : Int32) (F : PF) (G : PG) (hM : MFS F0 F) : PP (mb_tellHere_124 fu x2 x3 x4 F G) (fun _ F' _ => MFS F0 F') := by
  unfold mb_tellHere_124
  refine PP.ix (fun _ => ?_)
  refine PP.bind (nq_note (11 : Int32) (G 6 x3.toNatClampNeg) (by decide) F G) ?_
  intro r1 F1 G1 hM1
  dsimp only
  exact nqj_tellHere_136 x2 x3 x4 F1 G1 (MFS.tr hM hM1)
theorem nqj_tellHere_114 {fu : Nat} {F0 : PF} (x2 : Int32) (x3 : Int32) (x4 : Int32) (F : PF) (G : PG) (hM : MFS F0 F) : PP (mb_tellHere_114 fu x2 x3 x4 F G) (fun _ F' _ => MFS F0 F') := by
  unfold mb_tellHere_114
  refine PP.ite (fun c_1 => ?_) (fun c_1 => ?_)
  · skip
    exact nqj_tellHere_136 x2 x3 x4 F G hM
  · skip
    exact nqj_tellHere_124 x2 x3 x4 F G hM
theorem nqj_tellHere_110 {fu : Nat} {F0 : PF} (x2 : Int32) (x3 : Int32) (x4 : Int32) (z0 : Int32) (z1 : Int32) (F : PF) (G : PG) (hM : MFS F0 F) : PP (mb_tellHere_110 fu x2 x3 x4 z0 z1 F G) (fun _ F' _ => MFS F0 F') := by
  unfold mb_tellHere_110
  exact nqj_tellHere_114 x2 x3 x4 (fup F 52 (z1 + z0)) G (MFS.f (k := 52) rfl hM)
theorem nqj_tellHere_91 {fu : Nat} {F0 : PF} (x2 : Int32) (x3 : Int32) (x4 : Int32) (z0 : Int32) (F : PF) (G : PG) (hM : MFS F0 F) : PP (mb_tellHere_91 fu x2 x3 x4 z0 F G) (fun _ F' _ => MFS F0 F') := by
  unfold mb_tellHere_91
  exact nqj_tellHere_110 x2 x3 x4 (0 : Int32) z0 F G hM
theorem nqj_tellHere_108 {fu : Nat} {F0 : PF} (x2 : Int32) (x3 : Int32) (x4 : Int32) (z0 : Int32) (F : PF) (G : PG) (hM : MFS F0 F) : PP (mb_tellHere_108 fu x2 x3 x4 z0 F G) (fun _ F' _ => MFS F0 F') := by
  unfold mb_tellHere_108
  exact nqj_tellHere_110 x2 x3 x4 x4 z0 F G hM
theorem nqj_tellHere_99 {fu : Nat} {F0 : PF} (x2 : Int32) (x3 : Int32) (x4 : Int32) (z0 : Int32) (F : PF) (G : PG) (hM : MFS F0 F) : PP (mb_tellHere_99 fu x2 x3 x4 z0 F G) (fun _ F' _ => MFS F0 F') := by
  unfold mb_tellHere_99
  exact nqj_tellHere_110 x2 x3 x4 ((x4 + (3 : Int32)) / (4 : Int32)) z0 F G hM
theorem nqj_tellHere_95 {fu : Nat} {F0 : PF} (x2 : Int32) (x3 : Int32) (x4 : Int32) (z0 : Int32) (F : PF) (G : PG) (hM : MFS F0 F) : PP (mb_tellHere_95 fu x2 x3 x4 z0 F G) (fun _ F' _ => MFS F0 F') := by
  unfold mb_tellHere_95
  refine PP.ite (fun c_1 => ?_) (fun c_1 => ?_)
  · skip
    exact nqj_tellHere_108 x2 x3 x4 z0 F G hM
  · skip
    exact nqj_tellHere_99 x2 x3 x4 z0 F G hM
theorem nqj_tellHere_80 {fu : Nat} {F0 : PF} (x2 : Int32) (x3 : Int32) (x4 : Int32) (F : PF) (G : PG) (hM : MFS F0 F) : PP (mb_tellHere_80 fu x2 x3 x4 F G) (fun _ F' _ => MFS F0 F') := by
  unfold mb_tellHere_80
  refine PP.ite (fun c_1 => ?_) (fun c_1 => ?_)
  · skip
    exact nqj_tellHere_91 x2 x3 x4 (F 52) F G hM
  · skip
    exact nqj_tellHere_95 x2 x3 x4 (F 52) F G hM
theorem nqj_tellHere_75 {fu : Nat} {F0 : PF} (x2 : Int32) (x3 : Int32) (x4 : Int32) (z0 : Int32) (F : PF) (G : PG) (hM : MFS F0 F) : PP (mb_tellHere_75 fu x2 x3 x4 z0 F G) (fun _ F' _ => MFS F0 F') := by
  unfold mb_tellHere_75
  refine PP.ite (fun c_1 => ?_) (fun c_1 => ?_)
  · skip
    exact nqj_tellHere_78 F G hM
  · skip
    exact nqj_tellHere_80 x2 x3 x4 F G hM
theorem nqj_tellHere_67 {fu : Nat} {F0 : PF} (x2 : Int32) (x3 : Int32) (z0 : Int32) (F : PF) (G : PG) (hM : MFS F0 F) : PP (mb_tellHere_67 fu x2 x3 z0 F G) (fun _ F' _ => MFS F0 F') := by
  unfold mb_tellHere_67
  refine PP.bind (nq_closeSign (25 : Int32) F G) ?_
  intro r1 F1 G1 hM1
  dsimp only
  exact nqj_tellHere_75 x2 x3 z0 r1 F1 G1 (MFS.tr hM hM1)
theorem nqj_tellHere_63 {fu : Nat} {F0 : PF} (x2 : Int32) (x3 : Int32) (F : PF) (G : PG) (hM : MFS F0 F) : PP (mb_tellHere_63 fu x2 x3 F G) (fun _ F' _ => MFS F0 F') := by
  unfold mb_tellHere_63
  refine PP.bind (nq_sizeHere F G) ?_
  intro r1 F1 G1 hM1
  dsimp only
  exact nqj_tellHere_67 x2 x3 r1 F1 G1 (MFS.tr hM hM1)
theorem nqj_tellHere_58 {fu : Nat} {F0 : PF} (x2 : Int32) (x3 : Int32) (z0 : Int32) (F : PF) (G : PG) (hM : MFS F0 F) : PP (mb_tellHere_58 fu x2 x3 z0 F G) (fun _ F' _ => MFS F0 F') := by
  unfold mb_tellHere_58
  refine PP.ite (fun c_1 => ?_) (fun c_1 => ?_)
  · skip
    exact nqj_tellHere_61 F G hM
  · skip
    exact nqj_tellHere_63 x2 x3 F G hM
theorem nqj_tellHere_52 {fu : Nat} {F0 : PF} (x2 : Int32) (x3 : Int32) (F : PF) (G : PG) (hM : MFS F0 F) : PP (mb_tellHere_52 fu x2 x3 F G) (fun _ F' _ => MFS F0 F') := by
  unfold mb_tellHere_52
  refine PP.bind (nq_openSign (24 : Int32) F G) ?_
  intro r1 F1 G1 hM1
  dsimp only
  exact nqj_tellHere_58 x2 x3 r1 F1 G1 (MFS.tr hM hM1)
theorem nqj_tellHere_47 {fu : Nat} {F0 : PF} (x2 : Int32) (x3 : Int32) (F : PF) (G : PG) (hM : MFS F0 F) : PP (mb_tellHere_47 fu x2 x3 F G) (fun _ F' _ => MFS F0 F') := by
  unfold mb_tellHere_47
  refine PP.bind (nq_twice x3 F G) ?_
  intro r1 F1 G1 hM1
  dsimp only
  exact nqj_tellHere_52 x2 x3 F1 G1 (MFS.tr hM hM1)
theorem nqj_tellHere_44 {fu : Nat} {F0 : PF} (x1 : Int32) (x2 : Int32) (x3 : Int32) (z0 : Int32) (F : PF) (G : PG) (hM : MFS F0 F) : PP (mb_tellHere_44 fu x1 x2 x3 z0 F G) (fun _ F' _ => MFS F0 F') := by
  unfold mb_tellHere_44
  refine PP.ite (fun c_1 => ?_) (fun c_1 => ?_)
  · skip
    exact nqj_tellHere_210 x1 x3 F G hM
  · skip
    exact nqj_tellHere_47 x2 x3 F G hM
theorem nqj_tellHere_38 {fu : Nat} {F0 : PF} (x1 : Int32) (x2 : Int32) (x3 : Int32) (F : PF) (G : PG) (hM : MFS F0 F) : PP (mb_tellHere_38 fu x1 x2 x3 F G) (fun _ F' _ => MFS F0 F') := by
  unfold mb_tellHere_38
  refine PP.bind (mw_isSign (24 : Int32) F G) ?_
  intro r1 F1 G1 hM1
  dsimp only
  exact nqj_tellHere_44 x1 x2 x3 r1 F1 G1 (MFS.tr hM (MFS.kx hM1 rfl rfl rfl rfl))
theorem nqj_tellHere_34 {fu : Nat} {F0 : PF} (x1 : Int32) (x2 : Int32) (x3 : Int32) (F : PF) (G : PG) (hM : MFS F0 F) : PP (mb_tellHere_34 fu x1 x2 x3 F G) (fun _ F' _ => MFS F0 F') := by
  unfold mb_tellHere_34
  refine PP.ite (fun c_1 => ?_) (fun c_1 => ?_)
  · skip
    exact nqj_tellHere_38 x1 x2 x3 F G hM
  · skip
    exact nqj_tellHere_47 x2 x3 F G hM
theorem nqj_tellHere_30 {fu : Nat} {F0 : PF} (x1 : Int32) (x2 : Int32) (x3 : Int32) (F : PF) (G : PG) (hM : MFS F0 F) : PP (mb_tellHere_30 fu x1 x2 x3 F G) (fun _ F' _ => MFS F0 F') := by
  unfold mb_tellHere_30
  refine PP.ite (fun c_1 => ?_) (fun c_1 => ?_)
  · skip
    exact nqj_tellHere_210 x1 x3 F G hM
  · skip
    exact nqj_tellHere_34 x1 x2 x3 F G hM
theorem nqj_tellHere_28 {fu : Nat} {F0 : PF} (F : PF) (G : PG) (hM : MFS F0 F) : PP (mb_tellHere_28 fu F G) (fun _ F' _ => MFS F0 F') := by
  unfold mb_tellHere_28
  refine PP.ret ?_
  exact hM
theorem nqj_tellHere_20 {fu : Nat} {F0 : PF} (x1 : Int32) (x2 : Int32) (z0 : Int32) (F : PF) (G : PG) (hM : MFS F0 F) : PP (mb_tellHere_20 fu x1 x2 z0 F G) (fun _ F' _ => MFS F0 F') := by
  unfold mb_tellHere_20
  refine PP.ite (fun c_1 => ?_) (fun c_1 => ?_)
  · skip
    exact nqj_tellHere_30 x1 x2 z0 F G hM
  · skip
    exact nqj_tellHere_28 F G hM
theorem nqj_tellHere_16 {fu : Nat} {F0 : PF} (x1 : Int32) (x2 : Int32) (F : PF) (G : PG) (hM : MFS F0 F) : PP (mb_tellHere_16 fu x1 x2 F G) (fun _ F' _ => MFS F0 F') := by
  unfold mb_tellHere_16
  refine PP.bind (nq_name F G) ?_
  intro r1 F1 G1 hM1
  dsimp only
  exact nqj_tellHere_20 x1 x2 r1 F1 G1 (MFS.tr hM hM1)
theorem nqj_tellHere_5 {fu : Nat} {F0 : PF} (x1 : Int32) (z0 : Int32) (F : PF) (G : PG) (hM : MFS F0 F) : PP (mb_tellHere_5 fu x1 z0 F G) (fun _ F' _ => MFS F0 F') := by
  unfold mb_tellHere_5
  exact nqj_tellHere_16 x1 z0 (fup F 42 ((F 42) + (1 : Int32))) G (MFS.f (k := 42) rfl hM)
theorem nq_tellHere {fu : Nat} (x1 : Int32) (F : PF) (G : PG) : PP (mf_tellHere fu x1 F G) (fun _ F' _ => MFS F F') := by
  unfold mf_tellHere
  unfold mb_tellHere_0
  refine PP.bind (mw_isWord (1 : Int32) F G) ?_
  intro r1 F1 G1 hM1
  dsimp only
  exact nqj_tellHere_5 x1 r1 F1 G1 (MFS.tr MFS.rf (MFS.kx hM1 rfl rfl rfl rfl))
theorem nqj_leaves_99 {fu : Nat} {F0 : PF} (z0 : Int32) (F : PF) (G : PG) (hM : MFS F0 F) : PP (mb_leaves_99 fu z0 F G) (fun _ F' _ => MFS F0 F') := by
  unfold mb_leaves_99
  refine PP.bz (fun _ => ?_)
  refine PP.ret ?_
  exact hM
theorem nqj_leaves_93 {fu : Nat} {F0 : PF} (F : PF) (G : PG) (hM : MFS F0 F) : PP (mb_leaves_93 fu F G) (fun _ F' _ => MFS F0 F') := by
  unfold mb_leaves_93
  refine PP.bind (nq_sign (29 : Int32) F G) ?_
  intro r1 F1 G1 hM1
  dsimp only
  exact nqj_leaves_99 r1 F1 G1 (MFS.tr hM hM1)
theorem nqj_leaves_88 {fu : Nat} {F0 : PF} (x2 : Int32) (F : PF) (G : PG) (hM : MFS F0 F) : PP (mb_leaves_88 fu x2 F G) (fun _ F' _ => MFS F0 F') := by
  unfold mb_leaves_88
  exact nqj_leaves_93 (fup F 64 x2) G (MFS.f (k := 64) rfl hM)
theorem nqj_leaves_85 {fu : Nat} {F0 : PF} (F : PF) (G : PG) (hM : MFS F0 F) : PP (mb_leaves_85 fu F G) (fun _ F' _ => MFS F0 F') := by
  unfold mb_leaves_85
  exact nqj_leaves_93 F G hM
theorem nqj_leaves_80 {fu : Nat} {F0 : PF} (x2 : Int32) (F : PF) (G : PG) (hM : MFS F0 F) : PP (mb_leaves_80 fu x2 F G) (fun _ F' _ => MFS F0 F') := by
  unfold mb_leaves_80
  exact nqj_leaves_85 (fup F 63 x2) G (MFS.f (k := 63) rfl hM)
theorem nqj_leaves_76 {fu : Nat} {F0 : PF} (x1 : Int32) (x2 : Int32) (F : PF) (G : PG) (hM : MFS F0 F) : PP (mb_leaves_76 fu x1 x2 F G) (fun _ F' _ => MFS F0 F') := by
  unfold mb_leaves_76
  refine PP.ite (fun c_1 => ?_) (fun c_1 => ?_)
  · skip
    exact nqj_leaves_88 x2 F G hM
  · skip
    exact nqj_leaves_80 x2 F G hM
theorem nqj_leaves_75 {fu : Nat} {F0 : PF} (x1 : Int32) (x2 : Int32) (z0 : Int32) (z1 : Int32) (F : PF) (G : PG) (hM : MFS F0 F) : PP (mb_leaves_75 fu x1 x2 z0 z1 F G) (fun _ F' _ => MFS F0 F') := by
  unfold mb_leaves_75
  refine PP.ix (fun _ => ?_)
  exact nqj_leaves_76 x1 x2 F (gup G 57 z1.toNatClampNeg z0) hM
theorem nqj_leaves_71 {fu : Nat} {F0 : PF} (x1 : Int32) (x2 : Int32) (z0 : Int32) (F : PF) (G : PG) (hM : MFS F0 F) : PP (mb_leaves_71 fu x1 x2 z0 F G) (fun _ F' _ => MFS F0 F') := by
  unfold mb_leaves_71
  exact nqj_leaves_75 x1 x2 (F 64) z0 F G hM
theorem nqj_leaves_64 {fu : Nat} {F0 : PF} (x1 : Int32) (x2 : Int32) (z0 : Int32) (F : PF) (G : PG) (hM : MFS F0 F) : PP (mb_leaves_64 fu x1 x2 z0 F G) (fun _ F' _ => MFS F0 F') := by
  unfold mb_leaves_64
  exact nqj_leaves_75 x1 x2 (F 63) z0 F G hM
theorem nqj_leaves_55 {fu : Nat} {F0 : PF} (x1 : Int32) (x2 : Int32) (F : PF) (G : PG) (hM : MFS F0 F) : PP (mb_leaves_55 fu x1 x2 F G) (fun _ F' _ => MFS F0 F') := by
  unfold mb_leaves_55
  refine PP.ite (fun c_1 => ?_) (fun c_1 => ?_)
  · skip
    exact nqj_leaves_71 x1 x2 x2 F G hM
  · skip
    exact nqj_leaves_64 x1 x2 x2 F G hM
theorem nqj_leaves_47 {fu : Nat} {F0 : PF} (x1 : Int32) (z0 : Int32) (F : PF) (G : PG) (hM : MFS F0 F) : PP (mb_leaves_47 fu x1 z0 F G) (fun _ F' _ => MFS F0 F') := by
  unfold mb_leaves_47
  refine PP.ite (fun c_1 => ?_) (fun c_1 => ?_)
  · skip
    exact nqj_leaves_93 F G hM
  · skip
    exact nqj_leaves_55 x1 z0 F G hM
theorem nqj_leaves_39 {fu : Nat} {F0 : PF} (x1 : Int32) (F : PF) (G : PG) (hM : MFS F0 F) : PP (mb_leaves_39 fu x1 F G) (fun _ F' _ => MFS F0 F') := by
  unfold mb_leaves_39
  refine PP.bind (mw_step (12 : Int32) (0 : Int32) (0 : Int32) F G) ?_
  intro r1 F1 G1 hM1
  dsimp only
  exact nqj_leaves_47 x1 r1 F1 G1 (MFS.tr hM (MFS.kx hM1 rfl rfl rfl rfl))
theorem nqj_leaves_29 {fu : Nat} {F0 : PF} (x1 : Int32) (F : PF) (G : PG) (hM : MFS F0 F) : PP (mb_leaves_29 fu x1 F G) (fun _ F' _ => MFS F0 F') := by
  unfold mb_leaves_29
  exact nqj_leaves_39 x1 (fup F 42 ((F 42) + (1 : Int32))) G (MFS.f (k := 42) rfl hM)
theorem nqj_leaves_14 {fu : Nat} {F0 : PF} (x1 : Int32) (F : PF) (G : PG) (hM : MFS F0 F) : PP (mb_leaves_14 fu x1 F G) (fun _ F' _ => MFS F0 F') := by
  unfold mb_leaves_14
  refine PP.ix (fun _ => ?_)
  refine PP.bind (nq_note (9 : Int32) (G 6 (F 42).toNatClampNeg) (by decide) F G) ?_
  intro r1 F1 G1 hM1
  dsimp only
  exact nqj_leaves_29 x1 F1 G1 (MFS.tr hM hM1)
theorem nqj_leaves_6 {fu : Nat} {F0 : PF} (z0 : Int32) (F : PF) (G : PG) (hM : MFS F0 F) : PP (mb_leaves_6 fu z0 F G) (fun _ F' _ => MFS F0 F') := by
  unfold mb_leaves_6
  refine PP.ite (fun c_1 => ?_) (fun c_1 => ?_)
  · skip
    exact nqj_leaves_14 z0 F G hM
  · skip
    exact nqj_leaves_29 z0 F G hM
theorem nq_leaves {fu : Nat} (F : PF) (G : PG) : PP (mf_leaves fu F G) (fun _ F' _ => MFS F F') := by
  unfold mf_leaves
  unfold mb_leaves_0
  refine PP.bind (mw_isWord (9 : Int32) F G) ?_
  intro r1 F1 G1 hM1
  dsimp only
  exact nqj_leaves_6 r1 F1 G1 (MFS.tr MFS.rf (MFS.kx hM1 rfl rfl rfl rfl))
theorem nqj_block_9 {fu : Nat} (rc : RC) (ihQ : nqI rc) {F0 : PF} (F : PF) (G : PG) (hM : MFS F0 F) : PP (mb_block_9 fu rc F G) (fun _ F' _ => MFS F0 F') := by
  unfold mb_block_9
  refine PP.ret ?_
  exact hM
theorem nqj_block_31 {fu : Nat} (rc : RC) (ihQ : nqI rc) {F0 : PF} (ag_11 : PF → PG → PR) (hag_11 : ∀ (F : PF) (G : PG) (hM : MFS F0 F), PP (ag_11 F G) (fun _ F' _ => MFS F0 F')) (z0 : Int32) (F : PF) (G : PG) (hM : MFS F0 F) : PP (mb_block_31 fu rc ag_11 z0 F G) (fun _ F' _ => MFS F0 F') := by
  unfold mb_block_31
  exact hag_11 F G hM
theorem nqj_block_27 {fu : Nat} (rc : RC) (ihQ : nqI rc) {F0 : PF} (ag_11 : PF → PG → PR) (hag_11 : ∀ (F : PF) (G : PG) (hM : MFS F0 F), PP (ag_11 F G) (fun _ F' _ => MFS F0 F')) (F : PF) (G : PG) (hM : MFS F0 F) : PP (mb_block_27 fu rc ag_11 F G) (fun _ F' _ => MFS F0 F') := by
  unfold mb_block_27
  refine PP.bind (ihQ 6 0 0 F G) ?_
  intro r1 F1 G1 hM1
  dsimp only
  exact nqj_block_31 rc ihQ ag_11 hag_11 r1 F1 G1 (MFS.tr hM hM1)
theorem nqj_block_41 {fu : Nat} (rc : RC) (ihQ : nqI rc) {F0 : PF} (z0 : Int32) (F : PF) (G : PG) (hM : MFS F0 F) : PP (mb_block_41 fu rc z0 F G) (fun _ F' _ => MFS F0 F') := by
  unfold mb_block_41
  refine PP.bz (fun _ => ?_)
  refine PP.ret ?_
  exact hM
theorem nqj_block_35 {fu : Nat} (rc : RC) (ihQ : nqI rc) {F0 : PF} (F : PF) (G : PG) (hM : MFS F0 F) : PP (mb_block_35 fu rc F G) (fun _ F' _ => MFS F0 F') := by
  unfold mb_block_35
  refine PP.bind (nq_closeSign (27 : Int32) F G) ?_
  intro r1 F1 G1 hM1
  dsimp only
  exact nqj_block_41 rc ihQ r1 F1 G1 (MFS.tr hM hM1)
theorem nqj_block_24 {fu : Nat} (rc : RC) (ihQ : nqI rc) {F0 : PF} (ag_11 : PF → PG → PR) (hag_11 : ∀ (F : PF) (G : PG) (hM : MFS F0 F), PP (ag_11 F G) (fun _ F' _ => MFS F0 F')) (z0 : Int32) (F : PF) (G : PG) (hM : MFS F0 F) : PP (mb_block_24 fu rc ag_11 z0 F G) (fun _ F' _ => MFS F0 F') := by
  unfold mb_block_24
  refine PP.ite (fun c_1 => ?_) (fun c_1 => ?_)
  · skip
    exact nqj_block_27 rc ihQ ag_11 hag_11 F G hM
  · skip
    exact nqj_block_35 rc ihQ F G hM
theorem nqj_block_18 {fu : Nat} (rc : RC) (ihQ : nqI rc) {F0 : PF} (ag_11 : PF → PG → PR) (hag_11 : ∀ (F : PF) (G : PG) (hM : MFS F0 F), PP (ag_11 F G) (fun _ F' _ => MFS F0 F')) (F : PF) (G : PG) (hM : MFS F0 F) : PP (mb_block_18 fu rc ag_11 F G) (fun _ F' _ => MFS F0 F') := by
  unfold mb_block_18
  refine PP.bind (mw_isSign (27 : Int32) F G) ?_
  intro r1 F1 G1 hM1
  dsimp only
  exact nqj_block_24 rc ihQ ag_11 hag_11 r1 F1 G1 (MFS.tr hM (MFS.kx hM1 rfl rfl rfl rfl))
theorem nqz_block_11 {fu : Nat} (rc : RC) (ihQ : nqI rc) {F0 : PF} : ∀ (n : Nat) (F : PF) (G : PG) (hM : MFS F0 F), PP (ml_block_11 fu rc n F G) (fun _ F' _ => MFS F0 F') := by
  intro n
  induction n with
  | zero =>
    intro F G hM
    exact PP.no
  | succ n ihn =>
    intro F G hM
    show PP (mb_block_11 fu rc (ml_block_11 fu rc n) F G) _
    unfold mb_block_11
    refine PP.ite (fun c_1 => ?_) (fun c_1 => ?_)
    · skip
      exact nqj_block_18 rc ihQ (ml_block_11 fu rc n) ihn F G hM
    · skip
      exact nqj_block_35 rc ihQ F G hM
theorem nqj_block_6 {fu : Nat} (rc : RC) (ihQ : nqI rc) {F0 : PF} (z0 : Int32) (F : PF) (G : PG) (hM : MFS F0 F) : PP (mb_block_6 fu rc z0 F G) (fun _ F' _ => MFS F0 F') := by
  unfold mb_block_6
  refine PP.ite (fun c_1 => ?_) (fun c_1 => ?_)
  · skip
    exact nqj_block_9 rc ihQ F G hM
  · skip
    exact nqz_block_11 rc ihQ fu F G hM
theorem nqt_block {fu : Nat} (rc : RC) (ihQ : nqI rc) (F : PF) (G : PG) : PP (mh_block fu rc F G) (fun _ F' _ => MFS F F') := by
  unfold mh_block
  unfold mb_block_0
  refine PP.bind (nq_openSign (26 : Int32) F G) ?_
  intro r1 F1 G1 hM1
  dsimp only
  exact nqj_block_6 rc ihQ r1 F1 G1 (MFS.tr MFS.rf hM1)
theorem nqj_body_103 {fu : Nat} (rc : RC) (ihQ : nqI rc) {F0 : PF} (x4 : Int32) (F : PF) (G : PG) (hM : MFS F0 F) : PP (mb_body_103 fu rc x4 F G) (fun _ F' _ => MFS F0 F') := by
  unfold mb_body_103
  refine PP.bz (fun _ => ?_)
  refine PP.ret ?_
  exact hM
theorem nqj_body_98 {fu : Nat} (rc : RC) (ihQ : nqI rc) {F0 : PF} (x2 : Int32) (x4 : Int32) (F : PF) (G : PG) (hM : MFS F0 F) : PP (mb_body_98 fu rc x2 x4 F G) (fun _ F' _ => MFS F0 F') := by
  unfold mb_body_98
  exact nqj_body_103 rc ihQ x4 (fup F 63 x2) G (MFS.f (k := 63) rfl hM)
theorem nqj_body_90 {fu : Nat} (rc : RC) (ihQ : nqI rc) {F0 : PF} (x2 : Int32) (x4 : Int32) (F : PF) (G : PG) (hM : MFS F0 F) : PP (mb_body_90 fu rc x2 x4 F G) (fun _ F' _ => MFS F0 F') := by
  unfold mb_body_90
  exact nqj_body_98 rc ihQ x2 x4 (fup F 65 (F 63)) G (MFS.f (k := 65) rfl hM)
theorem nqj_body_85 {fu : Nat} (rc : RC) (ihQ : nqI rc) {F0 : PF} (x2 : Int32) (x3 : Int32) (x4 : Int32) (F : PF) (G : PG) (hM : MFS F0 F) : PP (mb_body_85 fu rc x2 x3 x4 F G) (fun _ F' _ => MFS F0 F') := by
  unfold mb_body_85
  exact nqj_body_90 rc ihQ x2 x4 (fup F 64 x3) G (MFS.f (k := 64) rfl hM)
theorem nqj_body_77 {fu : Nat} (rc : RC) (ihQ : nqI rc) {F0 : PF} (x2 : Int32) (x3 : Int32) (x4 : Int32) (F : PF) (G : PG) (hM : MFS F0 F) : PP (mb_body_77 fu rc x2 x3 x4 F G) (fun _ F' _ => MFS F0 F') := by
  unfold mb_body_77
  exact nqj_body_85 rc ihQ x2 x3 x4 (fup F 66 (F 64)) G (MFS.f (k := 66) rfl hM)
theorem nqj_body_74 {fu : Nat} (rc : RC) (ihQ : nqI rc) {F0 : PF} (x2 : Int32) (x4 : Int32) (F : PF) (G : PG) (hM : MFS F0 F) : PP (mb_body_74 fu rc x2 x4 F G) (fun _ F' _ => MFS F0 F') := by
  unfold mb_body_74
  exact nqj_body_90 rc ihQ x2 x4 F G hM
theorem nqj_body_69 {fu : Nat} (rc : RC) (ihQ : nqI rc) {F0 : PF} (x2 : Int32) (x3 : Int32) (x4 : Int32) (F : PF) (G : PG) (hM : MFS F0 F) : PP (mb_body_69 fu rc x2 x3 x4 F G) (fun _ F' _ => MFS F0 F') := by
  unfold mb_body_69
  exact nqj_body_74 rc ihQ x2 x4 (fup F 64 x3) G (MFS.f (k := 64) rfl hM)
theorem nqj_body_60 {fu : Nat} (rc : RC) (ihQ : nqI rc) {F0 : PF} (x1 : Int32) (x2 : Int32) (x3 : Int32) (x4 : Int32) (F : PF) (G : PG) (hM : MFS F0 F) : PP (mb_body_60 fu rc x1 x2 x3 x4 F G) (fun _ F' _ => MFS F0 F') := by
  unfold mb_body_60
  refine PP.bind (mw_settle (F 64) x1 F G) ?_
  intro r1 F1 G1 hM1
  dsimp only
  exact nqj_body_69 rc ihQ x2 x3 x4 F1 G1 (MFS.tr hM (MFS.kx hM1 rfl rfl rfl rfl))
theorem nqj_body_55 {fu : Nat} (rc : RC) (ihQ : nqI rc) {F0 : PF} (x1 : Int32) (x2 : Int32) (x3 : Int32) (x4 : Int32) (F : PF) (G : PG) (hM : MFS F0 F) : PP (mb_body_55 fu rc x1 x2 x3 x4 F G) (fun _ F' _ => MFS F0 F') := by
  unfold mb_body_55
  refine PP.ite (fun c_1 => ?_) (fun c_1 => ?_)
  · skip
    exact nqj_body_77 rc ihQ x2 x3 x4 F G hM
  · skip
    exact nqj_body_60 rc ihQ x1 x2 x3 x4 F G hM
theorem nqj_body_43 {fu : Nat} (rc : RC) (ihQ : nqI rc) {F0 : PF} (x1 : Int32) (x2 : Int32) (x3 : Int32) (z0 : Int32) (F : PF) (G : PG) (hM : MFS F0 F) : PP (mb_body_43 fu rc x1 x2 x3 z0 F G) (fun _ F' _ => MFS F0 F') := by
  unfold mb_body_43
  exact nqj_body_55 rc ihQ x1 x2 x3 z0 (fup F 51 ((F 51) - (1 : Int32))) G (MFS.f (k := 51) rfl hM)
theorem nqj_body_38 {fu : Nat} (rc : RC) (ihQ : nqI rc) {F0 : PF} (x1 : Int32) (x2 : Int32) (x3 : Int32) (z0 : Int32) (F : PF) (G : PG) (hM : MFS F0 F) : PP (mb_body_38 fu rc x1 x2 x3 z0 F G) (fun _ F' _ => MFS F0 F') := by
  unfold mb_body_38
  refine PP.bind (ihQ 5 0 0 F G) ?_
  intro r1 F1 G1 hM1
  dsimp only
  exact nqj_body_43 rc ihQ x1 x2 x3 r1 F1 G1 (MFS.tr hM hM1)
theorem nqj_body_30 {fu : Nat} (rc : RC) (ihQ : nqI rc) {F0 : PF} (x1 : Int32) (x2 : Int32) (x3 : Int32) (F : PF) (G : PG) (hM : MFS F0 F) : PP (mb_body_30 fu rc x1 x2 x3 F G) (fun _ F' _ => MFS F0 F') := by
  unfold mb_body_30
  refine PP.bind (mw_step (15 : Int32) (0 : Int32) (0 : Int32) F G) ?_
  intro r1 F1 G1 hM1
  dsimp only
  exact nqj_body_38 rc ihQ x1 x2 x3 r1 F1 G1 (MFS.tr hM (MFS.kx hM1 rfl rfl rfl rfl))
theorem nqj_body_20 {fu : Nat} (rc : RC) (ihQ : nqI rc) {F0 : PF} (x1 : Int32) (x2 : Int32) (x3 : Int32) (F : PF) (G : PG) (hM : MFS F0 F) : PP (mb_body_20 fu rc x1 x2 x3 F G) (fun _ F' _ => MFS F0 F') := by
  unfold mb_body_20
  exact nqj_body_30 rc ihQ x1 x2 x3 (fup F 51 ((F 51) + (1 : Int32))) G (MFS.f (k := 51) rfl hM)
theorem nqj_body_15 {fu : Nat} (rc : RC) (ihQ : nqI rc) {F0 : PF} (x1 : Int32) (x2 : Int32) (x3 : Int32) (F : PF) (G : PG) (hM : MFS F0 F) : PP (mb_body_15 fu rc x1 x2 x3 F G) (fun _ F' _ => MFS F0 F') := by
  unfold mb_body_15
  exact nqj_body_20 rc ihQ x1 x2 x3 (fup F 64 (-1 : Int32)) G (MFS.f (k := 64) rfl hM)
theorem nqt_body {fu : Nat} (rc : RC) (ihQ : nqI rc) (x1 : Int32) (F : PF) (G : PG) : PP (mh_body fu rc x1 F G) (fun _ F' _ => MFS F F') := by
  unfold mh_body
  unfold mb_body_0
  exact nqj_body_15 rc ihQ x1 (F 63) (F 64) (fup F 63 (-1 : Int32)) G (MFS.f (k := 63) rfl MFS.rf)
theorem nqj_choice_14 {fu : Nat} (rc : RC) (ihQ : nqI rc) {F0 : PF} (F : PF) (G : PG) (hM : MFS F0 F) : PP (mb_choice_14 fu rc F G) (fun _ F' _ => MFS F0 F') := by
  unfold mb_choice_14
  refine PP.ret ?_
  exact hM
theorem nqj_choice_32 {fu : Nat} (rc : RC) (ihQ : nqI rc) {F0 : PF} (F : PF) (G : PG) (hM : MFS F0 F) : PP (mb_choice_32 fu rc F G) (fun _ F' _ => MFS F0 F') := by
  unfold mb_choice_32
  refine PP.ret ?_
  exact hM
theorem nqj_choice_132 {fu : Nat} (rc : RC) (ihQ : nqI rc) {F0 : PF} (z0 : Int32) (F : PF) (G : PG) (hM : MFS F0 F) : PP (mb_choice_132 fu rc z0 F G) (fun _ F' _ => MFS F0 F') := by
  unfold mb_choice_132
  refine PP.bz (fun _ => ?_)
  refine PP.ret ?_
  exact hM
theorem nqj_choice_127 {fu : Nat} (rc : RC) (ihQ : nqI rc) {F0 : PF} (F : PF) (G : PG) (hM : MFS F0 F) : PP (mb_choice_127 fu rc F G) (fun _ F' _ => MFS F0 F') := by
  unfold mb_choice_127
  exact nqj_choice_132 rc ihQ (1 : Int32) F G hM
theorem nqj_choice_131 {fu : Nat} (rc : RC) (ihQ : nqI rc) {F0 : PF} (F : PF) (G : PG) (hM : MFS F0 F) : PP (mb_choice_131 fu rc F G) (fun _ F' _ => MFS F0 F') := by
  unfold mb_choice_131
  exact nqj_choice_132 rc ihQ (0 : Int32) F G hM
theorem nqj_choice_120 {fu : Nat} (rc : RC) (ihQ : nqI rc) {F0 : PF} (F : PF) (G : PG) (hM : MFS F0 F) : PP (mb_choice_120 fu rc F G) (fun _ F' _ => MFS F0 F') := by
  unfold mb_choice_120
  refine PP.ite (fun c_1 => ?_) (fun c_1 => ?_)
  · skip
    exact nqj_choice_127 rc ihQ F G hM
  · skip
    exact nqj_choice_131 rc ihQ F G hM
theorem nqj_choice_110 {fu : Nat} (rc : RC) (ihQ : nqI rc) {F0 : PF} (F : PF) (G : PG) (hM : MFS F0 F) : PP (mb_choice_110 fu rc F G) (fun _ F' _ => MFS F0 F') := by
  unfold mb_choice_110
  exact nqj_choice_120 rc ihQ (fup F 43 ((F 43) - (1 : Int32))) G (MFS.f (k := 43) rfl hM)
theorem nqj_choice_100 {fu : Nat} (rc : RC) (ihQ : nqI rc) {F0 : PF} (x1 : Int32) (F : PF) (G : PG) (hM : MFS F0 F) : PP (mb_choice_100 fu rc x1 F G) (fun _ F' _ => MFS F0 F') := by
  unfold mb_choice_100
  refine PP.ix (fun _ => ?_)
  exact nqj_choice_110 rc ihQ F (gup G 57 x1.toNatClampNeg (F 60)) hM
theorem nqj_choice_85 {fu : Nat} (rc : RC) (ihQ : nqI rc) {F0 : PF} (F : PF) (G : PG) (hM : MFS F0 F) : PP (mb_choice_85 fu rc F G) (fun _ F' _ => MFS F0 F') := by
  unfold mb_choice_85
  refine PP.ret ?_
  exact hM
theorem nqj_choice_97 {fu : Nat} (rc : RC) (ihQ : nqI rc) {F0 : PF} (F : PF) (G : PG) (hM : MFS F0 F) : PP (mb_choice_97 fu rc F G) (fun _ F' _ => MFS F0 F') := by
  unfold mb_choice_97
  exact nqj_choice_110 rc ihQ F G hM
theorem nqj_choice_87 {fu : Nat} (rc : RC) (ihQ : nqI rc) {F0 : PF} (x2 : Int32) (F : PF) (G : PG) (hM : MFS F0 F) : PP (mb_choice_87 fu rc x2 F G) (fun _ F' _ => MFS F0 F') := by
  unfold mb_choice_87
  refine PP.ix (fun _ => ?_)
  exact nqj_choice_97 rc ihQ F (gup G 57 x2.toNatClampNeg (F 60)) hM
theorem nqj_choice_82 {fu : Nat} (rc : RC) (ihQ : nqI rc) {F0 : PF} (x2 : Int32) (z0 : Int32) (F : PF) (G : PG) (hM : MFS F0 F) : PP (mb_choice_82 fu rc x2 z0 F G) (fun _ F' _ => MFS F0 F') := by
  unfold mb_choice_82
  refine PP.ite (fun c_1 => ?_) (fun c_1 => ?_)
  · skip
    exact nqj_choice_85 rc ihQ F G hM
  · skip
    exact nqj_choice_87 rc ihQ x2 F G hM
theorem nqj_choice_78 {fu : Nat} (rc : RC) (ihQ : nqI rc) {F0 : PF} (x2 : Int32) (F : PF) (G : PG) (hM : MFS F0 F) : PP (mb_choice_78 fu rc x2 F G) (fun _ F' _ => MFS F0 F') := by
  unfold mb_choice_78
  refine PP.bind (ihQ 5 0 0 F G) ?_
  intro r1 F1 G1 hM1
  dsimp only
  exact nqj_choice_82 rc ihQ x2 r1 F1 G1 (MFS.tr hM hM1)
theorem nqj_choice_67 {fu : Nat} (rc : RC) (ihQ : nqI rc) {F0 : PF} (x1 : Int32) (z0 : Int32) (F : PF) (G : PG) (hM : MFS F0 F) : PP (mb_choice_67 fu rc x1 z0 F G) (fun _ F' _ => MFS F0 F') := by
  unfold mb_choice_67
  refine PP.ix (fun _ => ?_)
  exact nqj_choice_78 rc ihQ z0 F (gup G 57 x1.toNatClampNeg (F 60)) hM
theorem nqj_choice_59 {fu : Nat} (rc : RC) (ihQ : nqI rc) {F0 : PF} (x1 : Int32) (F : PF) (G : PG) (hM : MFS F0 F) : PP (mb_choice_59 fu rc x1 F G) (fun _ F' _ => MFS F0 F') := by
  unfold mb_choice_59
  refine PP.bind (mw_step (12 : Int32) (0 : Int32) (0 : Int32) F G) ?_
  intro r1 F1 G1 hM1
  dsimp only
  exact nqj_choice_67 rc ihQ x1 r1 F1 G1 (MFS.tr hM (MFS.kx hM1 rfl rfl rfl rfl))
theorem nqj_choice_49 {fu : Nat} (rc : RC) (ihQ : nqI rc) {F0 : PF} (x1 : Int32) (F : PF) (G : PG) (hM : MFS F0 F) : PP (mb_choice_49 fu rc x1 F G) (fun _ F' _ => MFS F0 F') := by
  unfold mb_choice_49
  exact nqj_choice_59 rc ihQ x1 (fup F 42 ((F 42) + (1 : Int32))) G (MFS.f (k := 42) rfl hM)
theorem nqj_choice_46 {fu : Nat} (rc : RC) (ihQ : nqI rc) {F0 : PF} (x1 : Int32) (z0 : Int32) (F : PF) (G : PG) (hM : MFS F0 F) : PP (mb_choice_46 fu rc x1 z0 F G) (fun _ F' _ => MFS F0 F') := by
  unfold mb_choice_46
  refine PP.ite (fun c_1 => ?_) (fun c_1 => ?_)
  · skip
    exact nqj_choice_100 rc ihQ x1 F G hM
  · skip
    exact nqj_choice_49 rc ihQ x1 F G hM
theorem nqj_choice_41 {fu : Nat} (rc : RC) (ihQ : nqI rc) {F0 : PF} (x1 : Int32) (F : PF) (G : PG) (hM : MFS F0 F) : PP (mb_choice_41 fu rc x1 F G) (fun _ F' _ => MFS F0 F') := by
  unfold mb_choice_41
  refine PP.bind (mw_isWord (5 : Int32) F G) ?_
  intro r1 F1 G1 hM1
  dsimp only
  exact nqj_choice_46 rc ihQ x1 r1 F1 G1 (MFS.tr hM (MFS.kx hM1 rfl rfl rfl rfl))
theorem nqj_choice_34 {fu : Nat} (rc : RC) (ihQ : nqI rc) {F0 : PF} (x1 : Int32) (F : PF) (G : PG) (hM : MFS F0 F) : PP (mb_choice_34 fu rc x1 F G) (fun _ F' _ => MFS F0 F') := by
  unfold mb_choice_34
  refine PP.ite (fun c_1 => ?_) (fun c_1 => ?_)
  · skip
    exact nqj_choice_41 rc ihQ x1 F G hM
  · skip
    exact nqj_choice_100 rc ihQ x1 F G hM
theorem nqj_choice_29 {fu : Nat} (rc : RC) (ihQ : nqI rc) {F0 : PF} (x1 : Int32) (z0 : Int32) (F : PF) (G : PG) (hM : MFS F0 F) : PP (mb_choice_29 fu rc x1 z0 F G) (fun _ F' _ => MFS F0 F') := by
  unfold mb_choice_29
  refine PP.ite (fun c_1 => ?_) (fun c_1 => ?_)
  · skip
    exact nqj_choice_32 rc ihQ F G hM
  · skip
    exact nqj_choice_34 rc ihQ x1 F G hM
theorem nqj_choice_24 {fu : Nat} (rc : RC) (ihQ : nqI rc) {F0 : PF} (z0 : Int32) (F : PF) (G : PG) (hM : MFS F0 F) : PP (mb_choice_24 fu rc z0 F G) (fun _ F' _ => MFS F0 F') := by
  unfold mb_choice_24
  refine PP.bind (ihQ 5 0 0 F G) ?_
  intro r1 F1 G1 hM1
  dsimp only
  exact nqj_choice_29 rc ihQ z0 r1 F1 G1 (MFS.tr hM hM1)
theorem nqj_choice_16 {fu : Nat} (rc : RC) (ihQ : nqI rc) {F0 : PF} (F : PF) (G : PG) (hM : MFS F0 F) : PP (mb_choice_16 fu rc F G) (fun _ F' _ => MFS F0 F') := by
  unfold mb_choice_16
  refine PP.bind (mw_step (13 : Int32) (0 : Int32) (0 : Int32) F G) ?_
  intro r1 F1 G1 hM1
  dsimp only
  exact nqj_choice_24 rc ihQ r1 F1 G1 (MFS.tr hM (MFS.kx hM1 rfl rfl rfl rfl))
theorem nqj_choice_11 {fu : Nat} (rc : RC) (ihQ : nqI rc) {F0 : PF} (z0 : Int32) (F : PF) (G : PG) (hM : MFS F0 F) : PP (mb_choice_11 fu rc z0 F G) (fun _ F' _ => MFS F0 F') := by
  unfold mb_choice_11
  refine PP.ite (fun c_1 => ?_) (fun c_1 => ?_)
  · skip
    exact nqj_choice_14 rc ihQ F G hM
  · skip
    exact nqj_choice_16 rc ihQ F G hM
theorem nqj_choice_7 {fu : Nat} (rc : RC) (ihQ : nqI rc) {F0 : PF} (F : PF) (G : PG) (hM : MFS F0 F) : PP (mb_choice_7 fu rc F G) (fun _ F' _ => MFS F0 F') := by
  unfold mb_choice_7
  refine PP.bind (nq_condition F G) ?_
  intro r1 F1 G1 hM1
  dsimp only
  exact nqj_choice_11 rc ihQ r1 F1 G1 (MFS.tr hM hM1)
theorem nqj_choice_4 {fu : Nat} (rc : RC) (ihQ : nqI rc) {F0 : PF} (z0 : Int32) (F : PF) (G : PG) (hM : MFS F0 F) : PP (mb_choice_4 fu rc z0 F G) (fun _ F' _ => MFS F0 F') := by
  unfold mb_choice_4
  refine PP.ite (fun c_1 => ?_) (fun c_1 => ?_)
  · skip
    exact nqj_choice_14 rc ihQ F G hM
  · skip
    exact nqj_choice_7 rc ihQ F G hM
theorem nqt_choice {fu : Nat} (rc : RC) (ihQ : nqI rc) (F : PF) (G : PG) : PP (mh_choice fu rc F G) (fun _ F' _ => MFS F F') := by
  unfold mh_choice
  unfold mb_choice_0
  refine PP.bind (nq_opens F G) ?_
  intro r1 F1 G1 hM1
  dsimp only
  exact nqj_choice_4 rc ihQ r1 F1 G1 (MFS.tr MFS.rf hM1)
theorem nqj_counted_16 {fu : Nat} (rc : RC) (ihQ : nqI rc) {F0 : PF} (F : PF) (G : PG) (hM : MFS F0 F) : PP (mb_counted_16 fu rc F G) (fun _ F' _ => MFS F0 F') := by
  unfold mb_counted_16
  refine PP.ret ?_
  exact hM
theorem nqj_counted_61 {fu : Nat} (rc : RC) (ihQ : nqI rc) {F0 : PF} (F : PF) (G : PG) (hM : MFS F0 F) : PP (mb_counted_61 fu rc F G) (fun _ F' _ => MFS F0 F') := by
  unfold mb_counted_61
  refine PP.ret ?_
  exact hM
theorem nqj_counted_72 {fu : Nat} (rc : RC) (ihQ : nqI rc) {F0 : PF} (F : PF) (G : PG) (hM : MFS F0 F) : PP (mb_counted_72 fu rc F G) (fun _ F' _ => MFS F0 F') := by
  unfold mb_counted_72
  refine PP.ret ?_
  exact hM
theorem nqj_counted_97 {fu : Nat} (rc : RC) (ihQ : nqI rc) {F0 : PF} (F : PF) (G : PG) (hM : MFS F0 F) : PP (mb_counted_97 fu rc F G) (fun _ F' _ => MFS F0 F') := by
  unfold mb_counted_97
  refine PP.ret ?_
  exact hM
theorem nqj_counted_117 {fu : Nat} (rc : RC) (ihQ : nqI rc) {F0 : PF} (F : PF) (G : PG) (hM : MFS F0 F) : PP (mb_counted_117 fu rc F G) (fun _ F' _ => MFS F0 F') := by
  unfold mb_counted_117
  refine PP.ret ?_
  exact hM
theorem nqj_counted_151 {fu : Nat} (rc : RC) (ihQ : nqI rc) {F0 : PF} (F : PF) (G : PG) (hM : MFS F0 F) : PP (mb_counted_151 fu rc F G) (fun _ F' _ => MFS F0 F') := by
  unfold mb_counted_151
  refine PP.ret ?_
  exact hM
theorem nqj_counted_162 {fu : Nat} (rc : RC) (ihQ : nqI rc) {F0 : PF} (F : PF) (G : PG) (hM : MFS F0 F) : PP (mb_counted_162 fu rc F G) (fun _ F' _ => MFS F0 F') := by
  unfold mb_counted_162
  refine PP.ret ?_
  exact hM
theorem nqj_counted_193 {fu : Nat} (rc : RC) (ihQ : nqI rc) {F0 : PF} (F : PF) (G : PG) (hM : MFS F0 F) : PP (mb_counted_193 fu rc F G) (fun _ F' _ => MFS F0 F') := by
  unfold mb_counted_193
  refine PP.ret ?_
  exact hM
theorem nqj_counted_251 {fu : Nat} (rc : RC) (ihQ : nqI rc) {F0 : PF} (F : PF) (G : PG) (hM : MFS F0 F) : PP (mb_counted_251 fu rc F G) (fun _ F' _ => MFS F0 F') := by
  unfold mb_counted_251
  refine PP.ret ?_
  exact hM
theorem nqj_counted_241 {fu : Nat} (rc : RC) (ihQ : nqI rc) {F0 : PF} (F : PF) (G : PG) (hM : MFS F0 F) : PP (mb_counted_241 fu rc F G) (fun _ F' _ => MFS F0 F') := by
  unfold mb_counted_241
  exact nqj_counted_251 rc ihQ (fup F 43 ((F 43) - (1 : Int32))) G (MFS.f (k := 43) rfl hM)
theorem nqj_counted_236 {fu : Nat} (rc : RC) (ihQ : nqI rc) {F0 : PF} (x1 : Int32) (F : PF) (G : PG) (hM : MFS F0 F) : PP (mb_counted_236 fu rc x1 F G) (fun _ F' _ => MFS F0 F') := by
  unfold mb_counted_236
  refine PP.bind (mw_ends x1 F G) ?_
  intro r1 F1 G1 hM1
  dsimp only
  exact nqj_counted_241 rc ihQ F1 G1 (MFS.tr hM (MFS.kx hM1 rfl rfl rfl rfl))
theorem nqj_counted_226 {fu : Nat} (rc : RC) (ihQ : nqI rc) {F0 : PF} (x1 : Int32) (x6 : Int32) (F : PF) (G : PG) (hM : MFS F0 F) : PP (mb_counted_226 fu rc x1 x6 F G) (fun _ F' _ => MFS F0 F') := by
  unfold mb_counted_226
  refine PP.bind (mw_settle x6 (F 60) F G) ?_
  intro r1 F1 G1 hM1
  dsimp only
  exact nqj_counted_236 rc ihQ x1 F1 G1 (MFS.tr hM (MFS.kx hM1 rfl rfl rfl rfl))
theorem nqj_counted_216 {fu : Nat} (rc : RC) (ihQ : nqI rc) {F0 : PF} (x1 : Int32) (x3 : Int32) (x6 : Int32) (F : PF) (G : PG) (hM : MFS F0 F) : PP (mb_counted_216 fu rc x1 x3 x6 F G) (fun _ F' _ => MFS F0 F') := by
  unfold mb_counted_216
  refine PP.ix (fun _ => ?_)
  exact nqj_counted_226 rc ihQ x1 x6 F (gup G 57 x3.toNatClampNeg (F 60)) hM
theorem nqj_counted_210 {fu : Nat} (rc : RC) (ihQ : nqI rc) {F0 : PF} (x1 : Int32) (x3 : Int32) (x6 : Int32) (z0 : Int32) (F : PF) (G : PG) (hM : MFS F0 F) : PP (mb_counted_210 fu rc x1 x3 x6 z0 F G) (fun _ F' _ => MFS F0 F') := by
  unfold mb_counted_210
  refine PP.ite (fun c_1 => ?_) (fun c_1 => ?_)
  · skip
    exact nqj_counted_226 rc ihQ x1 x6 F G hM
  · skip
    exact nqj_counted_216 rc ihQ x1 x3 x6 F G hM
theorem nqj_counted_195 {fu : Nat} (rc : RC) (ihQ : nqI rc) {F0 : PF} (x1 : Int32) (x3 : Int32) (x5 : Int32) (F : PF) (G : PG) (hM : MFS F0 F) : PP (mb_counted_195 fu rc x1 x3 x5 F G) (fun _ F' _ => MFS F0 F') := by
  unfold mb_counted_195
  refine PP.bind (mw_step (12 : Int32) x5 (0 : Int32) F G) ?_
  intro r1 F1 G1 hM1
  dsimp only
  exact nqj_counted_210 rc ihQ x1 x3 (F 65) r1 F1 G1 (MFS.tr hM (MFS.kx hM1 rfl rfl rfl rfl))
theorem nqj_counted_190 {fu : Nat} (rc : RC) (ihQ : nqI rc) {F0 : PF} (x1 : Int32) (x3 : Int32) (x5 : Int32) (z0 : Int32) (F : PF) (G : PG) (hM : MFS F0 F) : PP (mb_counted_190 fu rc x1 x3 x5 z0 F G) (fun _ F' _ => MFS F0 F') := by
  unfold mb_counted_190
  refine PP.ite (fun c_1 => ?_) (fun c_1 => ?_)
  · skip
    exact nqj_counted_193 rc ihQ F G hM
  · skip
    exact nqj_counted_195 rc ihQ x1 x3 x5 F G hM
theorem nqj_counted_184 {fu : Nat} (rc : RC) (ihQ : nqI rc) {F0 : PF} (x1 : Int32) (x3 : Int32) (x5 : Int32) (F : PF) (G : PG) (hM : MFS F0 F) : PP (mb_counted_184 fu rc x1 x3 x5 F G) (fun _ F' _ => MFS F0 F') := by
  unfold mb_counted_184
  refine PP.bind (ihQ 1 x5 0 F G) ?_
  intro r1 F1 G1 hM1
  dsimp only
  exact nqj_counted_190 rc ihQ x1 x3 x5 r1 F1 G1 (MFS.tr hM hM1)
theorem nqj_counted_172 {fu : Nat} (rc : RC) (ihQ : nqI rc) {F0 : PF} (x1 : Int32) (x3 : Int32) (x4 : Int32) (x5 : Int32) (z0 : Int32) (F : PF) (G : PG) (hM : MFS F0 F) : PP (mb_counted_172 fu rc x1 x3 x4 x5 z0 F G) (fun _ F' _ => MFS F0 F') := by
  unfold mb_counted_172
  refine PP.ix (fun _ => ?_)
  exact nqj_counted_184 rc ihQ x1 x3 x5 F (gup G 57 x4.toNatClampNeg (F 60)) hM
theorem nqj_counted_164 {fu : Nat} (rc : RC) (ihQ : nqI rc) {F0 : PF} (x1 : Int32) (x2 : Int32) (x3 : Int32) (x4 : Int32) (x5 : Int32) (F : PF) (G : PG) (hM : MFS F0 F) : PP (mb_counted_164 fu rc x1 x2 x3 x4 x5 F G) (fun _ F' _ => MFS F0 F') := by
  unfold mb_counted_164
  refine PP.bind (mw_step (12 : Int32) x2 (0 : Int32) F G) ?_
  intro r1 F1 G1 hM1
  dsimp only
  exact nqj_counted_172 rc ihQ x1 x3 x4 x5 r1 F1 G1 (MFS.tr hM (MFS.kx hM1 rfl rfl rfl rfl))
theorem nqj_counted_159 {fu : Nat} (rc : RC) (ihQ : nqI rc) {F0 : PF} (x1 : Int32) (x2 : Int32) (x3 : Int32) (x4 : Int32) (x5 : Int32) (z0 : Int32) (F : PF) (G : PG) (hM : MFS F0 F) : PP (mb_counted_159 fu rc x1 x2 x3 x4 x5 z0 F G) (fun _ F' _ => MFS F0 F') := by
  unfold mb_counted_159
  refine PP.ite (fun c_1 => ?_) (fun c_1 => ?_)
  · skip
    exact nqj_counted_162 rc ihQ F G hM
  · skip
    exact nqj_counted_164 rc ihQ x1 x2 x3 x4 x5 F G hM
theorem nqj_counted_153 {fu : Nat} (rc : RC) (ihQ : nqI rc) {F0 : PF} (x1 : Int32) (x2 : Int32) (x3 : Int32) (x4 : Int32) (x5 : Int32) (F : PF) (G : PG) (hM : MFS F0 F) : PP (mb_counted_153 fu rc x1 x2 x3 x4 x5 F G) (fun _ F' _ => MFS F0 F') := by
  unfold mb_counted_153
  refine PP.bind (nq_closeSign (23 : Int32) F G) ?_
  intro r1 F1 G1 hM1
  dsimp only
  exact nqj_counted_159 rc ihQ x1 x2 x3 x4 x5 r1 F1 G1 (MFS.tr hM hM1)
theorem nqj_counted_148 {fu : Nat} (rc : RC) (ihQ : nqI rc) {F0 : PF} (x1 : Int32) (x2 : Int32) (x3 : Int32) (x4 : Int32) (x5 : Int32) (z0 : Int32) (F : PF) (G : PG) (hM : MFS F0 F) : PP (mb_counted_148 fu rc x1 x2 x3 x4 x5 z0 F G) (fun _ F' _ => MFS F0 F') := by
  unfold mb_counted_148
  refine PP.ite (fun c_1 => ?_) (fun c_1 => ?_)
  · skip
    exact nqj_counted_151 rc ihQ F G hM
  · skip
    exact nqj_counted_153 rc ihQ x1 x2 x3 x4 x5 F G hM
theorem nqj_counted_144 {fu : Nat} (rc : RC) (ihQ : nqI rc) {F0 : PF} (x1 : Int32) (x2 : Int32) (x3 : Int32) (x4 : Int32) (x5 : Int32) (F : PF) (G : PG) (hM : MFS F0 F) : PP (mb_counted_144 fu rc x1 x2 x3 x4 x5 F G) (fun _ F' _ => MFS F0 F') := by
  unfold mb_counted_144
  refine PP.bind (nq_simple F G) ?_
  intro r1 F1 G1 hM1
  dsimp only
  exact nqj_counted_148 rc ihQ x1 x2 x3 x4 x5 r1 F1 G1 (MFS.tr hM hM1)
theorem nqj_counted_141 {fu : Nat} (rc : RC) (ihQ : nqI rc) {F0 : PF} (x1 : Int32) (x2 : Int32) (x3 : Int32) (x4 : Int32) (x5 : Int32) (z0 : Int32) (F : PF) (G : PG) (hM : MFS F0 F) : PP (mb_counted_141 fu rc x1 x2 x3 x4 x5 z0 F G) (fun _ F' _ => MFS F0 F') := by
  unfold mb_counted_141
  refine PP.ite (fun c_1 => ?_) (fun c_1 => ?_)
  · skip
    exact nqj_counted_144 rc ihQ x1 x2 x3 x4 x5 F G hM
  · skip
    exact nqj_counted_153 rc ihQ x1 x2 x3 x4 x5 F G hM
theorem nqj_counted_127 {fu : Nat} (rc : RC) (ihQ : nqI rc) {F0 : PF} (x1 : Int32) (x2 : Int32) (x3 : Int32) (z0 : Int32) (F : PF) (G : PG) (hM : MFS F0 F) : PP (mb_counted_127 fu rc x1 x2 x3 z0 F G) (fun _ F' _ => MFS F0 F') := by
  unfold mb_counted_127
  refine PP.bind (mw_isSign (23 : Int32) F G) ?_
  intro r1 F1 G1 hM1
  dsimp only
  exact nqj_counted_141 rc ihQ x1 x2 x3 z0 (F 60) r1 F1 G1 (MFS.tr hM (MFS.kx hM1 rfl rfl rfl rfl))
theorem nqj_counted_119 {fu : Nat} (rc : RC) (ihQ : nqI rc) {F0 : PF} (x1 : Int32) (x2 : Int32) (x3 : Int32) (F : PF) (G : PG) (hM : MFS F0 F) : PP (mb_counted_119 fu rc x1 x2 x3 F G) (fun _ F' _ => MFS F0 F') := by
  unfold mb_counted_119
  refine PP.bind (mw_step (12 : Int32) (0 : Int32) (0 : Int32) F G) ?_
  intro r1 F1 G1 hM1
  dsimp only
  exact nqj_counted_127 rc ihQ x1 x2 x3 r1 F1 G1 (MFS.tr hM (MFS.kx hM1 rfl rfl rfl rfl))
theorem nqj_counted_114 {fu : Nat} (rc : RC) (ihQ : nqI rc) {F0 : PF} (x1 : Int32) (x2 : Int32) (x3 : Int32) (z0 : Int32) (F : PF) (G : PG) (hM : MFS F0 F) : PP (mb_counted_114 fu rc x1 x2 x3 z0 F G) (fun _ F' _ => MFS F0 F') := by
  unfold mb_counted_114
  refine PP.ite (fun c_1 => ?_) (fun c_1 => ?_)
  · skip
    exact nqj_counted_117 rc ihQ F G hM
  · skip
    exact nqj_counted_119 rc ihQ x1 x2 x3 F G hM
theorem nqj_counted_108 {fu : Nat} (rc : RC) (ihQ : nqI rc) {F0 : PF} (x1 : Int32) (x2 : Int32) (x3 : Int32) (F : PF) (G : PG) (hM : MFS F0 F) : PP (mb_counted_108 fu rc x1 x2 x3 F G) (fun _ F' _ => MFS F0 F') := by
  unfold mb_counted_108
  refine PP.bind (nq_sign (29 : Int32) F G) ?_
  intro r1 F1 G1 hM1
  dsimp only
  exact nqj_counted_114 rc ihQ x1 x2 x3 r1 F1 G1 (MFS.tr hM hM1)
theorem nqj_counted_107 {fu : Nat} (rc : RC) (ihQ : nqI rc) {F0 : PF} (x1 : Int32) (x2 : Int32) (z0 : Int32) (F : PF) (G : PG) (hM : MFS F0 F) : PP (mb_counted_107 fu rc x1 x2 z0 F G) (fun _ F' _ => MFS F0 F') := by
  unfold mb_counted_107
  exact nqj_counted_108 rc ihQ x1 x2 z0 F G hM
theorem nqj_counted_99 {fu : Nat} (rc : RC) (ihQ : nqI rc) {F0 : PF} (x1 : Int32) (x2 : Int32) (F : PF) (G : PG) (hM : MFS F0 F) : PP (mb_counted_99 fu rc x1 x2 F G) (fun _ F' _ => MFS F0 F') := by
  unfold mb_counted_99
  refine PP.bind (mw_step (13 : Int32) (0 : Int32) (0 : Int32) F G) ?_
  intro r1 F1 G1 hM1
  dsimp only
  exact nqj_counted_107 rc ihQ x1 x2 r1 F1 G1 (MFS.tr hM (MFS.kx hM1 rfl rfl rfl rfl))
theorem nqj_counted_94 {fu : Nat} (rc : RC) (ihQ : nqI rc) {F0 : PF} (x1 : Int32) (x2 : Int32) (z0 : Int32) (F : PF) (G : PG) (hM : MFS F0 F) : PP (mb_counted_94 fu rc x1 x2 z0 F G) (fun _ F' _ => MFS F0 F') := by
  unfold mb_counted_94
  refine PP.ite (fun c_1 => ?_) (fun c_1 => ?_)
  · skip
    exact nqj_counted_97 rc ihQ F G hM
  · skip
    exact nqj_counted_99 rc ihQ x1 x2 F G hM
theorem nqj_counted_90 {fu : Nat} (rc : RC) (ihQ : nqI rc) {F0 : PF} (x1 : Int32) (x2 : Int32) (F : PF) (G : PG) (hM : MFS F0 F) : PP (mb_counted_90 fu rc x1 x2 F G) (fun _ F' _ => MFS F0 F') := by
  unfold mb_counted_90
  refine PP.bind (nq_expression F G) ?_
  intro r1 F1 G1 hM1
  dsimp only
  exact nqj_counted_94 rc ihQ x1 x2 r1 F1 G1 (MFS.tr hM hM1)
theorem nqj_counted_87 {fu : Nat} (rc : RC) (ihQ : nqI rc) {F0 : PF} (x1 : Int32) (x2 : Int32) (x3 : Int32) (z0 : Int32) (F : PF) (G : PG) (hM : MFS F0 F) : PP (mb_counted_87 fu rc x1 x2 x3 z0 F G) (fun _ F' _ => MFS F0 F') := by
  unfold mb_counted_87
  refine PP.ite (fun c_1 => ?_) (fun c_1 => ?_)
  · skip
    exact nqj_counted_90 rc ihQ x1 x2 F G hM
  · skip
    exact nqj_counted_108 rc ihQ x1 x2 x3 F G hM
theorem nqj_counted_74 {fu : Nat} (rc : RC) (ihQ : nqI rc) {F0 : PF} (x1 : Int32) (F : PF) (G : PG) (hM : MFS F0 F) : PP (mb_counted_74 fu rc x1 F G) (fun _ F' _ => MFS F0 F') := by
  unfold mb_counted_74
  refine PP.bind (mw_isSign (29 : Int32) F G) ?_
  intro r1 F1 G1 hM1
  dsimp only
  exact nqj_counted_87 rc ihQ x1 (F 60) (-1 : Int32) r1 F1 G1 (MFS.tr hM (MFS.kx hM1 rfl rfl rfl rfl))
theorem nqj_counted_69 {fu : Nat} (rc : RC) (ihQ : nqI rc) {F0 : PF} (x1 : Int32) (z0 : Int32) (F : PF) (G : PG) (hM : MFS F0 F) : PP (mb_counted_69 fu rc x1 z0 F G) (fun _ F' _ => MFS F0 F') := by
  unfold mb_counted_69
  refine PP.ite (fun c_1 => ?_) (fun c_1 => ?_)
  · skip
    exact nqj_counted_72 rc ihQ F G hM
  · skip
    exact nqj_counted_74 rc ihQ x1 F G hM
theorem nqj_counted_63 {fu : Nat} (rc : RC) (ihQ : nqI rc) {F0 : PF} (x1 : Int32) (F : PF) (G : PG) (hM : MFS F0 F) : PP (mb_counted_63 fu rc x1 F G) (fun _ F' _ => MFS F0 F') := by
  unfold mb_counted_63
  refine PP.bind (nq_sign (29 : Int32) F G) ?_
  intro r1 F1 G1 hM1
  dsimp only
  exact nqj_counted_69 rc ihQ x1 r1 F1 G1 (MFS.tr hM hM1)
