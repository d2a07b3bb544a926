theorem mvk_function_282 {fu : Nat} {F0 : PF} {G0 : PG} (x1 : Int32) (x4 : Int32) (x5 : Int32) (F : PF) (G : PG) (hK : KX [14, 15, 42, 43, 44, 45, 47, 48, 49, 50, 51, 52, 53, 54, 55, 60, 62, 63, 64, 65, 66, 70, 72] [16, 17, 18, 19, 20, 21, 22, 23, 27, 28, 29, 30, 56, 57, 58, 59, 67, 68, 69, 71] F0 G0 F G) : PP (mb_function_282 fu x1 x4 x5 F G) (fun _ F' G' => KX [14, 15, 42, 43, 44, 45, 47, 48, 49, 50, 51, 52, 53, 54, 55, 60, 62, 63, 64, 65, 66, 70, 72] [16, 17, 18, 19, 20, 21, 22, 23, 27, 28, 29, 30, 56, 57, 58, 59, 67, 68, 69, 71] F0 G0 F' G') := by
  unfold mb_function_282
  refine PP.bind (mw_closeSign (23 : Int32) F G) ?_
  intro r1 F1 G1 hK1
  dsimp only
  unfold mb_function_288
  refine PP.ite (fun c_2 => ?_) (fun c_2 => ?_)
  · skip
    unfold mb_function_291
    refine PP.ret ?_
    exact (KX.tr hK hK1 rfl rfl)
  · skip
    unfold mb_function_293
    refine PP.ix (fun _ => ?_)
    unfold mb_function_301
    refine PP.ix (fun _ => ?_)
    unfold mb_function_311
    refine PP.bind (mw_isSign (26 : Int32) F1 (gup (gup G1 27 x1.toNatClampNeg x5) 30 x1.toNatClampNeg (F1 60))) ?_
    intro r3 F3 G3 hK3
    dsimp only
    unfold mb_function_317
    refine PP.ite (fun c_4 => ?_) (fun c_4 => ?_)
    · skip
      unfold mb_function_320
      refine PP.bind (mw_fails (2 : Int32) F3 G3) ?_
      intro r5 F5 G5 hK5
      dsimp only
      unfold mb_function_325
      refine PP.bz (fun _ => ?_)
      refine PP.ret ?_
      exact (KX.tr (KX.tr (KX.g (k := 30) rfl (KX.g (k := 27) rfl (KX.tr hK hK1 rfl rfl))) hK3 rfl rfl) hK5 rfl rfl)
    · skip
      unfold mb_function_326
      refine PP.bind (mw_block F3 G3) ?_
      intro r6 F6 G6 hK6
      dsimp only
      unfold mb_function_330
      refine PP.ite (fun c_7 => ?_) (fun c_7 => ?_)
      · skip
        unfold mb_function_333
        refine PP.ret ?_
        exact (KX.tr (KX.tr (KX.g (k := 30) rfl (KX.g (k := 27) rfl (KX.tr hK hK1 rfl rfl))) hK3 rfl rfl) hK6 rfl rfl)
      · skip
        unfold mb_function_335
        refine PP.bind (mw_step (0 : Int32) (0 : Int32) (0 : Int32) F6 G6) ?_
        intro r8 F8 G8 hK8
        dsimp only
        unfold mb_function_342
        refine PP.bind (mw_step (17 : Int32) (0 : Int32) (0 : Int32) F8 G8) ?_
        intro r9 F9 G9 hK9
        dsimp only
        unfold mb_function_351
        refine PP.ix (fun _ => ?_)
        unfold mb_function_365
        refine PP.ix (fun _ => ?_)
        unfold mb_function_375
        refine PP.bind (mw_ends (0 : Int32) F9 (gup (gup G9 28 x1.toNatClampNeg (x4 + (F9 52))) 29 x1.toNatClampNeg (F9 53))) ?_
        intro r10 F10 G10 hK10
        dsimp only
        unfold mb_function_380
        unfold mb_function_385
        refine PP.ret ?_
        exact (KX.f (k := 50) rfl (KX.tr (KX.g (k := 29) rfl (KX.g (k := 28) rfl (KX.tr (KX.tr (KX.tr (KX.tr (KX.g (k := 30) rfl (KX.g (k := 27) rfl (KX.tr hK hK1 rfl rfl))) hK3 rfl rfl) hK6 rfl rfl) hK8 rfl rfl) hK9 rfl rfl))) hK10 rfl rfl))
