/-- signs that set a place -/
def jSel (w : Nat) : Prop := w = 32 ∨ w = 12 ∨ w = 13 ∨ w = 0 ∨ w = 2 ∨ w = 3 ∨ w = 4 ∨ w = 5 ∨ w = 6 ∨ w = 7 ∨ w = 8 ∨ w = 9 ∨ w = 10 ∨ w = 11
section JW8A
variable {fu : Nat} {x4 x6 x7 x8 : Int32} {F : PF} {G : PG}
theorem si_sel32 : mb_simple_272 fu x4 x6 x7 x8 (nI 32) F G = mb_simple_343 fu x4 x6 x7 x8 (nI 32) F G := by
  unfold mb_simple_272
  rw [if_pos (show nI 32 = (32 : Int32) by decide)]
  unfold mb_simple_325
  unfold mb_simple_330
  rw [if_neg i10n]
theorem si_sel12 : mb_simple_272 fu x4 x6 x7 x8 (nI 12) F G = mb_simple_343 fu x4 x6 x7 x8 (nI 12) F G := by
  unfold mb_simple_272
  rw [if_neg (show ¬ nI 12 = (32 : Int32) by decide)]
  unfold mb_simple_281
  rw [if_pos (show nI 12 = (12 : Int32) by decide)]
  unfold mb_simple_325
  unfold mb_simple_330
  rw [if_neg i10n]
theorem si_sel13 : mb_simple_272 fu x4 x6 x7 x8 (nI 13) F G = mb_simple_343 fu x4 x6 x7 x8 (nI 13) F G := by
  unfold mb_simple_272
  rw [if_neg (show ¬ nI 13 = (32 : Int32) by decide)]
  unfold mb_simple_281
  rw [if_neg (show ¬ nI 13 = (12 : Int32) by decide)]
  unfold mb_simple_288
  rw [if_pos (show nI 13 = (13 : Int32) by decide)]
  unfold mb_simple_325
  unfold mb_simple_330
  rw [if_neg i10n]
theorem si_sel0 : mb_simple_272 fu x4 x6 x7 x8 (nI 0) F G = mb_simple_343 fu x4 x6 x7 x8 (nI 0) F G := by
  unfold mb_simple_272
  rw [if_neg (show ¬ nI 0 = (32 : Int32) by decide)]
  unfold mb_simple_281
  rw [if_neg (show ¬ nI 0 = (12 : Int32) by decide)]
  unfold mb_simple_288
  rw [if_neg (show ¬ nI 0 = (13 : Int32) by decide)]
  unfold mb_simple_295
  rw [if_pos (show nI 0 = (0 : Int32) by decide)]
  unfold mb_simple_325
  unfold mb_simple_330
  rw [if_neg i10n]
theorem si_sel2 : mb_simple_272 fu x4 x6 x7 x8 (nI 2) F G = mb_simple_343 fu x4 x6 x7 x8 (nI 2) F G := by
  unfold mb_simple_272
  rw [if_neg (show ¬ nI 2 = (32 : Int32) by decide)]
  unfold mb_simple_281
  rw [if_neg (show ¬ nI 2 = (12 : Int32) by decide)]
  unfold mb_simple_288
  rw [if_neg (show ¬ nI 2 = (13 : Int32) by decide)]
  unfold mb_simple_295
  rw [if_neg (show ¬ nI 2 = (0 : Int32) by decide)]
  unfold mb_simple_300
  rw [if_pos (show nI 2 = (2 : Int32) by decide)]
  unfold mb_simple_325
  unfold mb_simple_330
  rw [if_neg i10n]
theorem si_sel3 : mb_simple_272 fu x4 x6 x7 x8 (nI 3) F G = mb_simple_343 fu x4 x6 x7 x8 (nI 3) F G := by
  unfold mb_simple_272
  rw [if_neg (show ¬ nI 3 = (32 : Int32) by decide)]
  unfold mb_simple_281
  rw [if_neg (show ¬ nI 3 = (12 : Int32) by decide)]
  unfold mb_simple_288
  rw [if_neg (show ¬ nI 3 = (13 : Int32) by decide)]
  unfold mb_simple_295
  rw [if_neg (show ¬ nI 3 = (0 : Int32) by decide)]
  unfold mb_simple_300
  rw [if_neg (show ¬ nI 3 = (2 : Int32) by decide)]
  unfold mb_simple_306
  rw [if_pos (show nI 3 = (3 : Int32) by decide)]
  unfold mb_simple_325
  unfold mb_simple_330
  rw [if_neg i10n]
theorem si_sel4 : mb_simple_272 fu x4 x6 x7 x8 (nI 4) F G = mb_simple_343 fu x4 x6 x7 x8 (nI 4) F G := by
  unfold mb_simple_272
  rw [if_neg (show ¬ nI 4 = (32 : Int32) by decide)]
  unfold mb_simple_281
  rw [if_neg (show ¬ nI 4 = (12 : Int32) by decide)]
  unfold mb_simple_288
  rw [if_neg (show ¬ nI 4 = (13 : Int32) by decide)]
  unfold mb_simple_295
  rw [if_neg (show ¬ nI 4 = (0 : Int32) by decide)]
  unfold mb_simple_300
  rw [if_neg (show ¬ nI 4 = (2 : Int32) by decide)]
  unfold mb_simple_306
  rw [if_neg (show ¬ nI 4 = (3 : Int32) by decide)]
  unfold mb_simple_312
  rw [if_neg (show ¬ nI 4 < (4 : Int32) by decide)]
  unfold mb_simple_318
  rw [if_neg (show ¬ (12 : Int32) ≤ nI 4 by decide)]
  unfold mb_simple_325
  unfold mb_simple_330
  rw [if_neg i10n]
theorem si_sel5 : mb_simple_272 fu x4 x6 x7 x8 (nI 5) F G = mb_simple_343 fu x4 x6 x7 x8 (nI 5) F G := by
  unfold mb_simple_272
  rw [if_neg (show ¬ nI 5 = (32 : Int32) by decide)]
  unfold mb_simple_281
  rw [if_neg (show ¬ nI 5 = (12 : Int32) by decide)]
  unfold mb_simple_288
  rw [if_neg (show ¬ nI 5 = (13 : Int32) by decide)]
  unfold mb_simple_295
  rw [if_neg (show ¬ nI 5 = (0 : Int32) by decide)]
  unfold mb_simple_300
  rw [if_neg (show ¬ nI 5 = (2 : Int32) by decide)]
  unfold mb_simple_306
  rw [if_neg (show ¬ nI 5 = (3 : Int32) by decide)]
  unfold mb_simple_312
  rw [if_neg (show ¬ nI 5 < (4 : Int32) by decide)]
  unfold mb_simple_318
  rw [if_neg (show ¬ (12 : Int32) ≤ nI 5 by decide)]
  unfold mb_simple_325
  unfold mb_simple_330
  rw [if_neg i10n]
theorem si_sel6 : mb_simple_272 fu x4 x6 x7 x8 (nI 6) F G = mb_simple_343 fu x4 x6 x7 x8 (nI 6) F G := by
  unfold mb_simple_272
  rw [if_neg (show ¬ nI 6 = (32 : Int32) by decide)]
  unfold mb_simple_281
  rw [if_neg (show ¬ nI 6 = (12 : Int32) by decide)]
  unfold mb_simple_288
  rw [if_neg (show ¬ nI 6 = (13 : Int32) by decide)]
  unfold mb_simple_295
  rw [if_neg (show ¬ nI 6 = (0 : Int32) by decide)]
  unfold mb_simple_300
  rw [if_neg (show ¬ nI 6 = (2 : Int32) by decide)]
  unfold mb_simple_306
  rw [if_neg (show ¬ nI 6 = (3 : Int32) by decide)]
  unfold mb_simple_312
  rw [if_neg (show ¬ nI 6 < (4 : Int32) by decide)]
  unfold mb_simple_318
  rw [if_neg (show ¬ (12 : Int32) ≤ nI 6 by decide)]
  unfold mb_simple_325
  unfold mb_simple_330
  rw [if_neg i10n]
theorem si_sel7 : mb_simple_272 fu x4 x6 x7 x8 (nI 7) F G = mb_simple_343 fu x4 x6 x7 x8 (nI 7) F G := by
  unfold mb_simple_272
  rw [if_neg (show ¬ nI 7 = (32 : Int32) by decide)]
  unfold mb_simple_281
  rw [if_neg (show ¬ nI 7 = (12 : Int32) by decide)]
  unfold mb_simple_288
  rw [if_neg (show ¬ nI 7 = (13 : Int32) by decide)]
  unfold mb_simple_295
  rw [if_neg (show ¬ nI 7 = (0 : Int32) by decide)]
  unfold mb_simple_300
  rw [if_neg (show ¬ nI 7 = (2 : Int32) by decide)]
  unfold mb_simple_306
  rw [if_neg (show ¬ nI 7 = (3 : Int32) by decide)]
  unfold mb_simple_312
  rw [if_neg (show ¬ nI 7 < (4 : Int32) by decide)]
  unfold mb_simple_318
  rw [if_neg (show ¬ (12 : Int32) ≤ nI 7 by decide)]
  unfold mb_simple_325
  unfold mb_simple_330
  rw [if_neg i10n]
theorem si_sel8 : mb_simple_272 fu x4 x6 x7 x8 (nI 8) F G = mb_simple_343 fu x4 x6 x7 x8 (nI 8) F G := by
  unfold mb_simple_272
  rw [if_neg (show ¬ nI 8 = (32 : Int32) by decide)]
  unfold mb_simple_281
  rw [if_neg (show ¬ nI 8 = (12 : Int32) by decide)]
  unfold mb_simple_288
  rw [if_neg (show ¬ nI 8 = (13 : Int32) by decide)]
  unfold mb_simple_295
  rw [if_neg (show ¬ nI 8 = (0 : Int32) by decide)]
  unfold mb_simple_300
  rw [if_neg (show ¬ nI 8 = (2 : Int32) by decide)]
  unfold mb_simple_306
  rw [if_neg (show ¬ nI 8 = (3 : Int32) by decide)]
  unfold mb_simple_312
  rw [if_neg (show ¬ nI 8 < (4 : Int32) by decide)]
  unfold mb_simple_318
  rw [if_neg (show ¬ (12 : Int32) ≤ nI 8 by decide)]
  unfold mb_simple_325
  unfold mb_simple_330
  rw [if_neg i10n]
theorem si_sel9 : mb_simple_272 fu x4 x6 x7 x8 (nI 9) F G = mb_simple_343 fu x4 x6 x7 x8 (nI 9) F G := by
  unfold mb_simple_272
  rw [if_neg (show ¬ nI 9 = (32 : Int32) by decide)]
  unfold mb_simple_281
  rw [if_neg (show ¬ nI 9 = (12 : Int32) by decide)]
  unfold mb_simple_288
  rw [if_neg (show ¬ nI 9 = (13 : Int32) by decide)]
  unfold mb_simple_295
  rw [if_neg (show ¬ nI 9 = (0 : Int32) by decide)]
  unfold mb_simple_300
  rw [if_neg (show ¬ nI 9 = (2 : Int32) by decide)]
  unfold mb_simple_306
  rw [if_neg (show ¬ nI 9 = (3 : Int32) by decide)]
  unfold mb_simple_312
  rw [if_neg (show ¬ nI 9 < (4 : Int32) by decide)]
  unfold mb_simple_318
  rw [if_neg (show ¬ (12 : Int32) ≤ nI 9 by decide)]
  unfold mb_simple_325
  unfold mb_simple_330
  rw [if_neg i10n]
theorem si_sel10 : mb_simple_272 fu x4 x6 x7 x8 (nI 10) F G = mb_simple_343 fu x4 x6 x7 x8 (nI 10) F G := by
  unfold mb_simple_272
  rw [if_neg (show ¬ nI 10 = (32 : Int32) by decide)]
  unfold mb_simple_281
  rw [if_neg (show ¬ nI 10 = (12 : Int32) by decide)]
  unfold mb_simple_288
  rw [if_neg (show ¬ nI 10 = (13 : Int32) by decide)]
  unfold mb_simple_295
  rw [if_neg (show ¬ nI 10 = (0 : Int32) by decide)]
  unfold mb_simple_300
  rw [if_neg (show ¬ nI 10 = (2 : Int32) by decide)]
  unfold mb_simple_306
  rw [if_neg (show ¬ nI 10 = (3 : Int32) by decide)]
  unfold mb_simple_312
  rw [if_neg (show ¬ nI 10 < (4 : Int32) by decide)]
  unfold mb_simple_318
  rw [if_neg (show ¬ (12 : Int32) ≤ nI 10 by decide)]
  unfold mb_simple_325
  unfold mb_simple_330
  rw [if_neg i10n]
theorem si_sel11 : mb_simple_272 fu x4 x6 x7 x8 (nI 11) F G = mb_simple_343 fu x4 x6 x7 x8 (nI 11) F G := by
  unfold mb_simple_272
  rw [if_neg (show ¬ nI 11 = (32 : Int32) by decide)]
  unfold mb_simple_281
  rw [if_neg (show ¬ nI 11 = (12 : Int32) by decide)]
  unfold mb_simple_288
  rw [if_neg (show ¬ nI 11 = (13 : Int32) by decide)]
  unfold mb_simple_295
  rw [if_neg (show ¬ nI 11 = (0 : Int32) by decide)]
  unfold mb_simple_300
  rw [if_neg (show ¬ nI 11 = (2 : Int32) by decide)]
  unfold mb_simple_306
  rw [if_neg (show ¬ nI 11 = (3 : Int32) by decide)]
  unfold mb_simple_312
  rw [if_neg (show ¬ nI 11 < (4 : Int32) by decide)]
  unfold mb_simple_318
  rw [if_neg (show ¬ (12 : Int32) ≤ nI 11 by decide)]
  unfold mb_simple_325
  unfold mb_simple_330
  rw [if_neg i10n]
theorem si_none : mb_simple_272 fu x4 x6 x7 x8 (-1) F G = mb_simple_337 fu F G := by
  unfold mb_simple_272
  rw [if_neg (show ¬ (-1 : Int32) = (32 : Int32) by decide)]
  unfold mb_simple_281
  rw [if_neg (show ¬ (-1 : Int32) = (12 : Int32) by decide)]
  unfold mb_simple_288
  rw [if_neg (show ¬ (-1 : Int32) = (13 : Int32) by decide)]
  unfold mb_simple_295
  rw [if_neg (show ¬ (-1 : Int32) = (0 : Int32) by decide)]
  unfold mb_simple_300
  rw [if_neg (show ¬ (-1 : Int32) = (2 : Int32) by decide)]
  unfold mb_simple_306
  rw [if_neg (show ¬ (-1 : Int32) = (3 : Int32) by decide)]
  unfold mb_simple_312
  rw [if_pos (show (-1 : Int32) < (4 : Int32) by decide)]
  unfold mb_simple_329
  unfold mb_simple_330
  rw [if_pos rfl]
theorem si_op12 : mb_simple_445 fu x4 x6 x7 x8 (nI 12) F G = mb_simple_579 fu x4 x6 x7 x8 (nI 38) 10 F G := by
  unfold mb_simple_445
  rw [if_pos (show nI 12 = (12 : Int32) by decide)]
  unfold mb_simple_461
  first | done | rfl
theorem si_op13 : mb_simple_445 fu x4 x6 x7 x8 (nI 13) F G = mb_simple_579 fu x4 x6 x7 x8 (nI 39) 10 F G := by
  unfold mb_simple_445
  rw [if_neg (show ¬ nI 13 = (12 : Int32) by decide)]
  unfold mb_simple_455
  rw [if_neg (show ¬ nI 13 = (4 : Int32) by decide)]
  unfold mb_simple_466
  rw [if_pos (show nI 13 = (13 : Int32) by decide)]
  unfold mb_simple_479
  first | done | rfl
theorem si_op0 : mb_simple_445 fu x4 x6 x7 x8 (nI 0) F G = mb_simple_579 fu x4 x6 x7 x8 (nI 1) 10 F G := by
  unfold mb_simple_445
  rw [if_neg (show ¬ nI 0 = (12 : Int32) by decide)]
  unfold mb_simple_455
  rw [if_neg (show ¬ nI 0 = (4 : Int32) by decide)]
  unfold mb_simple_466
  rw [if_neg (show ¬ nI 0 = (13 : Int32) by decide)]
  unfold mb_simple_473
  rw [if_neg (show ¬ nI 0 = (5 : Int32) by decide)]
  unfold mb_simple_484
  rw [if_neg (show ¬ nI 0 = (6 : Int32) by decide)]
  unfold mb_simple_496
  rw [if_neg (show ¬ nI 0 = (7 : Int32) by decide)]
  unfold mb_simple_508
  rw [if_neg (show ¬ nI 0 = (8 : Int32) by decide)]
  unfold mb_simple_520
  rw [if_neg (show ¬ nI 0 = (9 : Int32) by decide)]
  unfold mb_simple_532
  rw [if_neg (show ¬ nI 0 = (10 : Int32) by decide)]
  unfold mb_simple_544
  rw [if_neg (show ¬ nI 0 = (11 : Int32) by decide)]
  unfold mb_simple_556
  rw [if_neg (show ¬ nI 0 = (2 : Int32) by decide)]
  unfold mb_simple_567
  rw [if_neg (show ¬ nI 0 = (3 : Int32) by decide)]
  unfold mb_simple_578
  first | done | rfl
theorem si_op2 : mb_simple_445 fu x4 x6 x7 x8 (nI 2) F G = mb_simple_579 fu x4 x6 x7 x8 (nI 20) 10 F G := by
  unfold mb_simple_445
  rw [if_neg (show ¬ nI 2 = (12 : Int32) by decide)]
  unfold mb_simple_455
  rw [if_neg (show ¬ nI 2 = (4 : Int32) by decide)]
  unfold mb_simple_466
  rw [if_neg (show ¬ nI 2 = (13 : Int32) by decide)]
  unfold mb_simple_473
  rw [if_neg (show ¬ nI 2 = (5 : Int32) by decide)]
  unfold mb_simple_484
  rw [if_neg (show ¬ nI 2 = (6 : Int32) by decide)]
  unfold mb_simple_496
  rw [if_neg (show ¬ nI 2 = (7 : Int32) by decide)]
  unfold mb_simple_508
  rw [if_neg (show ¬ nI 2 = (8 : Int32) by decide)]
  unfold mb_simple_520
  rw [if_neg (show ¬ nI 2 = (9 : Int32) by decide)]
  unfold mb_simple_532
  rw [if_neg (show ¬ nI 2 = (10 : Int32) by decide)]
  unfold mb_simple_544
  rw [if_neg (show ¬ nI 2 = (11 : Int32) by decide)]
  unfold mb_simple_556
  rw [if_pos (show nI 2 = (2 : Int32) by decide)]
  unfold mb_simple_562
  first | done | rfl
theorem si_op3 : mb_simple_445 fu x4 x6 x7 x8 (nI 3) F G = mb_simple_579 fu x4 x6 x7 x8 (nI 21) 10 F G := by
  unfold mb_simple_445
  rw [if_neg (show ¬ nI 3 = (12 : Int32) by decide)]
  unfold mb_simple_455
  rw [if_neg (show ¬ nI 3 = (4 : Int32) by decide)]
  unfold mb_simple_466
  rw [if_neg (show ¬ nI 3 = (13 : Int32) by decide)]
  unfold mb_simple_473
  rw [if_neg (show ¬ nI 3 = (5 : Int32) by decide)]
  unfold mb_simple_484
  rw [if_neg (show ¬ nI 3 = (6 : Int32) by decide)]
  unfold mb_simple_496
  rw [if_neg (show ¬ nI 3 = (7 : Int32) by decide)]
  unfold mb_simple_508
  rw [if_neg (show ¬ nI 3 = (8 : Int32) by decide)]
  unfold mb_simple_520
  rw [if_neg (show ¬ nI 3 = (9 : Int32) by decide)]
  unfold mb_simple_532
  rw [if_neg (show ¬ nI 3 = (10 : Int32) by decide)]
  unfold mb_simple_544
  rw [if_neg (show ¬ nI 3 = (11 : Int32) by decide)]
  unfold mb_simple_556
  rw [if_neg (show ¬ nI 3 = (2 : Int32) by decide)]
  unfold mb_simple_567
  rw [if_pos (show nI 3 = (3 : Int32) by decide)]
  unfold mb_simple_573
  first | done | rfl
theorem si_op4 : mb_simple_445 fu x4 x6 x7 x8 (nI 4) F G = mb_simple_579 fu x4 x6 x7 x8 (nI 38) 10 F G := by
  unfold mb_simple_445
  rw [if_neg (show ¬ nI 4 = (12 : Int32) by decide)]
  unfold mb_simple_455
  rw [if_pos (show nI 4 = (4 : Int32) by decide)]
  unfold mb_simple_461
  first | done | rfl
theorem si_op5 : mb_simple_445 fu x4 x6 x7 x8 (nI 5) F G = mb_simple_579 fu x4 x6 x7 x8 (nI 39) 10 F G := by
  unfold mb_simple_445
  rw [if_neg (show ¬ nI 5 = (12 : Int32) by decide)]
  unfold mb_simple_455
  rw [if_neg (show ¬ nI 5 = (4 : Int32) by decide)]
  unfold mb_simple_466
  rw [if_neg (show ¬ nI 5 = (13 : Int32) by decide)]
  unfold mb_simple_473
  rw [if_pos (show nI 5 = (5 : Int32) by decide)]
  unfold mb_simple_479
  first | done | rfl
theorem si_op6 : mb_simple_445 fu x4 x6 x7 x8 (nI 6) F G = mb_simple_579 fu x4 x6 x7 x8 (nI 40) 10 F G := by
  unfold mb_simple_445
  rw [if_neg (show ¬ nI 6 = (12 : Int32) by decide)]
  unfold mb_simple_455
  rw [if_neg (show ¬ nI 6 = (4 : Int32) by decide)]
  unfold mb_simple_466
  rw [if_neg (show ¬ nI 6 = (13 : Int32) by decide)]
  unfold mb_simple_473
  rw [if_neg (show ¬ nI 6 = (5 : Int32) by decide)]
  unfold mb_simple_484
  rw [if_pos (show nI 6 = (6 : Int32) by decide)]
  unfold mb_simple_491
  first | done | rfl
theorem si_op7 : mb_simple_445 fu x4 x6 x7 x8 (nI 7) F G = mb_simple_579 fu x4 x6 x7 x8 (nI 41) 10 F G := by
  unfold mb_simple_445
  rw [if_neg (show ¬ nI 7 = (12 : Int32) by decide)]
  unfold mb_simple_455
  rw [if_neg (show ¬ nI 7 = (4 : Int32) by decide)]
  unfold mb_simple_466
  rw [if_neg (show ¬ nI 7 = (13 : Int32) by decide)]
  unfold mb_simple_473
  rw [if_neg (show ¬ nI 7 = (5 : Int32) by decide)]
  unfold mb_simple_484
  rw [if_neg (show ¬ nI 7 = (6 : Int32) by decide)]
  unfold mb_simple_496
  rw [if_pos (show nI 7 = (7 : Int32) by decide)]
  unfold mb_simple_503
  first | done | rfl
theorem si_op8 : mb_simple_445 fu x4 x6 x7 x8 (nI 8) F G = mb_simple_579 fu x4 x6 x7 x8 (nI 42) 10 F G := by
  unfold mb_simple_445
  rw [if_neg (show ¬ nI 8 = (12 : Int32) by decide)]
  unfold mb_simple_455
  rw [if_neg (show ¬ nI 8 = (4 : Int32) by decide)]
  unfold mb_simple_466
  rw [if_neg (show ¬ nI 8 = (13 : Int32) by decide)]
  unfold mb_simple_473
  rw [if_neg (show ¬ nI 8 = (5 : Int32) by decide)]
  unfold mb_simple_484
  rw [if_neg (show ¬ nI 8 = (6 : Int32) by decide)]
  unfold mb_simple_496
  rw [if_neg (show ¬ nI 8 = (7 : Int32) by decide)]
  unfold mb_simple_508
  rw [if_pos (show nI 8 = (8 : Int32) by decide)]
  unfold mb_simple_515
  first | done | rfl
theorem si_op9 : mb_simple_445 fu x4 x6 x7 x8 (nI 9) F G = mb_simple_579 fu x4 x6 x7 x8 (nI 35) 10 F G := by
  unfold mb_simple_445
  rw [if_neg (show ¬ nI 9 = (12 : Int32) by decide)]
  unfold mb_simple_455
  rw [if_neg (show ¬ nI 9 = (4 : Int32) by decide)]
  unfold mb_simple_466
  rw [if_neg (show ¬ nI 9 = (13 : Int32) by decide)]
  unfold mb_simple_473
  rw [if_neg (show ¬ nI 9 = (5 : Int32) by decide)]
  unfold mb_simple_484
  rw [if_neg (show ¬ nI 9 = (6 : Int32) by decide)]
  unfold mb_simple_496
  rw [if_neg (show ¬ nI 9 = (7 : Int32) by decide)]
  unfold mb_simple_508
  rw [if_neg (show ¬ nI 9 = (8 : Int32) by decide)]
  unfold mb_simple_520
  rw [if_pos (show nI 9 = (9 : Int32) by decide)]
  unfold mb_simple_527
  first | done | rfl
theorem si_op10 : mb_simple_445 fu x4 x6 x7 x8 (nI 10) F G = mb_simple_579 fu x4 x6 x7 x8 (nI 33) 10 F G := by
  unfold mb_simple_445
  rw [if_neg (show ¬ nI 10 = (12 : Int32) by decide)]
  unfold mb_simple_455
  rw [if_neg (show ¬ nI 10 = (4 : Int32) by decide)]
  unfold mb_simple_466
  rw [if_neg (show ¬ nI 10 = (13 : Int32) by decide)]
  unfold mb_simple_473
  rw [if_neg (show ¬ nI 10 = (5 : Int32) by decide)]
  unfold mb_simple_484
  rw [if_neg (show ¬ nI 10 = (6 : Int32) by decide)]
  unfold mb_simple_496
  rw [if_neg (show ¬ nI 10 = (7 : Int32) by decide)]
  unfold mb_simple_508
  rw [if_neg (show ¬ nI 10 = (8 : Int32) by decide)]
  unfold mb_simple_520
  rw [if_neg (show ¬ nI 10 = (9 : Int32) by decide)]
  unfold mb_simple_532
  rw [if_pos (show nI 10 = (10 : Int32) by decide)]
  unfold mb_simple_539
  first | done | rfl
theorem si_op11 : mb_simple_445 fu x4 x6 x7 x8 (nI 11) F G = mb_simple_579 fu x4 x6 x7 x8 (nI 34) 10 F G := by
  unfold mb_simple_445
  rw [if_neg (show ¬ nI 11 = (12 : Int32) by decide)]
  unfold mb_simple_455
  rw [if_neg (show ¬ nI 11 = (4 : Int32) by decide)]
  unfold mb_simple_466
  rw [if_neg (show ¬ nI 11 = (13 : Int32) by decide)]
  unfold mb_simple_473
  rw [if_neg (show ¬ nI 11 = (5 : Int32) by decide)]
  unfold mb_simple_484
  rw [if_neg (show ¬ nI 11 = (6 : Int32) by decide)]
  unfold mb_simple_496
  rw [if_neg (show ¬ nI 11 = (7 : Int32) by decide)]
  unfold mb_simple_508
  rw [if_neg (show ¬ nI 11 = (8 : Int32) by decide)]
  unfold mb_simple_520
  rw [if_neg (show ¬ nI 11 = (9 : Int32) by decide)]
  unfold mb_simple_532
  rw [if_neg (show ¬ nI 11 = (10 : Int32) by decide)]
  unfold mb_simple_544
  rw [if_pos (show nI 11 = (11 : Int32) by decide)]
  unfold mb_simple_551
  first | done | rfl
end JW8A
section JW8B
variable {fu : Nat} {x4 x6 x7 x8 : Int32} {F : PF} {G : PG}
theorem si_not1 : mb_simple_272 fu x4 x6 x7 x8 (nI 1) F G = mb_simple_337 fu F G := by
  unfold mb_simple_272
  rw [if_neg (show ¬ nI 1 = (32 : Int32) by decide)]
  unfold mb_simple_281
  rw [if_neg (show ¬ nI 1 = (12 : Int32) by decide)]
  unfold mb_simple_288
  rw [if_neg (show ¬ nI 1 = (13 : Int32) by decide)]
  unfold mb_simple_295
  rw [if_neg (show ¬ nI 1 = (0 : Int32) by decide)]
  unfold mb_simple_300
  rw [if_neg (show ¬ nI 1 = (2 : Int32) by decide)]
  unfold mb_simple_306
  rw [if_neg (show ¬ nI 1 = (3 : Int32) by decide)]
  unfold mb_simple_312
  rw [if_pos (show nI 1 < (4 : Int32) by decide)]
  unfold mb_simple_329
  unfold mb_simple_330
  rw [if_pos rfl]
theorem si_not14 : mb_simple_272 fu x4 x6 x7 x8 (nI 14) F G = mb_simple_337 fu F G := by
  unfold mb_simple_272
  rw [if_neg (show ¬ nI 14 = (32 : Int32) by decide)]
  unfold mb_simple_281
  rw [if_neg (show ¬ nI 14 = (12 : Int32) by decide)]
  unfold mb_simple_288
  rw [if_neg (show ¬ nI 14 = (13 : Int32) by decide)]
  unfold mb_simple_295
  rw [if_neg (show ¬ nI 14 = (0 : Int32) by decide)]
  unfold mb_simple_300
  rw [if_neg (show ¬ nI 14 = (2 : Int32) by decide)]
  unfold mb_simple_306
  rw [if_neg (show ¬ nI 14 = (3 : Int32) by decide)]
  unfold mb_simple_312
  rw [if_neg (show ¬ nI 14 < (4 : Int32) by decide)]
  unfold mb_simple_318
  rw [if_pos (show (12 : Int32) ≤ nI 14 by decide)]
  unfold mb_simple_329
  unfold mb_simple_330
  rw [if_pos rfl]
theorem si_not15 : mb_simple_272 fu x4 x6 x7 x8 (nI 15) F G = mb_simple_337 fu F G := by
  unfold mb_simple_272
  rw [if_neg (show ¬ nI 15 = (32 : Int32) by decide)]
  unfold mb_simple_281
  rw [if_neg (show ¬ nI 15 = (12 : Int32) by decide)]
  unfold mb_simple_288
  rw [if_neg (show ¬ nI 15 = (13 : Int32) by decide)]
  unfold mb_simple_295
  rw [if_neg (show ¬ nI 15 = (0 : Int32) by decide)]
  unfold mb_simple_300
  rw [if_neg (show ¬ nI 15 = (2 : Int32) by decide)]
  unfold mb_simple_306
  rw [if_neg (show ¬ nI 15 = (3 : Int32) by decide)]
  unfold mb_simple_312
  rw [if_neg (show ¬ nI 15 < (4 : Int32) by decide)]
  unfold mb_simple_318
  rw [if_pos (show (12 : Int32) ≤ nI 15 by decide)]
  unfold mb_simple_329
  unfold mb_simple_330
  rw [if_pos rfl]
theorem si_not16 : mb_simple_272 fu x4 x6 x7 x8 (nI 16) F G = mb_simple_337 fu F G := by
  unfold mb_simple_272
  rw [if_neg (show ¬ nI 16 = (32 : Int32) by decide)]
  unfold mb_simple_281
  rw [if_neg (show ¬ nI 16 = (12 : Int32) by decide)]
  unfold mb_simple_288
  rw [if_neg (show ¬ nI 16 = (13 : Int32) by decide)]
  unfold mb_simple_295
  rw [if_neg (show ¬ nI 16 = (0 : Int32) by decide)]
  unfold mb_simple_300
  rw [if_neg (show ¬ nI 16 = (2 : Int32) by decide)]
  unfold mb_simple_306
  rw [if_neg (show ¬ nI 16 = (3 : Int32) by decide)]
  unfold mb_simple_312
  rw [if_neg (show ¬ nI 16 < (4 : Int32) by decide)]
  unfold mb_simple_318
  rw [if_pos (show (12 : Int32) ≤ nI 16 by decide)]
  unfold mb_simple_329
  unfold mb_simple_330
  rw [if_pos rfl]
theorem si_not17 : mb_simple_272 fu x4 x6 x7 x8 (nI 17) F G = mb_simple_337 fu F G := by
  unfold mb_simple_272
  rw [if_neg (show ¬ nI 17 = (32 : Int32) by decide)]
  unfold mb_simple_281
  rw [if_neg (show ¬ nI 17 = (12 : Int32) by decide)]
  unfold mb_simple_288
  rw [if_neg (show ¬ nI 17 = (13 : Int32) by decide)]
  unfold mb_simple_295
  rw [if_neg (show ¬ nI 17 = (0 : Int32) by decide)]
  unfold mb_simple_300
  rw [if_neg (show ¬ nI 17 = (2 : Int32) by decide)]
  unfold mb_simple_306
  rw [if_neg (show ¬ nI 17 = (3 : Int32) by decide)]
  unfold mb_simple_312
  rw [if_neg (show ¬ nI 17 < (4 : Int32) by decide)]
  unfold mb_simple_318
  rw [if_pos (show (12 : Int32) ≤ nI 17 by decide)]
  unfold mb_simple_329
  unfold mb_simple_330
  rw [if_pos rfl]
theorem si_not18 : mb_simple_272 fu x4 x6 x7 x8 (nI 18) F G = mb_simple_337 fu F G := by
  unfold mb_simple_272
  rw [if_neg (show ¬ nI 18 = (32 : Int32) by decide)]
  unfold mb_simple_281
  rw [if_neg (show ¬ nI 18 = (12 : Int32) by decide)]
  unfold mb_simple_288
  rw [if_neg (show ¬ nI 18 = (13 : Int32) by decide)]
  unfold mb_simple_295
  rw [if_neg (show ¬ nI 18 = (0 : Int32) by decide)]
  unfold mb_simple_300
  rw [if_neg (show ¬ nI 18 = (2 : Int32) by decide)]
  unfold mb_simple_306
  rw [if_neg (show ¬ nI 18 = (3 : Int32) by decide)]
  unfold mb_simple_312
  rw [if_neg (show ¬ nI 18 < (4 : Int32) by decide)]
  unfold mb_simple_318
  rw [if_pos (show (12 : Int32) ≤ nI 18 by decide)]
  unfold mb_simple_329
  unfold mb_simple_330
  rw [if_pos rfl]
theorem si_not19 : mb_simple_272 fu x4 x6 x7 x8 (nI 19) F G = mb_simple_337 fu F G := by
  unfold mb_simple_272
  rw [if_neg (show ¬ nI 19 = (32 : Int32) by decide)]
  unfold mb_simple_281
  rw [if_neg (show ¬ nI 19 = (12 : Int32) by decide)]
  unfold mb_simple_288
  rw [if_neg (show ¬ nI 19 = (13 : Int32) by decide)]
  unfold mb_simple_295
  rw [if_neg (show ¬ nI 19 = (0 : Int32) by decide)]
  unfold mb_simple_300
  rw [if_neg (show ¬ nI 19 = (2 : Int32) by decide)]
  unfold mb_simple_306
  rw [if_neg (show ¬ nI 19 = (3 : Int32) by decide)]
  unfold mb_simple_312
  rw [if_neg (show ¬ nI 19 < (4 : Int32) by decide)]
  unfold mb_simple_318
  rw [if_pos (show (12 : Int32) ≤ nI 19 by decide)]
  unfold mb_simple_329
  unfold mb_simple_330
  rw [if_pos rfl]
theorem si_not20 : mb_simple_272 fu x4 x6 x7 x8 (nI 20) F G = mb_simple_337 fu F G := by
  unfold mb_simple_272
  rw [if_neg (show ¬ nI 20 = (32 : Int32) by decide)]
  unfold mb_simple_281
  rw [if_neg (show ¬ nI 20 = (12 : Int32) by decide)]
  unfold mb_simple_288
  rw [if_neg (show ¬ nI 20 = (13 : Int32) by decide)]
  unfold mb_simple_295
  rw [if_neg (show ¬ nI 20 = (0 : Int32) by decide)]
  unfold mb_simple_300
  rw [if_neg (show ¬ nI 20 = (2 : Int32) by decide)]
  unfold mb_simple_306
  rw [if_neg (show ¬ nI 20 = (3 : Int32) by decide)]
  unfold mb_simple_312
  rw [if_neg (show ¬ nI 20 < (4 : Int32) by decide)]
  unfold mb_simple_318
  rw [if_pos (show (12 : Int32) ≤ nI 20 by decide)]
  unfold mb_simple_329
  unfold mb_simple_330
  rw [if_pos rfl]
theorem si_not21 : mb_simple_272 fu x4 x6 x7 x8 (nI 21) F G = mb_simple_337 fu F G := by
  unfold mb_simple_272
  rw [if_neg (show ¬ nI 21 = (32 : Int32) by decide)]
  unfold mb_simple_281
  rw [if_neg (show ¬ nI 21 = (12 : Int32) by decide)]
  unfold mb_simple_288
  rw [if_neg (show ¬ nI 21 = (13 : Int32) by decide)]
  unfold mb_simple_295
  rw [if_neg (show ¬ nI 21 = (0 : Int32) by decide)]
  unfold mb_simple_300
  rw [if_neg (show ¬ nI 21 = (2 : Int32) by decide)]
  unfold mb_simple_306
  rw [if_neg (show ¬ nI 21 = (3 : Int32) by decide)]
  unfold mb_simple_312
  rw [if_neg (show ¬ nI 21 < (4 : Int32) by decide)]
  unfold mb_simple_318
  rw [if_pos (show (12 : Int32) ≤ nI 21 by decide)]
  unfold mb_simple_329
  unfold mb_simple_330
  rw [if_pos rfl]
theorem si_not22 : mb_simple_272 fu x4 x6 x7 x8 (nI 22) F G = mb_simple_337 fu F G := by
  unfold mb_simple_272
  rw [if_neg (show ¬ nI 22 = (32 : Int32) by decide)]
  unfold mb_simple_281
  rw [if_neg (show ¬ nI 22 = (12 : Int32) by decide)]
  unfold mb_simple_288
  rw [if_neg (show ¬ nI 22 = (13 : Int32) by decide)]
  unfold mb_simple_295
  rw [if_neg (show ¬ nI 22 = (0 : Int32) by decide)]
  unfold mb_simple_300
  rw [if_neg (show ¬ nI 22 = (2 : Int32) by decide)]
  unfold mb_simple_306
  rw [if_neg (show ¬ nI 22 = (3 : Int32) by decide)]
  unfold mb_simple_312
  rw [if_neg (show ¬ nI 22 < (4 : Int32) by decide)]
  unfold mb_simple_318
  rw [if_pos (show (12 : Int32) ≤ nI 22 by decide)]
  unfold mb_simple_329
  unfold mb_simple_330
  rw [if_pos rfl]
theorem si_not23 : mb_simple_272 fu x4 x6 x7 x8 (nI 23) F G = mb_simple_337 fu F G := by
  unfold mb_simple_272
  rw [if_neg (show ¬ nI 23 = (32 : Int32) by decide)]
  unfold mb_simple_281
  rw [if_neg (show ¬ nI 23 = (12 : Int32) by decide)]
  unfold mb_simple_288
  rw [if_neg (show ¬ nI 23 = (13 : Int32) by decide)]
  unfold mb_simple_295
  rw [if_neg (show ¬ nI 23 = (0 : Int32) by decide)]
  unfold mb_simple_300
  rw [if_neg (show ¬ nI 23 = (2 : Int32) by decide)]
  unfold mb_simple_306
  rw [if_neg (show ¬ nI 23 = (3 : Int32) by decide)]
  unfold mb_simple_312
  rw [if_neg (show ¬ nI 23 < (4 : Int32) by decide)]
  unfold mb_simple_318
  rw [if_pos (show (12 : Int32) ≤ nI 23 by decide)]
  unfold mb_simple_329
  unfold mb_simple_330
  rw [if_pos rfl]
theorem si_not24 : mb_simple_272 fu x4 x6 x7 x8 (nI 24) F G = mb_simple_337 fu F G := by
  unfold mb_simple_272
  rw [if_neg (show ¬ nI 24 = (32 : Int32) by decide)]
  unfold mb_simple_281
  rw [if_neg (show ¬ nI 24 = (12 : Int32) by decide)]
  unfold mb_simple_288
  rw [if_neg (show ¬ nI 24 = (13 : Int32) by decide)]
  unfold mb_simple_295
  rw [if_neg (show ¬ nI 24 = (0 : Int32) by decide)]
  unfold mb_simple_300
  rw [if_neg (show ¬ nI 24 = (2 : Int32) by decide)]
  unfold mb_simple_306
  rw [if_neg (show ¬ nI 24 = (3 : Int32) by decide)]
  unfold mb_simple_312
  rw [if_neg (show ¬ nI 24 < (4 : Int32) by decide)]
  unfold mb_simple_318
  rw [if_pos (show (12 : Int32) ≤ nI 24 by decide)]
  unfold mb_simple_329
  unfold mb_simple_330
  rw [if_pos rfl]
theorem si_not25 : mb_simple_272 fu x4 x6 x7 x8 (nI 25) F G = mb_simple_337 fu F G := by
  unfold mb_simple_272
  rw [if_neg (show ¬ nI 25 = (32 : Int32) by decide)]
  unfold mb_simple_281
  rw [if_neg (show ¬ nI 25 = (12 : Int32) by decide)]
  unfold mb_simple_288
  rw [if_neg (show ¬ nI 25 = (13 : Int32) by decide)]
  unfold mb_simple_295
  rw [if_neg (show ¬ nI 25 = (0 : Int32) by decide)]
  unfold mb_simple_300
  rw [if_neg (show ¬ nI 25 = (2 : Int32) by decide)]
  unfold mb_simple_306
  rw [if_neg (show ¬ nI 25 = (3 : Int32) by decide)]
  unfold mb_simple_312
  rw [if_neg (show ¬ nI 25 < (4 : Int32) by decide)]
  unfold mb_simple_318
  rw [if_pos (show (12 : Int32) ≤ nI 25 by decide)]
  unfold mb_simple_329
  unfold mb_simple_330
  rw [if_pos rfl]
theorem si_not26 : mb_simple_272 fu x4 x6 x7 x8 (nI 26) F G = mb_simple_337 fu F G := by
  unfold mb_simple_272
  rw [if_neg (show ¬ nI 26 = (32 : Int32) by decide)]
  unfold mb_simple_281
  rw [if_neg (show ¬ nI 26 = (12 : Int32) by decide)]
  unfold mb_simple_288
  rw [if_neg (show ¬ nI 26 = (13 : Int32) by decide)]
  unfold mb_simple_295
  rw [if_neg (show ¬ nI 26 = (0 : Int32) by decide)]
  unfold mb_simple_300
  rw [if_neg (show ¬ nI 26 = (2 : Int32) by decide)]
  unfold mb_simple_306
  rw [if_neg (show ¬ nI 26 = (3 : Int32) by decide)]
  unfold mb_simple_312
  rw [if_neg (show ¬ nI 26 < (4 : Int32) by decide)]
  unfold mb_simple_318
  rw [if_pos (show (12 : Int32) ≤ nI 26 by decide)]
  unfold mb_simple_329
  unfold mb_simple_330
  rw [if_pos rfl]
theorem si_not27 : mb_simple_272 fu x4 x6 x7 x8 (nI 27) F G = mb_simple_337 fu F G := by
  unfold mb_simple_272
  rw [if_neg (show ¬ nI 27 = (32 : Int32) by decide)]
  unfold mb_simple_281
  rw [if_neg (show ¬ nI 27 = (12 : Int32) by decide)]
  unfold mb_simple_288
  rw [if_neg (show ¬ nI 27 = (13 : Int32) by decide)]
  unfold mb_simple_295
  rw [if_neg (show ¬ nI 27 = (0 : Int32) by decide)]
  unfold mb_simple_300
  rw [if_neg (show ¬ nI 27 = (2 : Int32) by decide)]
  unfold mb_simple_306
  rw [if_neg (show ¬ nI 27 = (3 : Int32) by decide)]
  unfold mb_simple_312
  rw [if_neg (show ¬ nI 27 < (4 : Int32) by decide)]
  unfold mb_simple_318
  rw [if_pos (show (12 : Int32) ≤ nI 27 by decide)]
  unfold mb_simple_329
  unfold mb_simple_330
  rw [if_pos rfl]
theorem si_not28 : mb_simple_272 fu x4 x6 x7 x8 (nI 28) F G = mb_simple_337 fu F G := by
  unfold mb_simple_272
  rw [if_neg (show ¬ nI 28 = (32 : Int32) by decide)]
  unfold mb_simple_281
  rw [if_neg (show ¬ nI 28 = (12 : Int32) by decide)]
  unfold mb_simple_288
  rw [if_neg (show ¬ nI 28 = (13 : Int32) by decide)]
  unfold mb_simple_295
  rw [if_neg (show ¬ nI 28 = (0 : Int32) by decide)]
  unfold mb_simple_300
  rw [if_neg (show ¬ nI 28 = (2 : Int32) by decide)]
  unfold mb_simple_306
  rw [if_neg (show ¬ nI 28 = (3 : Int32) by decide)]
  unfold mb_simple_312
  rw [if_neg (show ¬ nI 28 < (4 : Int32) by decide)]
  unfold mb_simple_318
  rw [if_pos (show (12 : Int32) ≤ nI 28 by decide)]
  unfold mb_simple_329
  unfold mb_simple_330
  rw [if_pos rfl]
theorem si_not29 : mb_simple_272 fu x4 x6 x7 x8 (nI 29) F G = mb_simple_337 fu F G := by
  unfold mb_simple_272
  rw [if_neg (show ¬ nI 29 = (32 : Int32) by decide)]
  unfold mb_simple_281
  rw [if_neg (show ¬ nI 29 = (12 : Int32) by decide)]
  unfold mb_simple_288
  rw [if_neg (show ¬ nI 29 = (13 : Int32) by decide)]
  unfold mb_simple_295
  rw [if_neg (show ¬ nI 29 = (0 : Int32) by decide)]
  unfold mb_simple_300
  rw [if_neg (show ¬ nI 29 = (2 : Int32) by decide)]
  unfold mb_simple_306
  rw [if_neg (show ¬ nI 29 = (3 : Int32) by decide)]
  unfold mb_simple_312
  rw [if_neg (show ¬ nI 29 < (4 : Int32) by decide)]
  unfold mb_simple_318
  rw [if_pos (show (12 : Int32) ≤ nI 29 by decide)]
  unfold mb_simple_329
  unfold mb_simple_330
  rw [if_pos rfl]
theorem si_not30 : mb_simple_272 fu x4 x6 x7 x8 (nI 30) F G = mb_simple_337 fu F G := by
  unfold mb_simple_272
  rw [if_neg (show ¬ nI 30 = (32 : Int32) by decide)]
  unfold mb_simple_281
  rw [if_neg (show ¬ nI 30 = (12 : Int32) by decide)]
  unfold mb_simple_288
  rw [if_neg (show ¬ nI 30 = (13 : Int32) by decide)]
  unfold mb_simple_295
  rw [if_neg (show ¬ nI 30 = (0 : Int32) by decide)]
  unfold mb_simple_300
  rw [if_neg (show ¬ nI 30 = (2 : Int32) by decide)]
  unfold mb_simple_306
  rw [if_neg (show ¬ nI 30 = (3 : Int32) by decide)]
  unfold mb_simple_312
  rw [if_neg (show ¬ nI 30 < (4 : Int32) by decide)]
  unfold mb_simple_318
  rw [if_pos (show (12 : Int32) ≤ nI 30 by decide)]
  unfold mb_simple_329
  unfold mb_simple_330
  rw [if_pos rfl]
theorem si_not31 : mb_simple_272 fu x4 x6 x7 x8 (nI 31) F G = mb_simple_337 fu F G := by
  unfold mb_simple_272
  rw [if_neg (show ¬ nI 31 = (32 : Int32) by decide)]
  unfold mb_simple_281
  rw [if_neg (show ¬ nI 31 = (12 : Int32) by decide)]
  unfold mb_simple_288
  rw [if_neg (show ¬ nI 31 = (13 : Int32) by decide)]
  unfold mb_simple_295
  rw [if_neg (show ¬ nI 31 = (0 : Int32) by decide)]
  unfold mb_simple_300
  rw [if_neg (show ¬ nI 31 = (2 : Int32) by decide)]
  unfold mb_simple_306
  rw [if_neg (show ¬ nI 31 = (3 : Int32) by decide)]
  unfold mb_simple_312
  rw [if_neg (show ¬ nI 31 < (4 : Int32) by decide)]
  unfold mb_simple_318
  rw [if_pos (show (12 : Int32) ≤ nI 31 by decide)]
  unfold mb_simple_329
  unfold mb_simple_330
  rw [if_pos rfl]
theorem si_not33 : mb_simple_272 fu x4 x6 x7 x8 (nI 33) F G = mb_simple_337 fu F G := by
  unfold mb_simple_272
  rw [if_neg (show ¬ nI 33 = (32 : Int32) by decide)]
  unfold mb_simple_281
  rw [if_neg (show ¬ nI 33 = (12 : Int32) by decide)]
  unfold mb_simple_288
  rw [if_neg (show ¬ nI 33 = (13 : Int32) by decide)]
  unfold mb_simple_295
  rw [if_neg (show ¬ nI 33 = (0 : Int32) by decide)]
  unfold mb_simple_300
  rw [if_neg (show ¬ nI 33 = (2 : Int32) by decide)]
  unfold mb_simple_306
  rw [if_neg (show ¬ nI 33 = (3 : Int32) by decide)]
  unfold mb_simple_312
  rw [if_neg (show ¬ nI 33 < (4 : Int32) by decide)]
  unfold mb_simple_318
  rw [if_pos (show (12 : Int32) ≤ nI 33 by decide)]
  unfold mb_simple_329
  unfold mb_simple_330
  rw [if_pos rfl]
theorem si_not34 : mb_simple_272 fu x4 x6 x7 x8 (nI 34) F G = mb_simple_337 fu F G := by
  unfold mb_simple_272
  rw [if_neg (show ¬ nI 34 = (32 : Int32) by decide)]
  unfold mb_simple_281
  rw [if_neg (show ¬ nI 34 = (12 : Int32) by decide)]
  unfold mb_simple_288
  rw [if_neg (show ¬ nI 34 = (13 : Int32) by decide)]
  unfold mb_simple_295
  rw [if_neg (show ¬ nI 34 = (0 : Int32) by decide)]
  unfold mb_simple_300
  rw [if_neg (show ¬ nI 34 = (2 : Int32) by decide)]
  unfold mb_simple_306
  rw [if_neg (show ¬ nI 34 = (3 : Int32) by decide)]
  unfold mb_simple_312
  rw [if_neg (show ¬ nI 34 < (4 : Int32) by decide)]
  unfold mb_simple_318
  rw [if_pos (show (12 : Int32) ≤ nI 34 by decide)]
  unfold mb_simple_329
  unfold mb_simple_330
  rw [if_pos rfl]
theorem si_not35 : mb_simple_272 fu x4 x6 x7 x8 (nI 35) F G = mb_simple_337 fu F G := by
  unfold mb_simple_272
  rw [if_neg (show ¬ nI 35 = (32 : Int32) by decide)]
  unfold mb_simple_281
  rw [if_neg (show ¬ nI 35 = (12 : Int32) by decide)]
  unfold mb_simple_288
  rw [if_neg (show ¬ nI 35 = (13 : Int32) by decide)]
  unfold mb_simple_295
  rw [if_neg (show ¬ nI 35 = (0 : Int32) by decide)]
  unfold mb_simple_300
  rw [if_neg (show ¬ nI 35 = (2 : Int32) by decide)]
  unfold mb_simple_306
  rw [if_neg (show ¬ nI 35 = (3 : Int32) by decide)]
  unfold mb_simple_312
  rw [if_neg (show ¬ nI 35 < (4 : Int32) by decide)]
  unfold mb_simple_318
  rw [if_pos (show (12 : Int32) ≤ nI 35 by decide)]
  unfold mb_simple_329
  unfold mb_simple_330
  rw [if_pos rfl]
theorem si_not36 : mb_simple_272 fu x4 x6 x7 x8 (nI 36) F G = mb_simple_337 fu F G := by
  unfold mb_simple_272
  rw [if_neg (show ¬ nI 36 = (32 : Int32) by decide)]
  unfold mb_simple_281
  rw [if_neg (show ¬ nI 36 = (12 : Int32) by decide)]
  unfold mb_simple_288
  rw [if_neg (show ¬ nI 36 = (13 : Int32) by decide)]
  unfold mb_simple_295
  rw [if_neg (show ¬ nI 36 = (0 : Int32) by decide)]
  unfold mb_simple_300
  rw [if_neg (show ¬ nI 36 = (2 : Int32) by decide)]
  unfold mb_simple_306
  rw [if_neg (show ¬ nI 36 = (3 : Int32) by decide)]
  unfold mb_simple_312
  rw [if_neg (show ¬ nI 36 < (4 : Int32) by decide)]
  unfold mb_simple_318
  rw [if_pos (show (12 : Int32) ≤ nI 36 by decide)]
  unfold mb_simple_329
  unfold mb_simple_330
  rw [if_pos rfl]
theorem si_not37 : mb_simple_272 fu x4 x6 x7 x8 (nI 37) F G = mb_simple_337 fu F G := by
  unfold mb_simple_272
  rw [if_neg (show ¬ nI 37 = (32 : Int32) by decide)]
  unfold mb_simple_281
  rw [if_neg (show ¬ nI 37 = (12 : Int32) by decide)]
  unfold mb_simple_288
  rw [if_neg (show ¬ nI 37 = (13 : Int32) by decide)]
  unfold mb_simple_295
  rw [if_neg (show ¬ nI 37 = (0 : Int32) by decide)]
  unfold mb_simple_300
  rw [if_neg (show ¬ nI 37 = (2 : Int32) by decide)]
  unfold mb_simple_306
  rw [if_neg (show ¬ nI 37 = (3 : Int32) by decide)]
  unfold mb_simple_312
  rw [if_neg (show ¬ nI 37 < (4 : Int32) by decide)]
  unfold mb_simple_318
  rw [if_pos (show (12 : Int32) ≤ nI 37 by decide)]
  unfold mb_simple_329
  unfold mb_simple_330
  rw [if_pos rfl]
theorem si_not38 : mb_simple_272 fu x4 x6 x7 x8 (nI 38) F G = mb_simple_337 fu F G := by
  unfold mb_simple_272
  rw [if_neg (show ¬ nI 38 = (32 : Int32) by decide)]
  unfold mb_simple_281
  rw [if_neg (show ¬ nI 38 = (12 : Int32) by decide)]
  unfold mb_simple_288
  rw [if_neg (show ¬ nI 38 = (13 : Int32) by decide)]
  unfold mb_simple_295
  rw [if_neg (show ¬ nI 38 = (0 : Int32) by decide)]
  unfold mb_simple_300
  rw [if_neg (show ¬ nI 38 = (2 : Int32) by decide)]
  unfold mb_simple_306
  rw [if_neg (show ¬ nI 38 = (3 : Int32) by decide)]
  unfold mb_simple_312
  rw [if_neg (show ¬ nI 38 < (4 : Int32) by decide)]
  unfold mb_simple_318
  rw [if_pos (show (12 : Int32) ≤ nI 38 by decide)]
  unfold mb_simple_329
  unfold mb_simple_330
  rw [if_pos rfl]
theorem si_not39 : mb_simple_272 fu x4 x6 x7 x8 (nI 39) F G = mb_simple_337 fu F G := by
  unfold mb_simple_272
  rw [if_neg (show ¬ nI 39 = (32 : Int32) by decide)]
  unfold mb_simple_281
  rw [if_neg (show ¬ nI 39 = (12 : Int32) by decide)]
  unfold mb_simple_288
  rw [if_neg (show ¬ nI 39 = (13 : Int32) by decide)]
  unfold mb_simple_295
  rw [if_neg (show ¬ nI 39 = (0 : Int32) by decide)]
  unfold mb_simple_300
  rw [if_neg (show ¬ nI 39 = (2 : Int32) by decide)]
  unfold mb_simple_306
  rw [if_neg (show ¬ nI 39 = (3 : Int32) by decide)]
  unfold mb_simple_312
  rw [if_neg (show ¬ nI 39 < (4 : Int32) by decide)]
  unfold mb_simple_318
  rw [if_pos (show (12 : Int32) ≤ nI 39 by decide)]
  unfold mb_simple_329
  unfold mb_simple_330
  rw [if_pos rfl]
theorem si_not40 : mb_simple_272 fu x4 x6 x7 x8 (nI 40) F G = mb_simple_337 fu F G := by
  unfold mb_simple_272
  rw [if_neg (show ¬ nI 40 = (32 : Int32) by decide)]
  unfold mb_simple_281
  rw [if_neg (show ¬ nI 40 = (12 : Int32) by decide)]
  unfold mb_simple_288
  rw [if_neg (show ¬ nI 40 = (13 : Int32) by decide)]
  unfold mb_simple_295
  rw [if_neg (show ¬ nI 40 = (0 : Int32) by decide)]
  unfold mb_simple_300
  rw [if_neg (show ¬ nI 40 = (2 : Int32) by decide)]
  unfold mb_simple_306
  rw [if_neg (show ¬ nI 40 = (3 : Int32) by decide)]
  unfold mb_simple_312
  rw [if_neg (show ¬ nI 40 < (4 : Int32) by decide)]
  unfold mb_simple_318
  rw [if_pos (show (12 : Int32) ≤ nI 40 by decide)]
  unfold mb_simple_329
  unfold mb_simple_330
  rw [if_pos rfl]
theorem si_not41 : mb_simple_272 fu x4 x6 x7 x8 (nI 41) F G = mb_simple_337 fu F G := by
  unfold mb_simple_272
  rw [if_neg (show ¬ nI 41 = (32 : Int32) by decide)]
  unfold mb_simple_281
  rw [if_neg (show ¬ nI 41 = (12 : Int32) by decide)]
  unfold mb_simple_288
  rw [if_neg (show ¬ nI 41 = (13 : Int32) by decide)]
  unfold mb_simple_295
  rw [if_neg (show ¬ nI 41 = (0 : Int32) by decide)]
  unfold mb_simple_300
  rw [if_neg (show ¬ nI 41 = (2 : Int32) by decide)]
  unfold mb_simple_306
  rw [if_neg (show ¬ nI 41 = (3 : Int32) by decide)]
  unfold mb_simple_312
  rw [if_neg (show ¬ nI 41 < (4 : Int32) by decide)]
  unfold mb_simple_318
  rw [if_pos (show (12 : Int32) ≤ nI 41 by decide)]
  unfold mb_simple_329
  unfold mb_simple_330
  rw [if_pos rfl]
theorem si_not42 : mb_simple_272 fu x4 x6 x7 x8 (nI 42) F G = mb_simple_337 fu F G := by
  unfold mb_simple_272
  rw [if_neg (show ¬ nI 42 = (32 : Int32) by decide)]
  unfold mb_simple_281
  rw [if_neg (show ¬ nI 42 = (12 : Int32) by decide)]
  unfold mb_simple_288
  rw [if_neg (show ¬ nI 42 = (13 : Int32) by decide)]
  unfold mb_simple_295
  rw [if_neg (show ¬ nI 42 = (0 : Int32) by decide)]
  unfold mb_simple_300
  rw [if_neg (show ¬ nI 42 = (2 : Int32) by decide)]
  unfold mb_simple_306
  rw [if_neg (show ¬ nI 42 = (3 : Int32) by decide)]
  unfold mb_simple_312
  rw [if_neg (show ¬ nI 42 < (4 : Int32) by decide)]
  unfold mb_simple_318
  rw [if_pos (show (12 : Int32) ≤ nI 42 by decide)]
  unfold mb_simple_329
  unfold mb_simple_330
  rw [if_pos rfl]
theorem si_not43 : mb_simple_272 fu x4 x6 x7 x8 (nI 43) F G = mb_simple_337 fu F G := by
  unfold mb_simple_272
  rw [if_neg (show ¬ nI 43 = (32 : Int32) by decide)]
  unfold mb_simple_281
  rw [if_neg (show ¬ nI 43 = (12 : Int32) by decide)]
  unfold mb_simple_288
  rw [if_neg (show ¬ nI 43 = (13 : Int32) by decide)]
  unfold mb_simple_295
  rw [if_neg (show ¬ nI 43 = (0 : Int32) by decide)]
  unfold mb_simple_300
  rw [if_neg (show ¬ nI 43 = (2 : Int32) by decide)]
  unfold mb_simple_306
  rw [if_neg (show ¬ nI 43 = (3 : Int32) by decide)]
  unfold mb_simple_312
  rw [if_neg (show ¬ nI 43 < (4 : Int32) by decide)]
  unfold mb_simple_318
  rw [if_pos (show (12 : Int32) ≤ nI 43 by decide)]
  unfold mb_simple_329
  unfold mb_simple_330
  rw [if_pos rfl]
theorem si_not44 : mb_simple_272 fu x4 x6 x7 x8 (nI 44) F G = mb_simple_337 fu F G := by
  unfold mb_simple_272
  rw [if_neg (show ¬ nI 44 = (32 : Int32) by decide)]
  unfold mb_simple_281
  rw [if_neg (show ¬ nI 44 = (12 : Int32) by decide)]
  unfold mb_simple_288
  rw [if_neg (show ¬ nI 44 = (13 : Int32) by decide)]
  unfold mb_simple_295
  rw [if_neg (show ¬ nI 44 = (0 : Int32) by decide)]
  unfold mb_simple_300
  rw [if_neg (show ¬ nI 44 = (2 : Int32) by decide)]
  unfold mb_simple_306
  rw [if_neg (show ¬ nI 44 = (3 : Int32) by decide)]
  unfold mb_simple_312
  rw [if_neg (show ¬ nI 44 < (4 : Int32) by decide)]
  unfold mb_simple_318
  rw [if_pos (show (12 : Int32) ≤ nI 44 by decide)]
  unfold mb_simple_329
  unfold mb_simple_330
  rw [if_pos rfl]
end JW8B
theorem si_sel {fu : Nat} {x4 x6 x7 x8 : Int32} {F : PF} {G : PG} {w : Nat} (h : jSel w) : mb_simple_272 fu x4 x6 x7 x8 (nI w) F G = mb_simple_343 fu x4 x6 x7 x8 (nI w) F G := by
  rcases h with rfl | rfl | rfl | rfl | rfl | rfl | rfl | rfl | rfl | rfl | rfl | rfl | rfl | rfl
  · exact si_sel32
  · exact si_sel12
  · exact si_sel13
  · exact si_sel0
  · exact si_sel2
  · exact si_sel3
  · exact si_sel4
  · exact si_sel5
  · exact si_sel6
  · exact si_sel7
  · exact si_sel8
  · exact si_sel9
  · exact si_sel10
  · exact si_sel11
theorem si_op {fu : Nat} {x4 x6 x7 x8 : Int32} {F : PF} {G : PG} {w : Nat} (h : jSel w) (h1 : ¬ w = 32) : ∃ o : Nat, jBin o ∧ (tb_5 (kS w - 30).toNatClampNeg = kS o ∧ (kS w - 30).toInt < 13 ∧ 0 ≤ (kS w - 30).toInt) ∧ mb_simple_445 fu x4 x6 x7 x8 (nI w) F G = mb_simple_579 fu x4 x6 x7 x8 (nI o) 10 F G := by
  rcases h with rfl | rfl | rfl | rfl | rfl | rfl | rfl | rfl | rfl | rfl | rfl | rfl | rfl | rfl
  · exact absurd rfl h1
  · exact ⟨38, ⟨by decide, by decide +kernel⟩, by decide +kernel, si_op12⟩
  · exact ⟨39, ⟨by decide, by decide +kernel⟩, by decide +kernel, si_op13⟩
  · exact ⟨1, ⟨by decide, by decide +kernel⟩, by decide +kernel, si_op0⟩
  · exact ⟨20, ⟨by decide, by decide +kernel⟩, by decide +kernel, si_op2⟩
  · exact ⟨21, ⟨by decide, by decide +kernel⟩, by decide +kernel, si_op3⟩
  · exact ⟨38, ⟨by decide, by decide +kernel⟩, by decide +kernel, si_op4⟩
  · exact ⟨39, ⟨by decide, by decide +kernel⟩, by decide +kernel, si_op5⟩
  · exact ⟨40, ⟨by decide, by decide +kernel⟩, by decide +kernel, si_op6⟩
  · exact ⟨41, ⟨by decide, by decide +kernel⟩, by decide +kernel, si_op7⟩
  · exact ⟨42, ⟨by decide, by decide +kernel⟩, by decide +kernel, si_op8⟩
  · exact ⟨35, ⟨by decide, by decide +kernel⟩, by decide +kernel, si_op9⟩
  · exact ⟨33, ⟨by decide, by decide +kernel⟩, by decide +kernel, si_op10⟩
  · exact ⟨34, ⟨by decide, by decide +kernel⟩, by decide +kernel, si_op11⟩
theorem si_not {fu : Nat} {x4 x6 x7 x8 : Int32} {F : PF} {G : PG} {w : Nat} (h : ¬ jSel w) (h1 : w < 45) : mb_simple_272 fu x4 x6 x7 x8 (nI w) F G = mb_simple_337 fu F G := by
  have q : w = 1 ∨ w = 14 ∨ w = 15 ∨ w = 16 ∨ w = 17 ∨ w = 18 ∨ w = 19 ∨ w = 20 ∨ w = 21 ∨ w = 22 ∨ w = 23 ∨ w = 24 ∨ w = 25 ∨ w = 26 ∨ w = 27 ∨ w = 28 ∨ w = 29 ∨ w = 30 ∨ w = 31 ∨ w = 33 ∨ w = 34 ∨ w = 35 ∨ w = 36 ∨ w = 37 ∨ w = 38 ∨ w = 39 ∨ w = 40 ∨ w = 41 ∨ w = 42 ∨ w = 43 ∨ w = 44 := by
    unfold jSel at h
    omega
  rcases q with rfl | rfl | rfl | rfl | rfl | rfl | rfl | rfl | rfl | rfl | rfl | rfl | rfl | rfl | rfl | rfl | rfl | rfl | rfl | rfl | rfl | rfl | rfl | rfl | rfl | rfl | rfl | rfl | rfl | rfl | rfl
  · exact si_not1
  · exact si_not14
  · exact si_not15
  · exact si_not16
  · exact si_not17
  · exact si_not18
  · exact si_not19
  · exact si_not20
  · exact si_not21
  · exact si_not22
  · exact si_not23
  · exact si_not24
  · exact si_not25
  · exact si_not26
  · exact si_not27
  · exact si_not28
  · exact si_not29
  · exact si_not30
  · exact si_not31
  · exact si_not33
  · exact si_not34
  · exact si_not35
  · exact si_not36
  · exact si_not37
  · exact si_not38
  · exact si_not39
  · exact si_not40
  · exact si_not41
  · exact si_not42
  · exact si_not43
  · exact si_not44
theorem si_cls1 : ∀ w : Nat, w < 45 → jSel w → 29 ≤ (kS w).toInt ∧ (kS w).toInt ≤ 42 := by
  unfold jSel
  decide +kernel
theorem si_cls2 : ∀ w : Nat, w < 45 → (kS w).toInt < 29 ∨ 42 < (kS w).toInt ∨ jSel w := by
  unfold jSel
  decide +kernel
theorem si_cls (w : Nat) (h : w < 45) : (jSel w → 29 ≤ (kS w).toInt ∧ (kS w).toInt ≤ 42) ∧ (¬ jSel w → (kS w).toInt < 29 ∨ 42 < (kS w).toInt) := by
  refine ⟨si_cls1 w h, fun z => ?_⟩
  rcases si_cls2 w h with y | y | y
  · exact .inl y
  · exact .inr y
  · exact absurd y z
theorem si_len : ∀ w : Nat, w < 45 → jSel w → ¬ w = 32 → 2 ≤ sgl w := by
  unfold jSel
  decide +kernel
theorem si_one1 : ∀ w : Nat, w < 45 → jSel w → ((w = 12 ∨ w = 13) ↔ 41 ≤ (kS w).toInt) := by
  unfold jSel
  decide +kernel
theorem si_one2 : ∀ w : Nat, w < 45 → (w = 32 ↔ kS w = 29) ∧ (nI w = 12 ↔ w = 12) := by
  decide +kernel
theorem si_one3 : ∀ w : Nat, w < 45 → (nI w = 13 ↔ w = 13) ∧ (nI w = 32 ↔ w = 32) := by
  decide +kernel
theorem si_one (w : Nat) (h : w < 45) (k : jSel w) : ((w = 12 ∨ w = 13) ↔ 41 ≤ (kS w).toInt) ∧ (w = 32 ↔ kS w = 29) ∧ (nI w = 12 ↔ w = 12) ∧ (nI w = 13 ↔ w = 13) ∧ (nI w = 32 ↔ w = 32) := ⟨si_one1 w h k, (si_one2 w h).1, (si_one2 w h).2, (si_one3 w h).1, (si_one3 w h).2⟩
