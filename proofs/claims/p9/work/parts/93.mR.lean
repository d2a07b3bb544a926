theorem mr_formalHere {fu : Nat} {K V : Nat → Int32} (x1 : Int32) (F : PF) (G : PG) (g4 : G 4 = K) (g5 : G 5 = V) (h44 : F 44 = 0) : PP (mf_formalHere fu x1 F G) (fun r' F' _ => ROKV (rformal K V (F 42) (F 43)) F r' F') := by
  unfold mf_formalHere
  unfold mb_formalHere_0
  refine PP.bind (mp_isWord (1 : Int32) F G) ?_
  rintro _ _ _ ⟨rfl, rfl, (⟨rfl, u1⟩ | ⟨rfl, u1⟩)⟩
  · dsimp only
    have h_2 : wdn K V (F 42) (1 : Int32) = true := by
      rw [← g4, ← g5]
      have q := u1
      first | exact q | (simp only [i_as] at q; exact q)
    unfold mb_formalHere_5
    refine PP.ite (fun c_3 => absurd c_3 (by decide)) (fun _ => ?_)
    exact mrj_formalHere_26 (F0 := F) (R0 := (rformal K V (F 42) (F 43))) x1 (1 : Int32) F G g4 g5 (Or.inl ⟨rfl, h44, (by first | with_reducible rfl | (simp only [i_as, fup, Nat.reduceEqDiff, reduceIte, if_false]) | rfl), ((rfl : (rformal K V (F 42) (F 43)) = _).trans (by first | with_reducible rfl | (simp only [rformal, rform2, rsq, rclose, h_2, i_as, fup, i_a0, i0m, i10, eq_self, rb_yes, rb_no, ryes, rno, if_true, if_false, f_tt (p := True), reduceIte, Nat.reduceEqDiff]) | rfl))⟩)
  · dsimp only
    have h_4 : wdn K V (F 42) (1 : Int32) = false := by
      rw [← g4, ← g5]
      have q := u1
      first | exact q | (simp only [i_as] at q; exact q)
    unfold mb_formalHere_5
    refine PP.ite (fun _ => ?_) (fun c_5 => absurd (by decide) c_5)
    unfold mb_formalHere_10
    refine PP.bind (mp_isWord (0 : Int32) F G) ?_
    rintro _ _ _ ⟨rfl, rfl, (⟨rfl, u6⟩ | ⟨rfl, u6⟩)⟩
    · dsimp only
      have h_7 : wdn K V (F 42) (0 : Int32) = true := by
        rw [← g4, ← g5]
        have q := u6
        first | exact q | (simp only [i_as] at q; exact q)
      unfold mb_formalHere_15
      refine PP.ite (fun c_8 => absurd c_8 (by decide)) (fun _ => ?_)
      exact mrj_formalHere_26 (F0 := F) (R0 := (rformal K V (F 42) (F 43))) x1 (0 : Int32) F G g4 g5 (Or.inr ⟨rfl, h44, (by first | with_reducible rfl | (simp only [i_as, fup, Nat.reduceEqDiff, reduceIte, if_false]) | rfl), ((rfl : (rformal K V (F 42) (F 43)) = _).trans (by first | with_reducible rfl | (simp only [rformal, rform2, rsq, rclose, h_4, h_7, i_as, fup, i_a0, i0m, i10, eq_self, rb_yes, rb_no, ryes, rno, if_true, if_false, f_tt (p := True), reduceIte, Nat.reduceEqDiff]) | rfl))⟩)
    · dsimp only
      have h_9 : wdn K V (F 42) (0 : Int32) = false := by
        rw [← g4, ← g5]
        have q := u6
        first | exact q | (simp only [i_as] at q; exact q)
      unfold mb_formalHere_15
      refine PP.ite (fun _ => ?_) (fun c_10 => absurd (by decide) c_10)
      unfold mb_formalHere_18
      refine PP.bind (mp_fails (2 : Int32) (by decide) F G) ?_
      rintro r11 F11 G11 ⟨rfl, u11⟩
      dsimp only
      have g_12 : G11 4 = K := Eq.trans (u11.2.2.2 4 rfl) g4
      have g_13 : G11 5 = V := Eq.trans (u11.2.2.2 5 rfl) g5
      have q_14 : F11 42 = (F 42) := u11.2.2.1 42 rfl
      have q_15 : F11 43 = (F 43) := u11.2.2.1 43 rfl
      unfold mb_formalHere_23
      refine PP.ret ?_
      refine Or.inr ⟨trivial, u11.1, (rfl : (rformal K V (F 42) (F 43)) = _).trans ?_⟩
      first | with_reducible rfl | (simp only [rformal, rform2, rsq, rclose, h_4, h_9, q_14, q_15, i_as, fup, i_a0, i0m, i10, eq_self, rb_yes, rb_no, ryes, rno, if_true, if_false, f_tt (p := True), reduceIte, Nat.reduceEqDiff]) | rfl
theorem mrj_function_282 {fu : Nat} {K V : Nat → Int32} {F0 : PF} {R0 : OR} (x1 : Int32) (x4 : Int32) (x5 : Int32) (F : PF) (G : PG) (g4 : G 4 = K) (g5 : G 5 = V) (hA : (F 44 = 0 ∧ F 43 = ((F0 43) + (1 : Int32)) ∧ R0 = rfend K V fu (F 42) (F 43))) : PP (mb_function_282 fu x1 x4 x5 F G) (fun r' F' _ => ROK R0 F0 r' F') := by
  rcases hA with ⟨h44, h43, hR⟩
  · skip
    unfold mb_function_282
    refine PP.bind (mp_closeSign (23 : Int32) F G) ?_
    rintro r1 F1 G1 (⟨rfl, rfl, rfl, u1⟩ | ⟨rfl, u1, u1b⟩)
    · dsimp only
      have h_2 : sgn K V (F 42) (23 : Int32) = true := by
        rw [← g4, ← g5]
        have q := u1.1
        first | exact q | (simp only [h43, i_as] at q; exact q)
      unfold mb_function_288
      refine PP.ite (fun c_3 => absurd c_3 (by decide)) (fun _ => ?_)
      unfold mb_function_293
      refine PP.ix (fun _ => ?_)
      unfold mb_function_301
      refine PP.ix (fun _ => ?_)
      unfold mb_function_311
      refine PP.bind (mp_isSign (26 : Int32) (fup (fup F 42 ((F 42) + (1 : Int32))) 43 ((F 43) - (1 : Int32))) (gup (gup G 27 x1.toNatClampNeg x5) 30 x1.toNatClampNeg (F 60))) ?_
      rintro _ _ _ ⟨rfl, rfl, (⟨rfl, u4⟩ | ⟨rfl, u4⟩)⟩
      · dsimp only
        have h_5 : sgn K V ((F 42) + (1 : Int32)) (26 : Int32) = true := by
          rw [← g4, ← g5]
          have q := u4
          first | exact q | (simp only [h43, i_as] at q; exact q) | (simp only [h43, i_as, fup, Nat.reduceEqDiff, reduceIte, if_false] at q; exact q)
        unfold mb_function_317
        refine PP.ite (fun c_6 => absurd c_6 (by decide)) (fun _ => ?_)
        unfold mb_function_326
        refine PP.bind (PP.and (mw_block (fup (fup F 42 ((F 42) + (1 : Int32))) 43 ((F 43) - (1 : Int32))) (gup (gup G 27 x1.toNatClampNeg x5) 30 x1.toNatClampNeg (F 60))) (mr_block (fup (fup F 42 ((F 42) + (1 : Int32))) 43 ((F 43) - (1 : Int32))) (gup (gup G 27 x1.toNatClampNeg x5) 30 x1.toNatClampNeg (F 60)) g4 g5 (show (fup (fup F 42 ((F 42) + (1 : Int32))) 43 ((F 43) - (1 : Int32))) 44 = 0 from h44))) ?_
        rintro r7 F7 G7 ⟨hK7, (⟨rfl, u7a, u7b, u7⟩ | ⟨rfl, u7a, u7⟩)⟩
        · dsimp only
          have g_8 : G7 4 = K := Eq.trans (hK7.2 4 rfl) g4
          have g_9 : G7 5 = V := Eq.trans (hK7.2 5 rfl) g5
          have h_10 : rS2 K V fu 300 0 ((F 42) + (1 : Int32)) (F0 43) = some (some (F7 42)) := by
            have q : rS2 K V fu 300 0 ((F 42) + (1 : Int32)) ((F 43) - (1 : Int32)) = some (some (F7 42)) := u7
            simp only [h43, i_as] at q; exact q
          have q_11 : F7 43 = (F0 43) := by
            have q := (show F7 43 = ((F 43) - (1 : Int32)) from u7b)
            simp only [h43, i_as] at q; exact q
          unfold mb_function_330
          refine PP.ite (fun c_12 => absurd c_12 (by decide)) (fun _ => ?_)
          unfold mb_function_335
          refine PP.bind (mw_step (0 : Int32) (0 : Int32) (0 : Int32) F7 G7) ?_
          intro r13 F13 G13 hK13
          dsimp only
          have g_14 : G13 4 = K := Eq.trans (hK13.2 4 rfl) g_8
          have g_15 : G13 5 = V := Eq.trans (hK13.2 5 rfl) g_9
          have q_16 : F13 42 = (F7 42) := hK13.1 42 rfl
          have q_17 : F13 43 = (F0 43) := Eq.trans (hK13.1 43 rfl) (show (F7 43) = (F0 43) by simp only [q_11, i_as])
          have q_18 : F13 44 = 0 := Eq.trans (hK13.1 44 rfl) u7a
          unfold mb_function_342
          refine PP.bind (mw_step (17 : Int32) (0 : Int32) (0 : Int32) F13 G13) ?_
          intro r19 F19 G19 hK19
          dsimp only
          have g_20 : G19 4 = K := Eq.trans (hK19.2 4 rfl) g_14
          have g_21 : G19 5 = V := Eq.trans (hK19.2 5 rfl) g_15
          have q_22 : F19 42 = (F7 42) := Eq.trans (hK19.1 42 rfl) (show (F13 42) = (F7 42) by simp only [q_16, q_17, i_as])
          have q_23 : F19 43 = (F0 43) := Eq.trans (hK19.1 43 rfl) (show (F13 43) = (F0 43) by simp only [q_16, q_17, i_as])
          have q_24 : F19 44 = 0 := Eq.trans (hK19.1 44 rfl) q_18
          unfold mb_function_351
          refine PP.ix (fun _ => ?_)
          unfold mb_function_365
          refine PP.ix (fun _ => ?_)
          unfold mb_function_375
          refine PP.bind (mw_ends (0 : Int32) F19 (gup (gup G19 28 x1.toNatClampNeg (x4 + (F19 52))) 29 x1.toNatClampNeg (F19 53))) ?_
          intro r25 F25 G25 hK25
          dsimp only
          have g_26 : G25 4 = K := Eq.trans (hK25.2 4 rfl) g_20
          have g_27 : G25 5 = V := Eq.trans (hK25.2 5 rfl) g_21
          have q_28 : F25 42 = (F7 42) := Eq.trans (hK25.1 42 rfl) (show (F19 42) = (F7 42) by simp only [q_22, q_23, i_as])
          have q_29 : F25 43 = (F0 43) := Eq.trans (hK25.1 43 rfl) (show (F19 43) = (F0 43) by simp only [q_22, q_23, i_as])
          have q_30 : F25 44 = 0 := Eq.trans (hK25.1 44 rfl) q_24
          unfold mb_function_380
          unfold mb_function_385
          refine PP.ret ?_
          refine Or.inl ⟨rfl, q_30, ?_, hR.trans ?_⟩
          · show (F25 43) = F0 43
            first | with_reducible rfl | (simp only [h43, q_11, q_16, q_17, q_22, q_23, q_28, q_29, i_as, fup, Nat.reduceEqDiff, reduceIte, if_false]) | rfl
          · show _ = some (some (F25 42))
            first | with_reducible rfl | (simp only [rfunction, rl_formals, rfend, h_2, h_5, h_10, h43, q_11, q_16, q_17, q_22, q_23, q_28, q_29, i_as, fup, i_a0, i0m, i10, eq_self, rb_yes, rb_no, ryes, rno, if_true, if_false, f_tt (p := True), reduceIte, Nat.reduceEqDiff]) | rfl
        · dsimp only
          have g_31 : G7 4 = K := Eq.trans (hK7.2 4 rfl) g4
          have g_32 : G7 5 = V := Eq.trans (hK7.2 5 rfl) g5
          have h_33 : rS2 K V fu 300 0 ((F 42) + (1 : Int32)) (F0 43) = some (none) := by
            have q : rS2 K V fu 300 0 ((F 42) + (1 : Int32)) ((F 43) - (1 : Int32)) = some (none) := u7
            simp only [h43, i_as] at q; exact q
          unfold mb_function_330
          refine PP.ite (fun _ => ?_) (fun c_34 => absurd (by decide) c_34)
          unfold mb_function_333
          refine PP.ret ?_
          refine Or.inr ⟨rfl, u7a, hR.trans ?_⟩
          first | with_reducible rfl | (simp only [rfunction, rl_formals, rfend, h_2, h_5, h_33, h43, i_as, fup, i_a0, i0m, i10, eq_self, rb_yes, rb_no, ryes, rno, if_true, if_false, f_tt (p := True), reduceIte, Nat.reduceEqDiff]) | rfl
      · dsimp only
        have h_35 : sgn K V ((F 42) + (1 : Int32)) (26 : Int32) = false := by
          rw [← g4, ← g5]
          have q := u4
          first | exact q | (simp only [h43, i_as] at q; exact q) | (simp only [h43, i_as, fup, Nat.reduceEqDiff, reduceIte, if_false] at q; exact q)
        unfold mb_function_317
        refine PP.ite (fun _ => ?_) (fun c_36 => absurd (by decide) c_36)
        unfold mb_function_320
        refine PP.bind (mp_fails (2 : Int32) (by decide) (fup (fup F 42 ((F 42) + (1 : Int32))) 43 ((F 43) - (1 : Int32))) (gup (gup G 27 x1.toNatClampNeg x5) 30 x1.toNatClampNeg (F 60))) ?_
        rintro r37 F37 G37 ⟨rfl, u37⟩
        dsimp only
        have g_38 : G37 4 = K := Eq.trans (u37.2.2.2 4 rfl) g4
        have g_39 : G37 5 = V := Eq.trans (u37.2.2.2 5 rfl) g5
        have q_40 : F37 42 = ((F 42) + (1 : Int32)) := u37.2.2.1 42 rfl
        have q_41 : F37 43 = (F0 43) := Eq.trans (u37.2.2.1 43 rfl) (show ((F 43) - (1 : Int32)) = (F0 43) by simp only [h43, i_as])
        unfold mb_function_325
        refine PP.ret ?_
        refine Or.inr ⟨rfl, u37.1, hR.trans ?_⟩
        first | with_reducible rfl | (simp only [rfunction, rl_formals, rfend, h_2, h_35, h43, q_40, q_41, i_as, fup, i_a0, i0m, i10, eq_self, rb_yes, rb_no, ryes, rno, if_true, if_false, f_tt (p := True), reduceIte, Nat.reduceEqDiff]) | rfl
    · dsimp only
      have g_42 : G1 4 = K := Eq.trans (u1.2.2.2 4 rfl) g4
      have g_43 : G1 5 = V := Eq.trans (u1.2.2.2 5 rfl) g5
      have q_44 : F1 42 = (F 42) := u1.2.2.1 42 rfl
      have q_45 : F1 43 = ((F0 43) + (1 : Int32)) := Eq.trans (u1.2.2.1 43 rfl) (show (F 43) = ((F0 43) + (1 : Int32)) by simp only [h43, i_as])
      rcases u1b with q | q
      · exact absurd q (show ¬ 0 < (F 44).toInt by rw [h44]; decide)
      · skip
        have h_46 : sgn K V (F 42) (23 : Int32) = false := by
          rw [← g4, ← g5]
          have q := q
          first | exact q | (simp only [h43, i_as] at q; exact q)
        unfold mb_function_288
        refine PP.ite (fun _ => ?_) (fun c_47 => absurd (by decide) c_47)
        unfold mb_function_291
        refine PP.ret ?_
        refine Or.inr ⟨rfl, u1.1, hR.trans ?_⟩
        first | with_reducible rfl | (simp only [rfunction, rl_formals, rfend, h_46, h43, q_44, q_45, i_as, fup, i_a0, i0m, i10, eq_self, rb_yes, rb_no, ryes, rno, if_true, if_false, f_tt (p := True), reduceIte, Nat.reduceEqDiff]) | rfl
theorem mrj_function_234 {fu : Nat} {K V : Nat → Int32} {F0 : PF} {R0 : OR} {n177 : Nat} (ag_177 : Int32 → Int32 → Int32 → Int32 → PF → PG → PR) (hag_177 : ∀ (x1 : Int32) (x4 : Int32) (x5 : Int32) (x6 : Int32) (F : PF) (G : PG) (g4 : G 4 = K) (g5 : G 5 = V) (hA : (x6 = 1 ∧ F 44 = 0 ∧ F 43 = ((F0 43) + (1 : Int32)) ∧ R0 = rl_formals K V fu (F 43) n177 (F 42)) ∨ (x6 = 0 ∧ F 44 = 0 ∧ F 43 = ((F0 43) + (1 : Int32)) ∧ R0 = rfend K V fu (F 42) (F 43))), PP (ag_177 x1 x4 x5 x6 F G) (fun r' F' _ => ROK R0 F0 r' F')) (x1 : Int32) (x4 : Int32) (x5 : Int32) (x7 : Int32) (F : PF) (G : PG) (g4 : G 4 = K) (g5 : G 5 = V) (hA : (F 44 = 0 ∧ F 43 = ((F0 43) + (1 : Int32)) ∧ R0 = (if sgn K V (F 42) 28 = true then rl_formals K V fu (F 43) n177 ((F 42) + 1) else rfend K V fu (F 42) (F 43)))) : PP (mb_function_234 fu ag_177 x1 x4 x5 x7 F G) (fun r' F' _ => ROK R0 F0 r' F') := by
  rcases hA with ⟨h44, h43, hR⟩
  · skip
    unfold mb_function_234
    refine PP.ite (fun c_1 => ?_) (fun c_1 => ?_)
    · skip
      unfold mb_function_241
      unfold mb_function_246
      refine PP.bind (mp_isSign (28 : Int32) F G) ?_
      rintro _ _ _ ⟨rfl, rfl, (⟨rfl, u2⟩ | ⟨rfl, u2⟩)⟩
      · dsimp only
        have h_3 : sgn K V (F 42) (28 : Int32) = true := by
          rw [← g4, ← g5]
          have q := u2
          first | exact q | (simp only [h43, i_as] at q; exact q)
        unfold mb_function_258
        refine PP.ite (fun c_4 => absurd c_4 (by decide)) (fun _ => ?_)
        unfold mb_function_270
        unfold mb_function_275
        unfold mb_function_279
        exact hag_177 x1 (x4 + (1 : Int32)) (x5 + (1 : Int32)) (1 : Int32) (fup F 42 ((F 42) + (1 : Int32))) G g4 g5 (Or.inl ⟨rfl, h44, (by first | with_reducible rfl | (simp only [h43, i_as, fup, Nat.reduceEqDiff, reduceIte, if_false]) | rfl), (hR.trans (by first | with_reducible rfl | (simp only [rfunction, rl_formals, rfend, h_3, h43, i_as, fup, i_a0, i0m, i10, eq_self, rb_yes, rb_no, ryes, rno, if_true, if_false, f_tt (p := True), reduceIte, Nat.reduceEqDiff]) | rfl))⟩)
      · dsimp only
        have h_5 : sgn K V (F 42) (28 : Int32) = false := by
          rw [← g4, ← g5]
          have q := u2
          first | exact q | (simp only [h43, i_as] at q; exact q)
        unfold mb_function_258
        refine PP.ite (fun _ => ?_) (fun c_6 => absurd (by decide) c_6)
        unfold mb_function_274
        unfold mb_function_275
        unfold mb_function_279
        exact hag_177 x1 (x4 + (1 : Int32)) (x5 + (1 : Int32)) (0 : Int32) (fup F 42 ((F 42) + (0 : Int32))) G g4 g5 (Or.inr ⟨rfl, h44, (by first | with_reducible rfl | (simp only [h43, i_as, fup, Nat.reduceEqDiff, reduceIte, if_false]) | rfl), (hR.trans (by first | with_reducible rfl | (simp only [rfunction, rl_formals, rfend, h_5, h43, i_as, fup, i_a0, i0m, i10, eq_self, rb_yes, rb_no, ryes, rno, if_true, if_false, f_tt (p := True), reduceIte, Nat.reduceEqDiff]) | rfl))⟩)
    · skip
      unfold mb_function_245
      unfold mb_function_246
      refine PP.bind (mp_isSign (28 : Int32) F G) ?_
      rintro _ _ _ ⟨rfl, rfl, (⟨rfl, u7⟩ | ⟨rfl, u7⟩)⟩
      · dsimp only
        have h_8 : sgn K V (F 42) (28 : Int32) = true := by
          rw [← g4, ← g5]
          have q := u7
          first | exact q | (simp only [h43, i_as] at q; exact q)
        unfold mb_function_258
        refine PP.ite (fun c_9 => absurd c_9 (by decide)) (fun _ => ?_)
        unfold mb_function_270
        unfold mb_function_275
        unfold mb_function_279
        exact hag_177 x1 (x4 + (2 : Int32)) (x5 + (1 : Int32)) (1 : Int32) (fup F 42 ((F 42) + (1 : Int32))) G g4 g5 (Or.inl ⟨rfl, h44, (by first | with_reducible rfl | (simp only [h43, i_as, fup, Nat.reduceEqDiff, reduceIte, if_false]) | rfl), (hR.trans (by first | with_reducible rfl | (simp only [rfunction, rl_formals, rfend, h_8, h43, i_as, fup, i_a0, i0m, i10, eq_self, rb_yes, rb_no, ryes, rno, if_true, if_false, f_tt (p := True), reduceIte, Nat.reduceEqDiff]) | rfl))⟩)
      · dsimp only
        have h_10 : sgn K V (F 42) (28 : Int32) = false := by
          rw [← g4, ← g5]
          have q := u7
          first | exact q | (simp only [h43, i_as] at q; exact q)
        unfold mb_function_258
        refine PP.ite (fun _ => ?_) (fun c_11 => absurd (by decide) c_11)
        unfold mb_function_274
        unfold mb_function_275
        unfold mb_function_279
        exact hag_177 x1 (x4 + (2 : Int32)) (x5 + (1 : Int32)) (0 : Int32) (fup F 42 ((F 42) + (0 : Int32))) G g4 g5 (Or.inr ⟨rfl, h44, (by first | with_reducible rfl | (simp only [h43, i_as, fup, Nat.reduceEqDiff, reduceIte, if_false]) | rfl), (hR.trans (by first | with_reducible rfl | (simp only [rfunction, rl_formals, rfend, h_10, h43, i_as, fup, i_a0, i0m, i10, eq_self, rb_yes, rb_no, ryes, rno, if_true, if_false, f_tt (p := True), reduceIte, Nat.reduceEqDiff]) | rfl))⟩)
theorem mrz_function_177 {fu : Nat} {K V : Nat → Int32} {F0 : PF} {R0 : OR} : ∀ (n : Nat) (x1 : Int32) (x4 : Int32) (x5 : Int32) (x6 : Int32) (F : PF) (G : PG) (g4 : G 4 = K) (g5 : G 5 = V) (hA : (x6 = 1 ∧ F 44 = 0 ∧ F 43 = ((F0 43) + (1 : Int32)) ∧ R0 = rl_formals K V fu (F 43) n (F 42)) ∨ (x6 = 0 ∧ F 44 = 0 ∧ F 43 = ((F0 43) + (1 : Int32)) ∧ R0 = rfend K V fu (F 42) (F 43))), PP (ml_function_177 fu n x1 x4 x5 x6 F G) (fun r' F' _ => ROK R0 F0 r' F') := by
  intro n
  induction n with
  | zero =>
    intro x1 x4 x5 x6 F G g4 g5 hA
    exact PP.no
  | succ n ihn =>
    intro x1 x4 x5 x6 F G g4 g5 hA
    show PP (mb_function_177 fu (ml_function_177 fu n) x1 x4 x5 x6 F G) _
    rcases hA with ⟨rfl, h44, h43, hR⟩ | ⟨rfl, h44, h43, hR⟩
    · skip
      unfold mb_function_177
      refine PP.ite (fun c_1 => absurd c_1 (by decide)) (fun _ => ?_)
      unfold mb_function_182
      refine PP.ite (fun c_2 => ?_) (fun c_2 => ?_)
      · skip
        unfold mb_function_189
        refine PP.bind (PP.and (mw_formalHere x5 F G) (mr_formalHere x5 F G g4 g5 (show F 44 = 0 from h44))) ?_
        rintro r3 F3 G3 ⟨hK3, (⟨-, u3a, u3b, u3⟩ | ⟨-, u3a, u3⟩)⟩
        · dsimp only
          have g_4 : G3 4 = K := Eq.trans (hK3.2 4 rfl) g4
          have g_5 : G3 5 = V := Eq.trans (hK3.2 5 rfl) g5
          have h_6 : rformal K V (F 42) ((F0 43) + (1 : Int32)) = some (some (F3 42)) := by
            have q : rformal K V (F 42) (F 43) = some (some (F3 42)) := u3
            simp only [h43, i_as] at q; exact q
          have q_7 : F3 43 = ((F0 43) + (1 : Int32)) := by
            have q := (show F3 43 = (F 43) from u3b)
            simp only [h43, i_as] at q; exact q
          unfold mb_function_195
          refine PP.ite (fun c_8 => ?_) (fun c_8 => ?_)
          · skip
            unfold mb_function_206
            refine PP.ite (fun c_9 => ?_) (fun c_9 => ?_)
            · skip
              unfold mb_function_213
              refine PP.ix (fun _ => ?_)
              unfold mb_function_224
              exact mrj_function_234 (F0 := F0) (R0 := R0) (n177 := n) (ml_function_177 fu n) ihn x1 x4 x5 r3 (fup F3 35 ((F3 35) + (1 : Int32))) (gup G3 34 (F3 35).toNatClampNeg r3) g_4 g_5 ⟨u3a, (by first | with_reducible rfl | (simp only [h43, q_7, i_as, fup, Nat.reduceEqDiff, reduceIte, if_false]) | rfl), (hR.trans (by first | with_reducible rfl | (simp only [rfunction, rl_formals, rfend, h_6, h43, q_7, i_as, fup, i_a0, i0m, i10, eq_self, rb_yes, rb_no, ryes, rno, if_true, if_false, f_tt (p := True), reduceIte, Nat.reduceEqDiff]) | rfl))⟩
            · skip
              exact mrj_function_234 (F0 := F0) (R0 := R0) (n177 := n) (ml_function_177 fu n) ihn x1 x4 x5 r3 F3 G3 g_4 g_5 ⟨u3a, (by first | with_reducible rfl | (simp only [h43, q_7, i_as, fup, Nat.reduceEqDiff, reduceIte, if_false]) | rfl), (hR.trans (by first | with_reducible rfl | (simp only [rfunction, rl_formals, rfend, h_6, h43, q_7, i_as, fup, i_a0, i0m, i10, eq_self, rb_yes, rb_no, ryes, rno, if_true, if_false, f_tt (p := True), reduceIte, Nat.reduceEqDiff]) | rfl))⟩
          · skip
            exact absurd (i_npos (show ¬ ((F3 44) ≤ (0 : Int32)) from c_8)) (by rw [u3a]; decide)
        · dsimp only
          have g_10 : G3 4 = K := Eq.trans (hK3.2 4 rfl) g4
          have g_11 : G3 5 = V := Eq.trans (hK3.2 5 rfl) g5
          have h_12 : rformal K V (F 42) ((F0 43) + (1 : Int32)) = some (none) := by
            have q : rformal K V (F 42) (F 43) = some (none) := u3
            simp only [h43, i_as] at q; exact q
          unfold mb_function_195
          refine PP.ite (fun c_13 => ?_) (fun c_13 => ?_)
          · skip
            exact absurd (i_le.mp (show (F3 44) ≤ (0 : Int32) from c_13)) (by have := u3a; have l0 : (0 : Int32).toInt = 0 := rfl; omega)
          · skip
            unfold mb_function_204
            refine PP.ret ?_
            refine Or.inr ⟨rfl, u3a, hR.trans ?_⟩
            first | with_reducible rfl | (simp only [rfunction, rl_formals, rfend, h_12, h43, i_as, fup, i_a0, i0m, i10, eq_self, rb_yes, rb_no, ryes, rno, if_true, if_false, f_tt (p := True), reduceIte, Nat.reduceEqDiff]) | rfl
      · skip
        exact absurd h44 (show ¬ ((F 44) = (0 : Int32)) from c_2)
    · skip
      unfold mb_function_177
      refine PP.ite (fun _ => ?_) (fun c_14 => absurd (by decide) c_14)
      exact mrj_function_282 (F0 := F0) (R0 := R0) x1 x4 x5 F G g4 g5 ⟨h44, (by first | with_reducible rfl | (simp only [h43, i_as, fup, Nat.reduceEqDiff, reduceIte, if_false]) | rfl), (hR.trans (by first | with_reducible rfl | (simp only [rfunction, rl_formals, rfend, h43, i_as, fup, i_a0, i0m, i10, eq_self, rb_yes, rb_no, ryes, rno, if_true, if_false, f_tt (p := True), reduceIte, Nat.reduceEqDiff]) | rfl))⟩
theorem mrj_function_174 {fu : Nat} {K V : Nat → Int32} {F0 : PF} {R0 : OR} (x1 : Int32) (x4 : Int32) (x5 : Int32) (F : PF) (G : PG) (g4 : G 4 = K) (g5 : G 5 = V) (hA : (F 44 = 0 ∧ F 43 = ((F0 43) + (1 : Int32)) ∧ R0 = rl_formals K V fu (F 43) fu (F 42))) : PP (mb_function_174 fu x1 x4 x5 F G) (fun r' F' _ => ROK R0 F0 r' F') := by
  rcases hA with ⟨h44, h43, hR⟩
  · skip
    unfold mb_function_174
    exact mrz_function_177 (F0 := F0) (R0 := R0) fu x1 x4 x5 (1 : Int32) F G g4 g5 (Or.inl ⟨rfl, h44, (by first | with_reducible rfl | (simp only [h43, i_as, fup, Nat.reduceEqDiff, reduceIte, if_false]) | rfl), (hR.trans (by first | with_reducible rfl | (simp only [rfunction, rl_formals, rfend, h43, i_as, fup, i_a0, i0m, i10, eq_self, rb_yes, rb_no, ryes, rno, if_true, if_false, f_tt (p := True), reduceIte, Nat.reduceEqDiff]) | rfl))⟩)
theorem mrj_function_97 {fu : Nat} {K V : Nat → Int32} {F0 : PF} {R0 : OR} (x1 : Int32) (F : PF) (G : PG) (g4 : G 4 = K) (g5 : G 5 = V) (hA : (F 44 = 0 ∧ F 43 = F0 43 ∧ R0 = rfunction K V fu (F 42) (F 43))) : PP (mb_function_97 fu x1 F G) (fun r' F' _ => ROK R0 F0 r' F') := by
  rcases hA with ⟨h44, h43, hR⟩
  · skip
    unfold mb_function_97
    unfold mb_function_102
    unfold mb_function_107
    unfold mb_function_112
    unfold mb_function_117
    unfold mb_function_122
    unfold mb_function_127
    refine PP.bind (mw_begins (fup (fup (fup (fup (fup (fup F 50 x1) 63 (-1 : Int32)) 64 (-1 : Int32)) 52 (0 : Int32)) 53 (0 : Int32)) 51 (0 : Int32)) G) ?_
    intro r1 F1 G1 hK1
    dsimp only
    have g_2 : G1 4 = K := Eq.trans (hK1.2 4 rfl) g4
    have g_3 : G1 5 = V := Eq.trans (hK1.2 5 rfl) g5
    have q_4 : F1 42 = (F 42) := hK1.1 42 rfl
    have q_5 : F1 43 = (F0 43) := Eq.trans (hK1.1 43 rfl) (show (F 43) = (F0 43) by simp only [h43, i_as])
    have q_6 : F1 44 = 0 := Eq.trans (hK1.1 44 rfl) h44
    unfold mb_function_131
    refine PP.bind (mp_openSign (22 : Int32) F1 G1) ?_
    rintro r7 F7 G7 (⟨rfl, rfl, rfl, u7⟩ | ⟨rfl, u7, u7b⟩)
    · dsimp only
      have h_8 : sgn K V (F 42) (22 : Int32) = true := by
        rw [← g_2, ← g_3]
        have q := u7.1
        first | exact q | (simp only [q_4, q_5, i_as] at q; exact q)
      have h_9 : ¬ (F0 43) = 40 := by
        have q : ¬ (F1 43) = 40 := u7.2.1
        first | exact q | (simp only [q_4, q_5, i_as] at q; exact q)
      unfold mb_function_137
      refine PP.ite (fun c_10 => absurd c_10 (by decide)) (fun _ => ?_)
      unfold mb_function_142
      refine PP.bind (mp_isSign (23 : Int32) (fup (fup F1 43 ((F1 43) + (1 : Int32))) 42 ((F1 42) + (1 : Int32))) G1) ?_
      rintro _ _ _ ⟨rfl, rfl, (⟨rfl, u11⟩ | ⟨rfl, u11⟩)⟩
      · dsimp only
        have h_12 : sgn K V ((F 42) + (1 : Int32)) (23 : Int32) = true := by
          rw [← g_2, ← g_3]
          have q := u11
          first | exact q | (simp only [q_4, q_5, i_as] at q; exact q) | (simp only [q_4, q_5, i_as, fup, Nat.reduceEqDiff, reduceIte, if_false] at q; exact q)
        unfold mb_function_154
        refine PP.ite (fun c_13 => absurd c_13 (by decide)) (fun _ => ?_)
        exact mrj_function_282 (F0 := F0) (R0 := R0) x1 (4 : Int32) (0 : Int32) (fup (fup F1 43 ((F1 43) + (1 : Int32))) 42 ((F1 42) + (1 : Int32))) G1 g_2 g_3 ⟨q_6, (by first | with_reducible rfl | (simp only [h43, q_4, q_5, i_as, fup, Nat.reduceEqDiff, reduceIte, if_false]) | rfl), (hR.trans (by first | with_reducible rfl | (simp only [rfunction, rl_formals, rfend, h_8, h_9, h_12, h43, q_4, q_5, i_as, fup, i_a0, i0m, i10, eq_self, rb_yes, rb_no, ryes, rno, if_true, if_false, f_tt (p := True), reduceIte, Nat.reduceEqDiff]) | rfl))⟩
      · dsimp only
        have h_14 : sgn K V ((F 42) + (1 : Int32)) (23 : Int32) = false := by
          rw [← g_2, ← g_3]
          have q := u11
          first | exact q | (simp only [q_4, q_5, i_as] at q; exact q) | (simp only [q_4, q_5, i_as, fup, Nat.reduceEqDiff, reduceIte, if_false] at q; exact q)
        unfold mb_function_154
        refine PP.ite (fun _ => ?_) (fun c_15 => absurd (by decide) c_15)
        unfold mb_function_157
        refine PP.ite (fun c_16 => ?_) (fun c_16 => ?_)
        · skip
          unfold mb_function_164
          refine PP.ix (fun _ => ?_)
          exact mrj_function_174 (F0 := F0) (R0 := R0) x1 (4 : Int32) (0 : Int32) (fup (fup F1 43 ((F1 43) + (1 : Int32))) 42 ((F1 42) + (1 : Int32))) (gup G1 32 x1.toNatClampNeg ((F1 42) + (1 : Int32))) g_2 g_3 ⟨q_6, (by first | with_reducible rfl | (simp only [h43, q_4, q_5, i_as, fup, Nat.reduceEqDiff, reduceIte, if_false]) | rfl), (hR.trans (by first | with_reducible rfl | (simp only [rfunction, rl_formals, rfend, h_8, h_9, h_14, h43, q_4, q_5, i_as, fup, i_a0, i0m, i10, eq_self, rb_yes, rb_no, ryes, rno, if_true, if_false, f_tt (p := True), reduceIte, Nat.reduceEqDiff]) | rfl))⟩
        · skip
          exact mrj_function_174 (F0 := F0) (R0 := R0) x1 (4 : Int32) (0 : Int32) (fup (fup F1 43 ((F1 43) + (1 : Int32))) 42 ((F1 42) + (1 : Int32))) G1 g_2 g_3 ⟨q_6, (by first | with_reducible rfl | (simp only [h43, q_4, q_5, i_as, fup, Nat.reduceEqDiff, reduceIte, if_false]) | rfl), (hR.trans (by first | with_reducible rfl | (simp only [rfunction, rl_formals, rfend, h_8, h_9, h_14, h43, q_4, q_5, i_as, fup, i_a0, i0m, i10, eq_self, rb_yes, rb_no, ryes, rno, if_true, if_false, f_tt (p := True), reduceIte, Nat.reduceEqDiff]) | rfl))⟩
    · dsimp only
      have g_17 : G7 4 = K := Eq.trans (u7.2.2.2 4 rfl) g_2
      have g_18 : G7 5 = V := Eq.trans (u7.2.2.2 5 rfl) g_3
      have q_19 : F7 42 = (F 42) := Eq.trans (u7.2.2.1 42 rfl) (show (F1 42) = (F 42) by simp only [q_4, q_5, i_as])
      have q_20 : F7 43 = (F0 43) := Eq.trans (u7.2.2.1 43 rfl) (show (F1 43) = (F0 43) by simp only [q_4, q_5, i_as])
      rcases u7b with q | q | ⟨q, q1⟩
      · exact absurd q (show ¬ 0 < (F1 44).toInt by rw [q_6]; decide)
      · skip
        have h_21 : sgn K V (F 42) (22 : Int32) = false := by
          rw [← g_2, ← g_3]
          have q := q
          first | exact q | (simp only [q_4, q_5, i_as] at q; exact q)
        unfold mb_function_137
        refine PP.ite (fun _ => ?_) (fun c_22 => absurd (by decide) c_22)
        unfold mb_function_140
        refine PP.ret ?_
        refine Or.inr ⟨rfl, u7.1, hR.trans ?_⟩
        first | with_reducible rfl | (simp only [rfunction, rl_formals, rfend, h_21, h43, q_4, q_5, q_19, q_20, i_as, fup, i_a0, i0m, i10, eq_self, rb_yes, rb_no, ryes, rno, if_true, if_false, f_tt (p := True), reduceIte, Nat.reduceEqDiff]) | rfl
      · skip
        have h_23 : sgn K V (F 42) (22 : Int32) = true := by
          rw [← g_2, ← g_3]
          have q := q
          first | exact q | (simp only [q_4, q_5, i_as] at q; exact q)
        have h_24 : ((F0 43) = 40) = True := by
          have q : (F1 43) = 40 := q1
          first | exact eq_true q | (simp only [q_4, q_5, i_as] at q; exact eq_true q)
        unfold mb_function_137
        refine PP.ite (fun _ => ?_) (fun c_25 => absurd (by decide) c_25)
        unfold mb_function_140
        refine PP.ret ?_
        refine Or.inr ⟨rfl, u7.1, hR.trans ?_⟩
        first | with_reducible rfl | (simp only [rfunction, rl_formals, rfend, h_23, h_24, h43, q_4, q_5, q_19, q_20, i_as, fup, i_a0, i0m, i10, eq_self, rb_yes, rb_no, ryes, rno, if_true, if_false, f_tt (p := True), reduceIte, Nat.reduceEqDiff]) | rfl
theorem mrj_function_28 {fu : Nat} {K V : Nat → Int32} {F0 : PF} {R0 : OR} (x1 : Int32) (x2 : Int32) (x3 : Int32) (F : PF) (G : PG) (g4 : G 4 = K) (g5 : G 5 = V) (hA : (F 44 = 0 ∧ F 43 = F0 43 ∧ R0 = rfunction K V fu (F 42) (F 43))) : PP (mb_function_28 fu x1 x2 x3 F G) (fun r' F' _ => ROK R0 F0 r' F') := by
  rcases hA with ⟨h44, h43, hR⟩
  · skip
    unfold mb_function_28
    refine PP.ite (fun c_1 => ?_) (fun c_1 => ?_)
    · skip
      unfold mb_function_35
      refine PP.ix (fun _ => ?_)
      refine PP.ix (fun _ => ?_)
      unfold mb_function_47
      refine PP.ix (fun _ => ?_)
      refine PP.ix (fun _ => ?_)
      unfold mb_function_59
      refine PP.ix (fun _ => ?_)
      unfold mb_function_66
      refine PP.ix (fun _ => ?_)
      unfold mb_function_76
      refine PP.ix (fun _ => ?_)
      unfold mb_function_83
      refine PP.ix (fun _ => ?_)
      unfold mb_function_90
      exact mrj_function_97 (F0 := F0) (R0 := R0) x1 (fup F 24 (x1 + (1 : Int32))) (gup (gup (gup (gup (gup (gup G 25 x1.toNatClampNeg (G 5 x2.toNatClampNeg)) 26 x1.toNatClampNeg (G 6 x2.toNatClampNeg)) 33 x1.toNatClampNeg (vp_nar .boolean x3)) 31 x1.toNatClampNeg (F 35)) 27 x1.toNatClampNeg (0 : Int32)) 32 x1.toNatClampNeg (-1 : Int32)) g4 g5 ⟨h44, (by first | with_reducible rfl | (simp only [h43, i_as, fup, Nat.reduceEqDiff, reduceIte, if_false]) | rfl), (hR.trans (by first | with_reducible rfl | (simp only [rfunction, rl_formals, rfend, h43, i_as, fup, i_a0, i0m, i10, eq_self, rb_yes, rb_no, ryes, rno, if_true, if_false, f_tt (p := True), reduceIte, Nat.reduceEqDiff]) | rfl))⟩
    · skip
      exact mrj_function_97 (F0 := F0) (R0 := R0) x1 F G g4 g5 ⟨h44, (by first | with_reducible rfl | (simp only [h43, i_as, fup, Nat.reduceEqDiff, reduceIte, if_false]) | rfl), (hR.trans (by first | with_reducible rfl | (simp only [rfunction, rl_formals, rfend, h43, i_as, fup, i_a0, i0m, i10, eq_self, rb_yes, rb_no, ryes, rno, if_true, if_false, f_tt (p := True), reduceIte, Nat.reduceEqDiff]) | rfl))⟩
theorem mr_function {fu : Nat} {K V : Nat → Int32} (x1 : Int32) (x2 : Int32) (x3 : Int32) (F : PF) (G : PG) (g4 : G 4 = K) (g5 : G 5 = V) (h44 : F 44 = 0) : PP (mf_function fu x1 x2 x3 F G) (fun r' F' _ => ROK (rfunction K V fu (F 42) (F 43)) F r' F') := by
  unfold mf_function
  unfold mb_function_0
  unfold mb_function_5
  refine PP.bind (mw_twice x2 (fup F 61 (1 : Int32)) G) ?_
  intro r1 F1 G1 hK1
  dsimp only
  have g_2 : G1 4 = K := Eq.trans (hK1.2 4 rfl) g4
  have g_3 : G1 5 = V := Eq.trans (hK1.2 5 rfl) g5
  have q_4 : F1 42 = (F 42) := hK1.1 42 rfl
  have q_5 : F1 43 = (F 43) := hK1.1 43 rfl
  have q_6 : F1 44 = 0 := Eq.trans (hK1.1 44 rfl) h44
  unfold mb_function_10
  refine PP.ite (fun c_7 => ?_) (fun c_7 => ?_)
  · skip
    exact mrj_function_28 (F0 := F) (R0 := (rfunction K V fu (F 42) (F 43))) x1 x2 x3 F1 G1 g_2 g_3 ⟨q_6, (by first | with_reducible rfl | (simp only [q_4, q_5, i_as, fup, Nat.reduceEqDiff, reduceIte, if_false]) | rfl), ((rfl : (rfunction K V fu (F 42) (F 43)) = _).trans (by first | with_reducible rfl | (simp only [rfunction, rl_formals, rfend, q_4, q_5, i_as, fup, i_a0, i0m, i10, eq_self, rb_yes, rb_no, ryes, rno, if_true, if_false, f_tt (p := True), reduceIte, Nat.reduceEqDiff]) | rfl))⟩
  · skip
    unfold mb_function_16
    refine PP.ix (fun _ => ?_)
    refine PP.bind (mw_note (11 : Int32) (G1 6 x2.toNatClampNeg) F1 G1) ?_
    intro r8 F8 G8 hK8
    dsimp only
    have g_9 : G8 4 = K := Eq.trans (hK8.2 4 rfl) g_2
    have g_10 : G8 5 = V := Eq.trans (hK8.2 5 rfl) g_3
    have q_11 : F8 42 = (F 42) := Eq.trans (hK8.1 42 rfl) (show (F1 42) = (F 42) by simp only [q_4, q_5, i_as])
    have q_12 : F8 43 = (F 43) := Eq.trans (hK8.1 43 rfl) (show (F1 43) = (F 43) by simp only [q_4, q_5, i_as])
    have q_13 : F8 44 = 0 := Eq.trans (hK8.1 44 rfl) q_6
    exact mrj_function_28 (F0 := F) (R0 := (rfunction K V fu (F 42) (F 43))) x1 x2 x3 F8 G8 g_9 g_10 ⟨q_13, (by first | with_reducible rfl | (simp only [q_4, q_5, q_11, q_12, i_as, fup, Nat.reduceEqDiff, reduceIte, if_false]) | rfl), ((rfl : (rfunction K V fu (F 42) (F 43)) = _).trans (by first | with_reducible rfl | (simp only [rfunction, rl_formals, rfend, q_4, q_5, q_11, q_12, i_as, fup, i_a0, i0m, i10, eq_self, rb_yes, rb_no, ryes, rno, if_true, if_false, f_tt (p := True), reduceIte, Nat.reduceEqDiff]) | rfl))⟩
theorem mrj_tells_269 {fu : Nat} {K V : Nat → Int32} {F0 : PF} {R0 : OR} (x3 : Int32) (x4 : Int32) (F : PF) (G : PG) (g4 : G 4 = K) (g5 : G 5 = V) (hA : (F 44 = 0 ∧ F 43 = F0 43 ∧ R0 = rb (rarray K V fu (F 42) (F 43)) (fun t1 => rclose K V 29 t1))) : PP (mb_tells_269 fu x3 x4 F G) (fun r' F' _ => ROK R0 F0 r' F') := by
  rcases hA with ⟨h44, h43, hR⟩
  · skip
    unfold mb_tells_269
    refine PP.bind (PP.and (mw_array x4 x3 F G) (mr_array x4 x3 F G g4 g5 (show F 44 = 0 from h44))) ?_
    rintro r1 F1 G1 ⟨hK1, (⟨rfl, u1a, u1b, u1⟩ | ⟨rfl, u1a, u1⟩)⟩
    · dsimp only
      have g_2 : G1 4 = K := Eq.trans (hK1.2 4 rfl) g4
      have g_3 : G1 5 = V := Eq.trans (hK1.2 5 rfl) g5
      have h_4 : rarray K V fu (F 42) (F0 43) = some (some (F1 42)) := by
        have q : rarray K V fu (F 42) (F 43) = some (some (F1 42)) := u1
        simp only [h43, i_as] at q; exact q
      have q_5 : F1 43 = (F0 43) := by
        have q := (show F1 43 = (F 43) from u1b)
        simp only [h43, i_as] at q; exact q
      unfold mb_tells_276
      refine PP.ite (fun c_6 => absurd c_6 (by decide)) (fun _ => ?_)
      unfold mb_tells_279
      refine PP.bind (mp_sign (29 : Int32) F1 G1) ?_
      rintro r7 F7 G7 (⟨rfl, rfl, rfl, u7⟩ | ⟨rfl, u7, u7b⟩)
      · dsimp only
        have h_8 : sgn K V (F1 42) (29 : Int32) = true := by
          rw [← g_2, ← g_3]
          have q := u7.1
          first | exact q | (simp only [q_5, i_as] at q; exact q)
        unfold mb_tells_285
        refine PP.ite (fun c_9 => absurd c_9 (by decide)) (fun _ => ?_)
        unfold mb_tells_288
        unfold mb_tells_293
        refine PP.ret ?_
        refine Or.inl ⟨rfl, u1a, ?_, hR.trans ?_⟩
        · show (F1 43) = F0 43
          first | with_reducible rfl | (simp only [h43, q_5, i_as, fup, Nat.reduceEqDiff, reduceIte, if_false]) | rfl
        · show _ = some (some ((F1 42) + (1 : Int32)))
          first | with_reducible rfl | (simp only [rtells, rtl1, rtl2, rtl3, rclose, h_4, h_8, h43, q_5, i_as, fup, i_a0, i0m, i10, eq_self, rb_yes, rb_no, ryes, rno, if_true, if_false, f_tt (p := True), reduceIte, Nat.reduceEqDiff]) | rfl
      · dsimp only
        have g_10 : G7 4 = K := Eq.trans (u7.2.2.2 4 rfl) g_2
        have g_11 : G7 5 = V := Eq.trans (u7.2.2.2 5 rfl) g_3
        have q_12 : F7 42 = (F1 42) := u7.2.2.1 42 rfl
        have q_13 : F7 43 = (F0 43) := Eq.trans (u7.2.2.1 43 rfl) (show (F1 43) = (F0 43) by simp only [q_5, i_as])
        rcases u7b with q | q
        · exact absurd q (show ¬ 0 < (F1 44).toInt by rw [u1a]; decide)
        · skip
          have h_14 : sgn K V (F1 42) (29 : Int32) = false := by
            rw [← g_2, ← g_3]
            have q := q
            first | exact q | (simp only [q_5, i_as] at q; exact q)
          unfold mb_tells_285
          refine PP.ite (fun _ => ?_) (fun c_15 => absurd (by decide) c_15)
          unfold mb_tells_292
          unfold mb_tells_293
          refine PP.ret ?_
          refine Or.inr ⟨rfl, u7.1, hR.trans ?_⟩
          first | with_reducible rfl | (simp only [rtells, rtl1, rtl2, rtl3, rclose, h_4, h_14, h43, q_5, q_12, q_13, i_as, fup, i_a0, i0m, i10, eq_self, rb_yes, rb_no, ryes, rno, if_true, if_false, f_tt (p := True), reduceIte, Nat.reduceEqDiff]) | rfl
    · dsimp only
      have g_16 : G1 4 = K := Eq.trans (hK1.2 4 rfl) g4
      have g_17 : G1 5 = V := Eq.trans (hK1.2 5 rfl) g5
      have h_18 : rarray K V fu (F 42) (F0 43) = some (none) := by
        have q : rarray K V fu (F 42) (F 43) = some (none) := u1
        simp only [h43, i_as] at q; exact q
      unfold mb_tells_276
      refine PP.ite (fun _ => ?_) (fun c_19 => absurd (by decide) c_19)
      unfold mb_tells_292
      unfold mb_tells_293
      refine PP.ret ?_
      refine Or.inr ⟨rfl, u1a, hR.trans ?_⟩
      first | with_reducible rfl | (simp only [rtells, rtl1, rtl2, rtl3, rclose, h_18, h43, i_as, fup, i_a0, i0m, i10, eq_self, rb_yes, rb_no, ryes, rno, if_true, if_false, f_tt (p := True), reduceIte, Nat.reduceEqDiff]) | rfl
theorem mrj_tells_239 {fu : Nat} {K V : Nat → Int32} {F0 : PF} {R0 : OR} (x4 : Int32) (x5 : Int32) (F : PF) (G : PG) (g4 : G 4 = K) (g5 : G 5 = V) (hA : (F 44 = 0 ∧ F 43 = F0 43 ∧ R0 = rclose K V 29 (F 42))) : PP (mb_tells_239 fu x4 x5 F G) (fun r' F' _ => ROK R0 F0 r' F') := by
  rcases hA with ⟨h44, h43, hR⟩
  · skip
    unfold mb_tells_239
    unfold mb_tells_256
    refine PP.ix (fun _ => ?_)
    refine PP.bind (mw_declare x4 (1 : Int32) (0 : Int32) (G 39 (if (2000 : Int32) < x5 then (2000 : Int32) else x5).toNatClampNeg) (1 : Int32) (0 : Int32) F G) ?_
    intro r1 F1 G1 hK1
    dsimp only
    have g_2 : G1 4 = K := Eq.trans (hK1.2 4 rfl) g4
    have g_3 : G1 5 = V := Eq.trans (hK1.2 5 rfl) g5
    have q_4 : F1 42 = (F 42) := hK1.1 42 rfl
    have q_5 : F1 43 = (F0 43) := Eq.trans (hK1.1 43 rfl) (show (F 43) = (F0 43) by simp only [h43, i_as])
    have q_6 : F1 44 = 0 := Eq.trans (hK1.1 44 rfl) h44
    unfold mb_tells_262
    refine PP.bind (mp_sign (29 : Int32) F1 G1) ?_
    rintro r7 F7 G7 (⟨rfl, rfl, rfl, u7⟩ | ⟨rfl, u7, u7b⟩)
    · dsimp only
      have h_8 : sgn K V (F 42) (29 : Int32) = true := by
        rw [← g_2, ← g_3]
        have q := u7.1
        first | exact q | (simp only [q_4, q_5, i_as] at q; exact q)
      unfold mb_tells_268
      refine PP.ret ?_
      refine Or.inl ⟨rfl, q_6, ?_, hR.trans ?_⟩
      · show (F1 43) = F0 43
        first | with_reducible rfl | (simp only [h43, q_4, q_5, i_as, fup, Nat.reduceEqDiff, reduceIte, if_false]) | rfl
      · show _ = some (some ((F1 42) + (1 : Int32)))
        first | with_reducible rfl | (simp only [rtells, rtl1, rtl2, rtl3, rclose, h_8, h43, q_4, q_5, i_as, fup, i_a0, i0m, i10, eq_self, rb_yes, rb_no, ryes, rno, if_true, if_false, f_tt (p := True), reduceIte, Nat.reduceEqDiff]) | rfl
    · dsimp only
      have g_9 : G7 4 = K := Eq.trans (u7.2.2.2 4 rfl) g_2
      have g_10 : G7 5 = V := Eq.trans (u7.2.2.2 5 rfl) g_3
      have q_11 : F7 42 = (F 42) := Eq.trans (u7.2.2.1 42 rfl) (show (F1 42) = (F 42) by simp only [q_4, q_5, i_as])
      have q_12 : F7 43 = (F0 43) := Eq.trans (u7.2.2.1 43 rfl) (show (F1 43) = (F0 43) by simp only [q_4, q_5, i_as])
      rcases u7b with q | q
      · exact absurd q (show ¬ 0 < (F1 44).toInt by rw [q_6]; decide)
      · skip
        have h_13 : sgn K V (F 42) (29 : Int32) = false := by
          rw [← g_2, ← g_3]
          have q := q
          first | exact q | (simp only [q_4, q_5, i_as] at q; exact q)
        unfold mb_tells_268
        refine PP.ret ?_
        refine Or.inr ⟨rfl, u7.1, hR.trans ?_⟩
        first | with_reducible rfl | (simp only [rtells, rtl1, rtl2, rtl3, rclose, h_13, h43, q_4, q_5, q_11, q_12, i_as, fup, i_a0, i0m, i10, eq_self, rb_yes, rb_no, ryes, rno, if_true, if_false, f_tt (p := True), reduceIte, Nat.reduceEqDiff]) | rfl
theorem mrj_tells_164 {fu : Nat} {K V : Nat → Int32} {F0 : PF} {R0 : OR} (x3 : Int32) (x4 : Int32) (F : PF) (G : PG) (g4 : G 4 = K) (g5 : G 5 = V) (hA : (x3 = 1 ∧ F 44 = 0 ∧ F 43 = F0 43 ∧ R0 = rb (rarray K V fu (F 42) (F 43)) (fun t1 => rclose K V 29 t1)) ∨ (x3 = 0 ∧ F 44 = 0 ∧ F 43 = F0 43 ∧ R0 = (if sgn K V (F 42) 32 = true then rb (rS1 K V fu 300 4 ((F 42) + 1) (F 43)) (fun t1 => rclose K V 29 t1) else rb (rarray K V fu (F 42) (F 43)) (fun t1 => rclose K V 29 t1)))) : PP (mb_tells_164 fu x3 x4 F G) (fun r' F' _ => ROK R0 F0 r' F') := by
  rcases hA with ⟨rfl, h44, h43, hR⟩ | ⟨rfl, h44, h43, hR⟩
  · skip
    unfold mb_tells_164
    refine PP.ite (fun c_1 => absurd c_1 (by decide)) (fun _ => ?_)
    exact mrj_tells_269 (F0 := F0) (R0 := R0) (1 : Int32) x4 F G g4 g5 ⟨h44, (by first | with_reducible rfl | (simp only [h43, i_as, fup, Nat.reduceEqDiff, reduceIte, if_false]) | rfl), (hR.trans (by first | with_reducible rfl | (simp only [rtells, rtl1, rtl2, rtl3, rclose, h43, i_as, fup, i_a0, i0m, i10, eq_self, rb_yes, rb_no, ryes, rno, if_true, if_false, f_tt (p := True), reduceIte, Nat.reduceEqDiff]) | rfl))⟩
  · skip
    unfold mb_tells_164
    refine PP.ite (fun _ => ?_) (fun c_2 => absurd (by decide) c_2)
    unfold mb_tells_168
    refine PP.bind (mp_isSign (32 : Int32) F G) ?_
    rintro _ _ _ ⟨rfl, rfl, (⟨rfl, u3⟩ | ⟨rfl, u3⟩)⟩
    · dsimp only
      have h_4 : sgn K V (F 42) (32 : Int32) = true := by
        rw [← g4, ← g5]
        have q := u3
        first | exact q | (simp only [h43, i_as] at q; exact q)
      unfold mb_tells_174
      refine PP.ite (fun c_5 => absurd c_5 (by decide)) (fun _ => ?_)
      unfold mb_tells_177
      refine PP.bind (mw_globalAt x4 F G) ?_
      intro r6 F6 G6 hK6
      dsimp only
      have g_7 : G6 4 = K := Eq.trans (hK6.2 4 rfl) g4
      have g_8 : G6 5 = V := Eq.trans (hK6.2 5 rfl) g5
      have q_9 : F6 42 = (F 42) := hK6.1 42 rfl
      have q_10 : F6 43 = (F0 43) := Eq.trans (hK6.1 43 rfl) (show (F 43) = (F0 43) by simp only [h43, i_as])
      have q_11 : F6 44 = 0 := Eq.trans (hK6.1 44 rfl) h44
      unfold mb_tells_183
      unfold mb_tells_195
      refine PP.bind (PP.and (mw_value (fup F6 42 ((F6 42) + (1 : Int32))) G6) (mr_value (fup F6 42 ((F6 42) + (1 : Int32))) G6 g_7 g_8 (show (fup F6 42 ((F6 42) + (1 : Int32))) 44 = 0 from q_11))) ?_
      rintro r12 F12 G12 ⟨hK12, (⟨-, u12a, u12b, u12⟩ | ⟨-, u12a, u12⟩)⟩
      · dsimp only
        have g_13 : G12 4 = K := Eq.trans (hK12.2 4 rfl) g_7
        have g_14 : G12 5 = V := Eq.trans (hK12.2 5 rfl) g_8
        have h_15 : rS1 K V fu 300 4 ((F 42) + (1 : Int32)) (F0 43) = some (some (F12 42)) := by
          have q : rS1 K V fu 300 4 ((F6 42) + (1 : Int32)) (F6 43) = some (some (F12 42)) := u12
          simp only [q_9, q_10, i_as] at q; exact q
        have q_16 : F12 43 = (F0 43) := by
          have q := (show F12 43 = (F6 43) from u12b)
          simp only [q_9, q_10, i_as] at q; exact q
        unfold mb_tells_199
        refine PP.ite (fun c_17 => ?_) (fun c_17 => ?_)
        · skip
          unfold mb_tells_210
          refine PP.ite (fun c_18 => ?_) (fun c_18 => ?_)
          · skip
            exact mrj_tells_239 (F0 := F0) (R0 := R0) x4 r6 F12 G12 g_13 g_14 ⟨u12a, (by first | with_reducible rfl | (simp only [h43, q_9, q_10, q_16, i_as, fup, Nat.reduceEqDiff, reduceIte, if_false]) | rfl), (hR.trans (by first | with_reducible rfl | (simp only [rtells, rtl1, rtl2, rtl3, rclose, h_4, h_15, h43, q_9, q_10, q_16, i_as, fup, i_a0, i0m, i10, eq_self, rb_yes, rb_no, ryes, rno, if_true, if_false, f_tt (p := True), reduceIte, Nat.reduceEqDiff]) | rfl))⟩
          · skip
            unfold mb_tells_217
            refine PP.ite (fun c_19 => ?_) (fun c_19 => ?_)
            · skip
              exact mrj_tells_239 (F0 := F0) (R0 := R0) x4 r6 F12 G12 g_13 g_14 ⟨u12a, (by first | with_reducible rfl | (simp only [h43, q_9, q_10, q_16, i_as, fup, Nat.reduceEqDiff, reduceIte, if_false]) | rfl), (hR.trans (by first | with_reducible rfl | (simp only [rtells, rtl1, rtl2, rtl3, rclose, h_4, h_15, h43, q_9, q_10, q_16, i_as, fup, i_a0, i0m, i10, eq_self, rb_yes, rb_no, ryes, rno, if_true, if_false, f_tt (p := True), reduceIte, Nat.reduceEqDiff]) | rfl))⟩
            · skip
              unfold mb_tells_225
              refine PP.ix (fun _ => ?_)
              refine PP.ix (fun _ => ?_)
              exact mrj_tells_239 (F0 := F0) (R0 := R0) x4 r6 F12 (gup G12 41 (G12 39 r6.toNatClampNeg).toNatClampNeg r12) g_13 g_14 ⟨u12a, (by first | with_reducible rfl | (simp only [h43, q_9, q_10, q_16, i_as, fup, Nat.reduceEqDiff, reduceIte, if_false]) | rfl), (hR.trans (by first | with_reducible rfl | (simp only [rtells, rtl1, rtl2, rtl3, rclose, h_4, h_15, h43, q_9, q_10, q_16, i_as, fup, i_a0, i0m, i10, eq_self, rb_yes, rb_no, ryes, rno, if_true, if_false, f_tt (p := True), reduceIte, Nat.reduceEqDiff]) | rfl))⟩
        · skip
          exact absurd (i_npos (show ¬ ((F12 44) ≤ (0 : Int32)) from c_17)) (by rw [u12a]; decide)
      · dsimp only
        have g_20 : G12 4 = K := Eq.trans (hK12.2 4 rfl) g_7
        have g_21 : G12 5 = V := Eq.trans (hK12.2 5 rfl) g_8
        have h_22 : rS1 K V fu 300 4 ((F 42) + (1 : Int32)) (F0 43) = some (none) := by
          have q : rS1 K V fu 300 4 ((F6 42) + (1 : Int32)) (F6 43) = some (none) := u12
          simp only [q_9, q_10, i_as] at q; exact q
        unfold mb_tells_199
        refine PP.ite (fun c_23 => ?_) (fun c_23 => ?_)
        · skip
          exact absurd (i_le.mp (show (F12 44) ≤ (0 : Int32) from c_23)) (by have := u12a; have l0 : (0 : Int32).toInt = 0 := rfl; omega)
        · skip
          unfold mb_tells_208
          refine PP.ret ?_
          refine Or.inr ⟨rfl, u12a, hR.trans ?_⟩
          first | with_reducible rfl | (simp only [rtells, rtl1, rtl2, rtl3, rclose, h_4, h_22, h43, q_9, q_10, i_as, fup, i_a0, i0m, i10, eq_self, rb_yes, rb_no, ryes, rno, if_true, if_false, f_tt (p := True), reduceIte, Nat.reduceEqDiff]) | rfl
    · dsimp only
      have h_24 : sgn K V (F 42) (32 : Int32) = false := by
        rw [← g4, ← g5]
        have q := u3
        first | exact q | (simp only [h43, i_as] at q; exact q)
      unfold mb_tells_174
      refine PP.ite (fun _ => ?_) (fun c_25 => absurd (by decide) c_25)
      exact mrj_tells_269 (F0 := F0) (R0 := R0) (0 : Int32) x4 F G g4 g5 ⟨h44, (by first | with_reducible rfl | (simp only [h43, i_as, fup, Nat.reduceEqDiff, reduceIte, if_false]) | rfl), (hR.trans (by first | with_reducible rfl | (simp only [rtells, rtl1, rtl2, rtl3, rclose, h_24, h43, i_as, fup, i_a0, i0m, i10, eq_self, rb_yes, rb_no, ryes, rno, if_true, if_false, f_tt (p := True), reduceIte, Nat.reduceEqDiff]) | rfl))⟩
theorem mrj_tells_117 {fu : Nat} {K V : Nat → Int32} {F0 : PF} {R0 : OR} (x2 : Int32) (x3 : Int32) (x4 : Int32) (F : PF) (G : PG) (g4 : G 4 = K) (g5 : G 5 = V) (hA : (x2 = 1 ∧ x3 = 0 ∧ F 44 = 0 ∧ F 43 = F0 43 ∧ R0 = rtl3 K V fu 1 0 (F 42) (F 43)) ∨ (x2 = 0 ∧ x3 = 1 ∧ F 44 = 0 ∧ F 43 = F0 43 ∧ R0 = rtl3 K V fu 0 1 (F 42) (F 43)) ∨ (x2 = 0 ∧ x3 = 0 ∧ F 44 = 0 ∧ F 43 = F0 43 ∧ R0 = rtl3 K V fu 0 0 (F 42) (F 43))) : PP (mb_tells_117 fu x2 x3 x4 F G) (fun r' F' _ => ROK R0 F0 r' F') := by
  rcases hA with ⟨rfl, rfl, h44, h43, hR⟩ | ⟨rfl, rfl, h44, h43, hR⟩ | ⟨rfl, rfl, h44, h43, hR⟩
  · skip
    unfold mb_tells_117
    refine PP.ite (fun c_1 => absurd c_1 (by decide)) (fun _ => ?_)
    unfold mb_tells_121
    refine PP.bind (mp_fails (2 : Int32) (by decide) F G) ?_
    rintro r2 F2 G2 ⟨rfl, u2⟩
    dsimp only
    have g_3 : G2 4 = K := Eq.trans (u2.2.2.2 4 rfl) g4
    have g_4 : G2 5 = V := Eq.trans (u2.2.2.2 5 rfl) g5
    have q_5 : F2 42 = (F 42) := u2.2.2.1 42 rfl
    have q_6 : F2 43 = (F0 43) := Eq.trans (u2.2.2.1 43 rfl) (show (F 43) = (F0 43) by simp only [h43, i_as])
    unfold mb_tells_126
    refine PP.ret ?_
    refine Or.inr ⟨rfl, u2.1, hR.trans ?_⟩
    first | with_reducible rfl | (simp only [rtells, rtl1, rtl2, rtl3, rclose, h43, q_5, q_6, i_as, fup, i_a0, i0m, i10, eq_self, rb_yes, rb_no, ryes, rno, if_true, if_false, f_tt (p := True), reduceIte, Nat.reduceEqDiff]) | rfl
  · skip
    unfold mb_tells_117
    refine PP.ite (fun _ => ?_) (fun c_7 => absurd (by decide) c_7)
    unfold mb_tells_127
    refine PP.ite (fun c_8 => absurd c_8 (by decide)) (fun _ => ?_)
    exact mrj_tells_164 (F0 := F0) (R0 := R0) (1 : Int32) x4 F G g4 g5 (Or.inl ⟨rfl, h44, (by first | with_reducible rfl | (simp only [h43, i_as, fup, Nat.reduceEqDiff, reduceIte, if_false]) | rfl), (hR.trans (by first | with_reducible rfl | (simp only [rtells, rtl1, rtl2, rtl3, rclose, h43, i_as, fup, i_a0, i0m, i10, eq_self, rb_yes, rb_no, ryes, rno, if_true, if_false, f_tt (p := True), reduceIte, Nat.reduceEqDiff]) | rfl))⟩)
  · skip
    unfold mb_tells_117
    refine PP.ite (fun _ => ?_) (fun c_9 => absurd (by decide) c_9)
    unfold mb_tells_127
    refine PP.ite (fun _ => ?_) (fun c_10 => absurd (by decide) c_10)
    unfold mb_tells_131
    refine PP.bind (mp_isSign (29 : Int32) F G) ?_
    rintro _ _ _ ⟨rfl, rfl, (⟨rfl, u11⟩ | ⟨rfl, u11⟩)⟩
    · dsimp only
      have h_12 : sgn K V (F 42) (29 : Int32) = true := by
        rw [← g4, ← g5]
        have q := u11
        first | exact q | (simp only [h43, i_as] at q; exact q)
      unfold mb_tells_137
      refine PP.ite (fun c_13 => absurd c_13 (by decide)) (fun _ => ?_)
      unfold mb_tells_140
      refine PP.bind (PP.and (mw_globalInt x4 F G) (mr_globalInt x4 F G)) ?_
      rintro _ F14 G14 ⟨hK14, rfl⟩
      dsimp only
      have g_15 : G14 4 = K := Eq.trans (hK14.2 4 rfl) g4
      have g_16 : G14 5 = V := Eq.trans (hK14.2 5 rfl) g5
      have q_17 : F14 42 = (F 42) := hK14.1 42 rfl
      have q_18 : F14 43 = (F0 43) := Eq.trans (hK14.1 43 rfl) (show (F 43) = (F0 43) by simp only [h43, i_as])
      have q_19 : F14 44 = 0 := Eq.trans (hK14.1 44 rfl) h44
      unfold mb_tells_146
      refine PP.ite (fun c_20 => absurd c_20 (by decide)) (fun _ => ?_)
      unfold mb_tells_149
      refine PP.bind (mp_sign (29 : Int32) F14 G14) ?_
      rintro r21 F21 G21 (⟨rfl, rfl, rfl, u21⟩ | ⟨rfl, u21, u21b⟩)
      · dsimp only
        have h_22 : sgn K V (F 42) (29 : Int32) = true := by
          rw [← g_15, ← g_16]
          have q := u21.1
          first | exact q | (simp only [q_17, q_18, i_as] at q; exact q)
        unfold mb_tells_155
        refine PP.ite (fun c_23 => absurd c_23 (by decide)) (fun _ => ?_)
        unfold mb_tells_158
        unfold mb_tells_163
        refine PP.ret ?_
        refine Or.inl ⟨rfl, q_19, ?_, hR.trans ?_⟩
        · show (F14 43) = F0 43
          first | with_reducible rfl | (simp only [h43, q_17, q_18, i_as, fup, Nat.reduceEqDiff, reduceIte, if_false]) | rfl
        · show _ = some (some ((F14 42) + (1 : Int32)))
          first | with_reducible rfl | (simp only [rtells, rtl1, rtl2, rtl3, rclose, h_12, h_22, h43, q_17, q_18, i_as, fup, i_a0, i0m, i10, eq_self, rb_yes, rb_no, ryes, rno, if_true, if_false, f_tt (p := True), reduceIte, Nat.reduceEqDiff]) | rfl
      · dsimp only
        have g_24 : G21 4 = K := Eq.trans (u21.2.2.2 4 rfl) g_15
        have g_25 : G21 5 = V := Eq.trans (u21.2.2.2 5 rfl) g_16
        have q_26 : F21 42 = (F 42) := Eq.trans (u21.2.2.1 42 rfl) (show (F14 42) = (F 42) by simp only [q_17, q_18, i_as])
        have q_27 : F21 43 = (F0 43) := Eq.trans (u21.2.2.1 43 rfl) (show (F14 43) = (F0 43) by simp only [q_17, q_18, i_as])
        rcases u21b with q | q
        · exact absurd q (show ¬ 0 < (F14 44).toInt by rw [q_19]; decide)
        · skip
          have h_28 : sgn K V (F 42) (29 : Int32) = false := by
            rw [← g_15, ← g_16]
            have q := q
            first | exact q | (simp only [q_17, q_18, i_as] at q; exact q)
          exact absurd (h_12.symm.trans h_28) (by decide)
    · dsimp only
      have h_29 : sgn K V (F 42) (29 : Int32) = false := by
        rw [← g4, ← g5]
        have q := u11
        first | exact q | (simp only [h43, i_as] at q; exact q)
      unfold mb_tells_137
      refine PP.ite (fun _ => ?_) (fun c_30 => absurd (by decide) c_30)
      exact mrj_tells_164 (F0 := F0) (R0 := R0) (0 : Int32) x4 F G g4 g5 (Or.inr ⟨rfl, h44, (by first | with_reducible rfl | (simp only [h43, i_as, fup, Nat.reduceEqDiff, reduceIte, if_false]) | rfl), (hR.trans (by first | with_reducible rfl | (simp only [rtells, rtl1, rtl2, rtl3, rclose, h_29, h43, i_as, fup, i_a0, i0m, i10, eq_self, rb_yes, rb_no, ryes, rno, if_true, if_false, f_tt (p := True), reduceIte, Nat.reduceEqDiff]) | rfl))⟩)
theorem mrj_tells_70 {fu : Nat} {K V : Nat → Int32} {F0 : PF} {R0 : OR} (x1 : Int32) (x2 : Int32) (x3 : Int32) (F : PF) (G : PG) (g4 : G 4 = K) (g5 : G 5 = V) (hA : (x2 = 1 ∧ x3 = 0 ∧ F 44 = 0 ∧ F 43 = F0 43 ∧ R0 = rtl1 K V fu 1 0 (F 42) (F 43)) ∨ (x2 = 0 ∧ x3 = 1 ∧ F 44 = 0 ∧ F 43 = F0 43 ∧ R0 = rtl1 K V fu 0 1 (F 42) (F 43)) ∨ (x2 = 0 ∧ x3 = 0 ∧ F 44 = 0 ∧ F 43 = F0 43 ∧ R0 = rtl1 K V fu 0 0 (F 42) (F 43))) : PP (mb_tells_70 fu x1 x2 x3 F G) (fun r' F' _ => ROK R0 F0 r' F') := by
  rcases hA with ⟨rfl, rfl, h44, h43, hR⟩ | ⟨rfl, rfl, h44, h43, hR⟩ | ⟨rfl, rfl, h44, h43, hR⟩
  · skip
    unfold mb_tells_70
    unfold mb_tells_80
    refine PP.bind (mp_name (fup F 42 ((F 42) + (1 : Int32))) G) ?_
    rintro r1 F1 G1 (⟨rfl, rfl, rfl, u1⟩ | ⟨rfl, u1, u1b⟩)
    · dsimp only
      have h_2 : K ((F 42) + (1 : Int32)).toNatClampNeg = 1 := by
        rw [← g4]
        have q := u1.1
        first | exact q | (simp only [h43, i_as] at q; exact q) | (simp only [h43, i_as, fup, Nat.reduceEqDiff, reduceIte, if_false] at q; exact q)
      have h_3 := eq_true h_2
      unfold mb_tells_84
      refine PP.ite (fun c_4 => ?_) (fun c_4 => ?_)
      · skip
        unfold mb_tells_95
        refine PP.ite (fun _ => ?_) (fun c_5 => absurd (by decide) c_5)
        unfold mb_tells_99
        refine PP.bind (mp_isSign (22 : Int32) (fup (fup F 42 ((F 42) + (1 : Int32))) 42 (((F 42) + (1 : Int32)) + (1 : Int32))) G) ?_
        rintro _ _ _ ⟨rfl, rfl, (⟨rfl, u6⟩ | ⟨rfl, u6⟩)⟩
        · dsimp only
          have h_7 : sgn K V (((F 42) + (1 : Int32)) + (1 : Int32)) (22 : Int32) = true := by
            rw [← g4, ← g5]
            have q := u6
            first | exact q | (simp only [h43, i_as] at q; exact q) | (simp only [h43, i_as, fup, Nat.reduceEqDiff, reduceIte, if_false] at q; exact q)
          unfold mb_tells_105
          refine PP.ite (fun c_8 => absurd c_8 (by decide)) (fun _ => ?_)
          unfold mb_tells_108
          refine PP.bind (PP.and (mw_function x1 ((((F 42) + (1 : Int32)) + (1 : Int32)) - (1 : Int32)) (1 : Int32) (fup (fup F 42 ((F 42) + (1 : Int32))) 42 (((F 42) + (1 : Int32)) + (1 : Int32))) G) (mr_function x1 ((((F 42) + (1 : Int32)) + (1 : Int32)) - (1 : Int32)) (1 : Int32) (fup (fup F 42 ((F 42) + (1 : Int32))) 42 (((F 42) + (1 : Int32)) + (1 : Int32))) G g4 g5 (show (fup (fup F 42 ((F 42) + (1 : Int32))) 42 (((F 42) + (1 : Int32)) + (1 : Int32))) 44 = 0 from h44))) ?_
          rintro r9 F9 G9 ⟨hK9, (⟨rfl, u9a, u9b, u9⟩ | ⟨rfl, u9a, u9⟩)⟩
          · dsimp only
            have g_10 : G9 4 = K := Eq.trans (hK9.2 4 rfl) g4
            have g_11 : G9 5 = V := Eq.trans (hK9.2 5 rfl) g5
            have h_12 : rfunction K V fu (((F 42) + (1 : Int32)) + (1 : Int32)) (F0 43) = some (some (F9 42)) := by
              have q : rfunction K V fu (((F 42) + (1 : Int32)) + (1 : Int32)) (F 43) = some (some (F9 42)) := u9
              simp only [h43, i_as] at q; exact q
            have q_13 : F9 43 = (F0 43) := by
              have q := (show F9 43 = (F 43) from u9b)
              simp only [h43, i_as] at q; exact q
            unfold mb_tells_116
            refine PP.ret ?_
            refine Or.inl ⟨rfl, u9a, ?_, hR.trans ?_⟩
            · show (F9 43) = F0 43
              first | with_reducible rfl | (simp only [h43, q_13, i_as, fup, Nat.reduceEqDiff, reduceIte, if_false]) | rfl
            · show _ = some (some (F9 42))
              first | with_reducible rfl | (simp only [rtells, rtl1, rtl2, rtl3, rclose, h_3, h_7, h_12, h43, q_13, i_as, fup, i_a0, i0m, i10, eq_self, rb_yes, rb_no, ryes, rno, if_true, if_false, f_tt (p := True), reduceIte, Nat.reduceEqDiff]) | rfl
          · dsimp only
            have g_14 : G9 4 = K := Eq.trans (hK9.2 4 rfl) g4
            have g_15 : G9 5 = V := Eq.trans (hK9.2 5 rfl) g5
            have h_16 : rfunction K V fu (((F 42) + (1 : Int32)) + (1 : Int32)) (F0 43) = some (none) := by
              have q : rfunction K V fu (((F 42) + (1 : Int32)) + (1 : Int32)) (F 43) = some (none) := u9
              simp only [h43, i_as] at q; exact q
            unfold mb_tells_116
            refine PP.ret ?_
            refine Or.inr ⟨rfl, u9a, hR.trans ?_⟩
            first | with_reducible rfl | (simp only [rtells, rtl1, rtl2, rtl3, rclose, h_3, h_7, h_16, h43, i_as, fup, i_a0, i0m, i10, eq_self, rb_yes, rb_no, ryes, rno, if_true, if_false, f_tt (p := True), reduceIte, Nat.reduceEqDiff]) | rfl
        · dsimp only
          have h_17 : sgn K V (((F 42) + (1 : Int32)) + (1 : Int32)) (22 : Int32) = false := by
            rw [← g4, ← g5]
            have q := u6
            first | exact q | (simp only [h43, i_as] at q; exact q) | (simp only [h43, i_as, fup, Nat.reduceEqDiff, reduceIte, if_false] at q; exact q)
          unfold mb_tells_105
          refine PP.ite (fun _ => ?_) (fun c_18 => absurd (by decide) c_18)
          exact mrj_tells_117 (F0 := F0) (R0 := R0) (1 : Int32) (0 : Int32) ((((F 42) + (1 : Int32)) + (1 : Int32)) - (1 : Int32)) (fup (fup F 42 ((F 42) + (1 : Int32))) 42 (((F 42) + (1 : Int32)) + (1 : Int32))) G g4 g5 (Or.inl ⟨rfl, rfl, h44, (by first | with_reducible rfl | (simp only [h43, i_as, fup, Nat.reduceEqDiff, reduceIte, if_false]) | rfl), (hR.trans (by first | with_reducible rfl | (simp only [rtells, rtl1, rtl2, rtl3, rclose, h_3, h_17, h43, i_as, fup, i_a0, i0m, i10, eq_self, rb_yes, rb_no, ryes, rno, if_true, if_false, f_tt (p := True), reduceIte, Nat.reduceEqDiff]) | rfl))⟩)
      · skip
        exact absurd (i_npos (show ¬ ((F 44) ≤ (0 : Int32)) from c_4)) (by rw [h44]; decide)
    · dsimp only
      have g_19 : G1 4 = K := Eq.trans (u1.2.2.2 4 rfl) g4
      have g_20 : G1 5 = V := Eq.trans (u1.2.2.2 5 rfl) g5
      have q_21 : F1 42 = ((F 42) + (1 : Int32)) := u1.2.2.1 42 rfl
      have q_22 : F1 43 = (F0 43) := Eq.trans (u1.2.2.1 43 rfl) (show (F 43) = (F0 43) by simp only [h43, i_as])
      rcases u1b with q | q
      · exact absurd q (show ¬ 0 < (F 44).toInt by rw [h44]; decide)
      · skip
        have h_23 : ¬ K ((F 42) + (1 : Int32)).toNatClampNeg = 1 := by
          rw [← g4]
          have q := q
          first | exact q | (simp only [h43, i_as] at q; exact q) | (simp only [h43, i_as, fup, Nat.reduceEqDiff, reduceIte, if_false] at q; exact q)
        unfold mb_tells_84
        refine PP.ite (fun c_24 => ?_) (fun c_24 => ?_)
        · skip
          exact absurd (i_le.mp (show (F1 44) ≤ (0 : Int32) from c_24)) (by have := u1.1; have l0 : (0 : Int32).toInt = 0 := rfl; omega)
        · skip
          unfold mb_tells_93
          refine PP.ret ?_
          refine Or.inr ⟨rfl, u1.1, hR.trans ?_⟩
          first | with_reducible rfl | (simp only [rtells, rtl1, rtl2, rtl3, rclose, h_23, h43, q_21, q_22, i_as, fup, i_a0, i0m, i10, eq_self, rb_yes, rb_no, ryes, rno, if_true, if_false, f_tt (p := True), reduceIte, Nat.reduceEqDiff]) | rfl
  · skip
    unfold mb_tells_70
    unfold mb_tells_80
    refine PP.bind (mp_name (fup F 42 ((F 42) + (1 : Int32))) G) ?_
    rintro r25 F25 G25 (⟨rfl, rfl, rfl, u25⟩ | ⟨rfl, u25, u25b⟩)
    · dsimp only
      have h_26 : K ((F 42) + (1 : Int32)).toNatClampNeg = 1 := by
        rw [← g4]
        have q := u25.1
        first | exact q | (simp only [h43, i_as] at q; exact q) | (simp only [h43, i_as, fup, Nat.reduceEqDiff, reduceIte, if_false] at q; exact q)
      have h_27 := eq_true h_26
      unfold mb_tells_84
      refine PP.ite (fun c_28 => ?_) (fun c_28 => ?_)
      · skip
        unfold mb_tells_95
        refine PP.ite (fun c_29 => absurd c_29 (by decide)) (fun _ => ?_)
        exact mrj_tells_117 (F0 := F0) (R0 := R0) (0 : Int32) (1 : Int32) ((((F 42) + (1 : Int32)) + (1 : Int32)) - (1 : Int32)) (fup (fup F 42 ((F 42) + (1 : Int32))) 42 (((F 42) + (1 : Int32)) + (1 : Int32))) G g4 g5 (Or.inr (Or.inl ⟨rfl, rfl, h44, (by first | with_reducible rfl | (simp only [h43, i_as, fup, Nat.reduceEqDiff, reduceIte, if_false]) | rfl), (hR.trans (by first | with_reducible rfl | (simp only [rtells, rtl1, rtl2, rtl3, rclose, h_27, h43, i_as, fup, i_a0, i0m, i10, eq_self, rb_yes, rb_no, ryes, rno, if_true, if_false, f_tt (p := True), reduceIte, Nat.reduceEqDiff]) | rfl))⟩))
      · skip
        exact absurd (i_npos (show ¬ ((F 44) ≤ (0 : Int32)) from c_28)) (by rw [h44]; decide)
    · dsimp only
      have g_30 : G25 4 = K := Eq.trans (u25.2.2.2 4 rfl) g4
      have g_31 : G25 5 = V := Eq.trans (u25.2.2.2 5 rfl) g5
      have q_32 : F25 42 = ((F 42) + (1 : Int32)) := u25.2.2.1 42 rfl
      have q_33 : F25 43 = (F0 43) := Eq.trans (u25.2.2.1 43 rfl) (show (F 43) = (F0 43) by simp only [h43, i_as])
      rcases u25b with q | q
      · exact absurd q (show ¬ 0 < (F 44).toInt by rw [h44]; decide)
      · skip
        have h_34 : ¬ K ((F 42) + (1 : Int32)).toNatClampNeg = 1 := by
          rw [← g4]
          have q := q
          first | exact q | (simp only [h43, i_as] at q; exact q) | (simp only [h43, i_as, fup, Nat.reduceEqDiff, reduceIte, if_false] at q; exact q)
        unfold mb_tells_84
        refine PP.ite (fun c_35 => ?_) (fun c_35 => ?_)
        · skip
          exact absurd (i_le.mp (show (F25 44) ≤ (0 : Int32) from c_35)) (by have := u25.1; have l0 : (0 : Int32).toInt = 0 := rfl; omega)
        · skip
          unfold mb_tells_93
          refine PP.ret ?_
          refine Or.inr ⟨rfl, u25.1, hR.trans ?_⟩
          first | with_reducible rfl | (simp only [rtells, rtl1, rtl2, rtl3, rclose, h_34, h43, q_32, q_33, i_as, fup, i_a0, i0m, i10, eq_self, rb_yes, rb_no, ryes, rno, if_true, if_false, f_tt (p := True), reduceIte, Nat.reduceEqDiff]) | rfl
  · skip
    unfold mb_tells_70
    unfold mb_tells_80
    refine PP.bind (mp_name (fup F 42 ((F 42) + (1 : Int32))) G) ?_
    rintro r36 F36 G36 (⟨rfl, rfl, rfl, u36⟩ | ⟨rfl, u36, u36b⟩)
    · dsimp only
      have h_37 : K ((F 42) + (1 : Int32)).toNatClampNeg = 1 := by
        rw [← g4]
        have q := u36.1
        first | exact q | (simp only [h43, i_as] at q; exact q) | (simp only [h43, i_as, fup, Nat.reduceEqDiff, reduceIte, if_false] at q; exact q)
      have h_38 := eq_true h_37
      unfold mb_tells_84
      refine PP.ite (fun c_39 => ?_) (fun c_39 => ?_)
      · skip
        unfold mb_tells_95
        refine PP.ite (fun _ => ?_) (fun c_40 => absurd (by decide) c_40)
        unfold mb_tells_99
        refine PP.bind (mp_isSign (22 : Int32) (fup (fup F 42 ((F 42) + (1 : Int32))) 42 (((F 42) + (1 : Int32)) + (1 : Int32))) G) ?_
        rintro _ _ _ ⟨rfl, rfl, (⟨rfl, u41⟩ | ⟨rfl, u41⟩)⟩
        · dsimp only
          have h_42 : sgn K V (((F 42) + (1 : Int32)) + (1 : Int32)) (22 : Int32) = true := by
            rw [← g4, ← g5]
            have q := u41
            first | exact q | (simp only [h43, i_as] at q; exact q) | (simp only [h43, i_as, fup, Nat.reduceEqDiff, reduceIte, if_false] at q; exact q)
          unfold mb_tells_105
          refine PP.ite (fun c_43 => absurd c_43 (by decide)) (fun _ => ?_)
          unfold mb_tells_108
          refine PP.bind (PP.and (mw_function x1 ((((F 42) + (1 : Int32)) + (1 : Int32)) - (1 : Int32)) (0 : Int32) (fup (fup F 42 ((F 42) + (1 : Int32))) 42 (((F 42) + (1 : Int32)) + (1 : Int32))) G) (mr_function x1 ((((F 42) + (1 : Int32)) + (1 : Int32)) - (1 : Int32)) (0 : Int32) (fup (fup F 42 ((F 42) + (1 : Int32))) 42 (((F 42) + (1 : Int32)) + (1 : Int32))) G g4 g5 (show (fup (fup F 42 ((F 42) + (1 : Int32))) 42 (((F 42) + (1 : Int32)) + (1 : Int32))) 44 = 0 from h44))) ?_
          rintro r44 F44 G44 ⟨hK44, (⟨rfl, u44a, u44b, u44⟩ | ⟨rfl, u44a, u44⟩)⟩
          · dsimp only
            have g_45 : G44 4 = K := Eq.trans (hK44.2 4 rfl) g4
            have g_46 : G44 5 = V := Eq.trans (hK44.2 5 rfl) g5
            have h_47 : rfunction K V fu (((F 42) + (1 : Int32)) + (1 : Int32)) (F0 43) = some (some (F44 42)) := by
              have q : rfunction K V fu (((F 42) + (1 : Int32)) + (1 : Int32)) (F 43) = some (some (F44 42)) := u44
              simp only [h43, i_as] at q; exact q
            have q_48 : F44 43 = (F0 43) := by
              have q := (show F44 43 = (F 43) from u44b)
              simp only [h43, i_as] at q; exact q
            unfold mb_tells_116
            refine PP.ret ?_
            refine Or.inl ⟨rfl, u44a, ?_, hR.trans ?_⟩
            · show (F44 43) = F0 43
              first | with_reducible rfl | (simp only [h43, q_48, i_as, fup, Nat.reduceEqDiff, reduceIte, if_false]) | rfl
            · show _ = some (some (F44 42))
              first | with_reducible rfl | (simp only [rtells, rtl1, rtl2, rtl3, rclose, h_38, h_42, h_47, h43, q_48, i_as, fup, i_a0, i0m, i10, eq_self, rb_yes, rb_no, ryes, rno, if_true, if_false, f_tt (p := True), reduceIte, Nat.reduceEqDiff]) | rfl
          · dsimp only
            have g_49 : G44 4 = K := Eq.trans (hK44.2 4 rfl) g4
            have g_50 : G44 5 = V := Eq.trans (hK44.2 5 rfl) g5
            have h_51 : rfunction K V fu (((F 42) + (1 : Int32)) + (1 : Int32)) (F0 43) = some (none) := by
              have q : rfunction K V fu (((F 42) + (1 : Int32)) + (1 : Int32)) (F 43) = some (none) := u44
              simp only [h43, i_as] at q; exact q
            unfold mb_tells_116
            refine PP.ret ?_
            refine Or.inr ⟨rfl, u44a, hR.trans ?_⟩
            first | with_reducible rfl | (simp only [rtells, rtl1, rtl2, rtl3, rclose, h_38, h_42, h_51, h43, i_as, fup, i_a0, i0m, i10, eq_self, rb_yes, rb_no, ryes, rno, if_true, if_false, f_tt (p := True), reduceIte, Nat.reduceEqDiff]) | rfl
        · dsimp only
          have h_52 : sgn K V (((F 42) + (1 : Int32)) + (1 : Int32)) (22 : Int32) = false := by
            rw [← g4, ← g5]
            have q := u41
            first | exact q | (simp only [h43, i_as] at q; exact q) | (simp only [h43, i_as, fup, Nat.reduceEqDiff, reduceIte, if_false] at q; exact q)
          unfold mb_tells_105
          refine PP.ite (fun _ => ?_) (fun c_53 => absurd (by decide) c_53)
          exact mrj_tells_117 (F0 := F0) (R0 := R0) (0 : Int32) (0 : Int32) ((((F 42) + (1 : Int32)) + (1 : Int32)) - (1 : Int32)) (fup (fup F 42 ((F 42) + (1 : Int32))) 42 (((F 42) + (1 : Int32)) + (1 : Int32))) G g4 g5 (Or.inr (Or.inr ⟨rfl, rfl, h44, (by first | with_reducible rfl | (simp only [h43, i_as, fup, Nat.reduceEqDiff, reduceIte, if_false]) | rfl), (hR.trans (by first | with_reducible rfl | (simp only [rtells, rtl1, rtl2, rtl3, rclose, h_38, h_52, h43, i_as, fup, i_a0, i0m, i10, eq_self, rb_yes, rb_no, ryes, rno, if_true, if_false, f_tt (p := True), reduceIte, Nat.reduceEqDiff]) | rfl))⟩))
      · skip
        exact absurd (i_npos (show ¬ ((F 44) ≤ (0 : Int32)) from c_39)) (by rw [h44]; decide)
    · dsimp only
      have g_54 : G36 4 = K := Eq.trans (u36.2.2.2 4 rfl) g4
      have g_55 : G36 5 = V := Eq.trans (u36.2.2.2 5 rfl) g5
      have q_56 : F36 42 = ((F 42) + (1 : Int32)) := u36.2.2.1 42 rfl
      have q_57 : F36 43 = (F0 43) := Eq.trans (u36.2.2.1 43 rfl) (show (F 43) = (F0 43) by simp only [h43, i_as])
      rcases u36b with q | q
      · exact absurd q (show ¬ 0 < (F 44).toInt by rw [h44]; decide)
      · skip
        have h_58 : ¬ K ((F 42) + (1 : Int32)).toNatClampNeg = 1 := by
          rw [← g4]
          have q := q
          first | exact q | (simp only [h43, i_as] at q; exact q) | (simp only [h43, i_as, fup, Nat.reduceEqDiff, reduceIte, if_false] at q; exact q)
        unfold mb_tells_84
        refine PP.ite (fun c_59 => ?_) (fun c_59 => ?_)
        · skip
          exact absurd (i_le.mp (show (F36 44) ≤ (0 : Int32) from c_59)) (by have := u36.1; have l0 : (0 : Int32).toInt = 0 := rfl; omega)
        · skip
          unfold mb_tells_93
          refine PP.ret ?_
          refine Or.inr ⟨rfl, u36.1, hR.trans ?_⟩
          first | with_reducible rfl | (simp only [rtells, rtl1, rtl2, rtl3, rclose, h_58, h43, q_56, q_57, i_as, fup, i_a0, i0m, i10, eq_self, rb_yes, rb_no, ryes, rno, if_true, if_false, f_tt (p := True), reduceIte, Nat.reduceEqDiff]) | rfl
theorem mr_tells {fu : Nat} {K V : Nat → Int32} (x1 : Int32) (F : PF) (G : PG) (g4 : G 4 = K) (g5 : G 5 = V) (h44 : F 44 = 0) : PP (mf_tells fu x1 F G) (fun r' F' _ => ROK (rtells K V fu (F 42) (F 43)) F r' F') := by
  unfold mf_tells
  unfold mb_tells_0
  unfold mb_tells_5
  refine PP.bind (mp_word (3 : Int32) (0 : Int32) (fup F 61 (0 : Int32)) G h44) ?_
  rintro r1 F1 G1 (⟨rfl, rfl, rfl, u1⟩ | ⟨rfl, u1, (⟨-, rfl, rfl⟩ | ⟨u1b, -⟩)⟩)
  · dsimp only
    have h_2 : wdn K V (F 42) (3 : Int32) = true := by
      rw [← g4, ← g5]
      have q := u1
      first | exact q | (simp only [i_as] at q; exact q)
    unfold mb_tells_11
    refine PP.ite (fun c_3 => absurd c_3 (by decide)) (fun _ => ?_)
    unfold mb_tells_14
    refine PP.bind (mp_word (0 : Int32) (1 : Int32) (fup (fup F 61 (0 : Int32)) 42 ((F 42) + (1 : Int32))) G h44) ?_
    rintro r4 F4 G4 (⟨rfl, rfl, rfl, u4⟩ | ⟨rfl, u4, (⟨u4b, -, -⟩ | ⟨-, u4c⟩)⟩)
    · dsimp only
      have h_5 : wdn K V ((F 42) + (1 : Int32)) (0 : Int32) = true := by
        rw [← g4, ← g5]
        have q := u4
        first | exact q | (simp only [i_as] at q; exact q)
      unfold mb_tells_20
      refine PP.ite (fun c_6 => absurd c_6 (by decide)) (fun _ => ?_)
      unfold mb_tells_23
      refine PP.bind (PP.and (mw_constantTold (fup (fup (fup F 61 (0 : Int32)) 42 ((F 42) + (1 : Int32))) 42 (((F 42) + (1 : Int32)) + (1 : Int32))) G) (mr_constantTold (fup (fup (fup F 61 (0 : Int32)) 42 ((F 42) + (1 : Int32))) 42 (((F 42) + (1 : Int32)) + (1 : Int32))) G g4 g5 (show (fup (fup (fup F 61 (0 : Int32)) 42 ((F 42) + (1 : Int32))) 42 (((F 42) + (1 : Int32)) + (1 : Int32))) 44 = 0 from h44))) ?_
      rintro r7 F7 G7 ⟨hK7, (⟨rfl, u7a, u7b, u7⟩ | ⟨rfl, u7a, u7⟩)⟩
      · dsimp only
        have g_8 : G7 4 = K := Eq.trans (hK7.2 4 rfl) g4
        have g_9 : G7 5 = V := Eq.trans (hK7.2 5 rfl) g5
        have h_10 : rconst K V fu (((F 42) + (1 : Int32)) + (1 : Int32)) (F 43) = some (some (F7 42)) := u7
        have q_11 : F7 43 = (F 43) := (show F7 43 = (F 43) from u7b)
        unfold mb_tells_27
        refine PP.ite (fun c_12 => absurd c_12 (by decide)) (fun _ => ?_)
        unfold mb_tells_30
        unfold mb_tells_35
        refine PP.ret ?_
        refine Or.inl ⟨rfl, u7a, ?_, (rfl : (rtells K V fu (F 42) (F 43)) = _).trans ?_⟩
        · show (F7 43) = F 43
          first | with_reducible rfl | (simp only [q_11, i_as, fup, Nat.reduceEqDiff, reduceIte, if_false]) | rfl
        · show _ = some (some (F7 42))
          first | with_reducible rfl | (simp only [rtells, rtl1, rtl2, rtl3, rclose, h_2, h_5, h_10, q_11, i_as, fup, i_a0, i0m, i10, eq_self, rb_yes, rb_no, ryes, rno, if_true, if_false, f_tt (p := True), reduceIte, Nat.reduceEqDiff]) | rfl
      · dsimp only
        have g_13 : G7 4 = K := Eq.trans (hK7.2 4 rfl) g4
        have g_14 : G7 5 = V := Eq.trans (hK7.2 5 rfl) g5
        have h_15 : rconst K V fu (((F 42) + (1 : Int32)) + (1 : Int32)) (F 43) = some (none) := u7
        unfold mb_tells_27
        refine PP.ite (fun _ => ?_) (fun c_16 => absurd (by decide) c_16)
        unfold mb_tells_34
        unfold mb_tells_35
        refine PP.ret ?_
        refine Or.inr ⟨rfl, u7a, (rfl : (rtells K V fu (F 42) (F 43)) = _).trans ?_⟩
        first | with_reducible rfl | (simp only [rtells, rtl1, rtl2, rtl3, rclose, h_2, h_5, h_15, i_as, fup, i_a0, i0m, i10, eq_self, rb_yes, rb_no, ryes, rno, if_true, if_false, f_tt (p := True), reduceIte, Nat.reduceEqDiff]) | rfl
    · exact absurd u4b (by decide)
    · dsimp only
      have g_17 : G4 4 = K := Eq.trans (u4c.2.2.2 4 rfl) g4
      have g_18 : G4 5 = V := Eq.trans (u4c.2.2.2 5 rfl) g5
      have q_19 : F4 42 = ((F 42) + (1 : Int32)) := u4c.2.2.1 42 rfl
      have q_20 : F4 43 = (F 43) := u4c.2.2.1 43 rfl
      have h_21 : wdn K V ((F 42) + (1 : Int32)) (0 : Int32) = false := by
        rw [← g4, ← g5]
        have q := u4
        first | exact q | (simp only [i_as] at q; exact q)
      unfold mb_tells_20
      refine PP.ite (fun _ => ?_) (fun c_22 => absurd (by decide) c_22)
      unfold mb_tells_34
      unfold mb_tells_35
      refine PP.ret ?_
      refine Or.inr ⟨rfl, u4c.1, (rfl : (rtells K V fu (F 42) (F 43)) = _).trans ?_⟩
      first | with_reducible rfl | (simp only [rtells, rtl1, rtl2, rtl3, rclose, h_2, h_21, q_19, q_20, i_as, fup, i_a0, i0m, i10, eq_self, rb_yes, rb_no, ryes, rno, if_true, if_false, f_tt (p := True), reduceIte, Nat.reduceEqDiff]) | rfl
  · dsimp only
    have h_23 : wdn K V (F 42) (3 : Int32) = false := by
      rw [← g4, ← g5]
      have q := u1
      first | exact q | (simp only [i_as] at q; exact q)
    unfold mb_tells_11
    refine PP.ite (fun _ => ?_) (fun c_24 => absurd (by decide) c_24)
    unfold mb_tells_36
    refine PP.bind (mp_isWord (2 : Int32) (fup F 61 (0 : Int32)) G) ?_
    rintro _ _ _ ⟨rfl, rfl, (⟨rfl, u25⟩ | ⟨rfl, u25⟩)⟩
    · dsimp only
      have h_26 : wdn K V (F 42) (2 : Int32) = true := by
        rw [← g4, ← g5]
        have q := u25
        first | exact q | (simp only [i_as] at q; exact q)
      unfold mb_tells_41
      refine PP.bind (mp_isWord (1 : Int32) (fup F 61 (0 : Int32)) G) ?_
      rintro _ _ _ ⟨rfl, rfl, (⟨rfl, u27⟩ | ⟨rfl, u27⟩)⟩
      · dsimp only
        have h_28 : wdn K V (F 42) (1 : Int32) = true := by
          rw [← g4, ← g5]
          have q := u27
          first | exact q | (simp only [i_as] at q; exact q)
        exact absurd ((wdn_ne h_26 (by decide)).symm.trans h_28) (by decide)
      · dsimp only
        have h_29 : wdn K V (F 42) (1 : Int32) = false := by
          rw [← g4, ← g5]
          have q := u27
          first | exact q | (simp only [i_as] at q; exact q)
        unfold mb_tells_47
        refine PP.ite (fun c_30 => absurd c_30 (by decide)) (fun _ => ?_)
        exact mrj_tells_70 (F0 := F) (R0 := (rtells K V fu (F 42) (F 43))) x1 (1 : Int32) (0 : Int32) (fup F 61 (0 : Int32)) G g4 g5 (Or.inl ⟨rfl, rfl, h44, (by first | with_reducible rfl | (simp only [i_as, fup, Nat.reduceEqDiff, reduceIte, if_false]) | rfl), ((rfl : (rtells K V fu (F 42) (F 43)) = _).trans (by first | with_reducible rfl | (simp only [rtells, rtl1, rtl2, rtl3, rclose, h_23, h_26, h_29, i_as, fup, i_a0, i0m, i10, eq_self, rb_yes, rb_no, ryes, rno, if_true, if_false, f_tt (p := True), reduceIte, Nat.reduceEqDiff]) | rfl))⟩)
    · dsimp only
      have h_31 : wdn K V (F 42) (2 : Int32) = false := by
        rw [← g4, ← g5]
        have q := u25
        first | exact q | (simp only [i_as] at q; exact q)
      unfold mb_tells_41
      refine PP.bind (mp_isWord (1 : Int32) (fup F 61 (0 : Int32)) G) ?_
      rintro _ _ _ ⟨rfl, rfl, (⟨rfl, u32⟩ | ⟨rfl, u32⟩)⟩
      · dsimp only
        have h_33 : wdn K V (F 42) (1 : Int32) = true := by
          rw [← g4, ← g5]
          have q := u32
          first | exact q | (simp only [i_as] at q; exact q)
        unfold mb_tells_47
        refine PP.ite (fun _ => ?_) (fun c_34 => absurd (by decide) c_34)
        unfold mb_tells_52
        refine PP.ite (fun c_35 => absurd c_35 (by decide)) (fun _ => ?_)
        exact mrj_tells_70 (F0 := F) (R0 := (rtells K V fu (F 42) (F 43))) x1 (0 : Int32) (1 : Int32) (fup F 61 (0 : Int32)) G g4 g5 (Or.inr (Or.inl ⟨rfl, rfl, h44, (by first | with_reducible rfl | (simp only [i_as, fup, Nat.reduceEqDiff, reduceIte, if_false]) | rfl), ((rfl : (rtells K V fu (F 42) (F 43)) = _).trans (by first | with_reducible rfl | (simp only [rtells, rtl1, rtl2, rtl3, rclose, h_23, h_31, h_33, i_as, fup, i_a0, i0m, i10, eq_self, rb_yes, rb_no, ryes, rno, if_true, if_false, f_tt (p := True), reduceIte, Nat.reduceEqDiff]) | rfl))⟩))
      · dsimp only
        have h_36 : wdn K V (F 42) (1 : Int32) = false := by
          rw [← g4, ← g5]
          have q := u32
          first | exact q | (simp only [i_as] at q; exact q)
        unfold mb_tells_47
        refine PP.ite (fun _ => ?_) (fun c_37 => absurd (by decide) c_37)
        unfold mb_tells_52
        refine PP.ite (fun _ => ?_) (fun c_38 => absurd (by decide) c_38)
        unfold mb_tells_56
        refine PP.bind (mp_isWord (0 : Int32) (fup F 61 (0 : Int32)) G) ?_
        rintro _ _ _ ⟨rfl, rfl, (⟨rfl, u39⟩ | ⟨rfl, u39⟩)⟩
        · dsimp only
          have h_40 : wdn K V (F 42) (0 : Int32) = true := by
            rw [← g4, ← g5]
            have q := u39
            first | exact q | (simp only [i_as] at q; exact q)
          unfold mb_tells_61
          refine PP.ite (fun c_41 => absurd c_41 (by decide)) (fun _ => ?_)
          exact mrj_tells_70 (F0 := F) (R0 := (rtells K V fu (F 42) (F 43))) x1 (0 : Int32) (0 : Int32) (fup F 61 (0 : Int32)) G g4 g5 (Or.inr (Or.inr ⟨rfl, rfl, h44, (by first | with_reducible rfl | (simp only [i_as, fup, Nat.reduceEqDiff, reduceIte, if_false]) | rfl), ((rfl : (rtells K V fu (F 42) (F 43)) = _).trans (by first | with_reducible rfl | (simp only [rtells, rtl1, rtl2, rtl3, rclose, h_23, h_31, h_36, h_40, i_as, fup, i_a0, i0m, i10, eq_self, rb_yes, rb_no, ryes, rno, if_true, if_false, f_tt (p := True), reduceIte, Nat.reduceEqDiff]) | rfl))⟩))
        · dsimp only
          have h_42 : wdn K V (F 42) (0 : Int32) = false := by
            rw [← g4, ← g5]
            have q := u39
            first | exact q | (simp only [i_as] at q; exact q)
          unfold mb_tells_61
          refine PP.ite (fun _ => ?_) (fun c_43 => absurd (by decide) c_43)
          unfold mb_tells_64
          refine PP.bind (mp_fails (2 : Int32) (by decide) (fup F 61 (0 : Int32)) G) ?_
          rintro r44 F44 G44 ⟨rfl, u44⟩
          dsimp only
          have g_45 : G44 4 = K := Eq.trans (u44.2.2.2 4 rfl) g4
          have g_46 : G44 5 = V := Eq.trans (u44.2.2.2 5 rfl) g5
          have q_47 : F44 42 = (F 42) := u44.2.2.1 42 rfl
          have q_48 : F44 43 = (F 43) := u44.2.2.1 43 rfl
          unfold mb_tells_69
          refine PP.ret ?_
          refine Or.inr ⟨rfl, u44.1, (rfl : (rtells K V fu (F 42) (F 43)) = _).trans ?_⟩
          first | with_reducible rfl | (simp only [rtells, rtl1, rtl2, rtl3, rclose, h_23, h_31, h_36, h_42, q_47, q_48, i_as, fup, i_a0, i0m, i10, eq_self, rb_yes, rb_no, ryes, rno, if_true, if_false, f_tt (p := True), reduceIte, Nat.reduceEqDiff]) | rfl
  · exact absurd rfl u1b
