theorem mrj_element_61 {fu : Nat} {K V : Nat → Int32} (rc : RC) (r : RR) (ihK : mKI1 rc) (ih : mRI1 K V rc r) {F0 : PF} {R0 : OR} (x2 : Int32) (x3 : Int32) (x4 : Int32) (F : PF) (G : PG) (g4 : G 4 = K) (g5 : G 5 = V) (hA : (F 44 = 0 ∧ F 43 = F0 43 ∧ R0 = rh_element K V r (F 42) (F 43))) : PP (mb_element_61 fu rc x2 x3 x4 F G) (fun r' F' _ => ROK R0 F0 r' F') := by
  rcases hA with ⟨h44, h43, hR⟩
  · skip
    unfold mb_element_61
    exact mrj_element_62 rc r ihK ih (F0 := F0) (R0 := R0) x2 x3 x4 (0 : Int32) F G g4 g5 ⟨h44, (by first | with_reducible rfl | (simp only [h43, i_as, fup, Nat.reduceEqDiff, reduceIte, if_false]) | rfl), (hR.trans (by first | with_reducible rfl | (simp only [rh_element, rclose, h43, i_as, fup, i_a0, i0m, i10, eq_self, rb_yes, rb_no, ryes, rno, if_true, if_false, f_tt (p := True), reduceIte, Nat.reduceEqDiff]) | rfl))⟩
theorem mrj_element_41 {fu : Nat} {K V : Nat → Int32} (rc : RC) (r : RR) (ihK : mKI1 rc) (ih : mRI1 K V rc r) {F0 : PF} {R0 : OR} (x1 : Int32) (x2 : Int32) (x3 : Int32) (z0 : Int32) (F : PF) (G : PG) (g4 : G 4 = K) (g5 : G 5 = V) (hA : (F 44 = 0 ∧ F 43 = F0 43 ∧ R0 = rh_element K V r (F 42) (F 43))) : PP (mb_element_41 fu rc x1 x2 x3 z0 F G) (fun r' F' _ => ROK R0 F0 r' F') := by
  rcases hA with ⟨h44, h43, hR⟩
  · skip
    unfold mb_element_41
    refine PP.ite (fun c_1 => ?_) (fun c_1 => ?_)
    · skip
      exact mrj_element_61 rc r ihK ih (F0 := F0) (R0 := R0) x2 x3 z0 F G g4 g5 ⟨h44, (by first | with_reducible rfl | (simp only [h43, i_as, fup, Nat.reduceEqDiff, reduceIte, if_false]) | rfl), (hR.trans (by first | with_reducible rfl | (simp only [rh_element, rclose, h43, i_as, fup, i_a0, i0m, i10, eq_self, rb_yes, rb_no, ryes, rno, if_true, if_false, f_tt (p := True), reduceIte, Nat.reduceEqDiff]) | rfl))⟩
    · skip
      unfold mb_element_48
      refine PP.ix (fun _ => ?_)
      refine PP.ite (fun c_2 => ?_) (fun c_2 => ?_)
      · skip
        exact mrj_element_61 rc r ihK ih (F0 := F0) (R0 := R0) x2 x3 z0 F G g4 g5 ⟨h44, (by first | with_reducible rfl | (simp only [h43, i_as, fup, Nat.reduceEqDiff, reduceIte, if_false]) | rfl), (hR.trans (by first | with_reducible rfl | (simp only [rh_element, rclose, h43, i_as, fup, i_a0, i0m, i10, eq_self, rb_yes, rb_no, ryes, rno, if_true, if_false, f_tt (p := True), reduceIte, Nat.reduceEqDiff]) | rfl))⟩
      · skip
        unfold mb_element_57
        exact mrj_element_62 rc r ihK ih (F0 := F0) (R0 := R0) x2 x3 z0 (1 : Int32) F G g4 g5 ⟨h44, (by first | with_reducible rfl | (simp only [h43, i_as, fup, Nat.reduceEqDiff, reduceIte, if_false]) | rfl), (hR.trans (by first | with_reducible rfl | (simp only [rh_element, rclose, h43, i_as, fup, i_a0, i0m, i10, eq_self, rb_yes, rb_no, ryes, rno, if_true, if_false, f_tt (p := True), reduceIte, Nat.reduceEqDiff]) | rfl))⟩
theorem mrj_element_25 {fu : Nat} {K V : Nat → Int32} (rc : RC) (r : RR) (ihK : mKI1 rc) (ih : mRI1 K V rc r) {F0 : PF} {R0 : OR} (x1 : Int32) (x2 : Int32) (z0 : Int32) (F : PF) (G : PG) (g4 : G 4 = K) (g5 : G 5 = V) (hA : (F 44 = 0 ∧ F 43 = F0 43 ∧ R0 = rh_element K V r (F 42) (F 43))) : PP (mb_element_25 fu rc x1 x2 z0 F G) (fun r' F' _ => ROK R0 F0 r' F') := by
  rcases hA with ⟨h44, h43, hR⟩
  · skip
    unfold mb_element_25
    refine PP.ite (fun c_1 => ?_) (fun c_1 => ?_)
    · skip
      unfold mb_element_31
      exact mrj_element_41 rc r ihK ih (F0 := F0) (R0 := R0) x1 x2 z0 (1 : Int32) F G g4 g5 ⟨h44, (by first | with_reducible rfl | (simp only [h43, i_as, fup, Nat.reduceEqDiff, reduceIte, if_false]) | rfl), (hR.trans (by first | with_reducible rfl | (simp only [rh_element, rclose, h43, i_as, fup, i_a0, i0m, i10, eq_self, rb_yes, rb_no, ryes, rno, if_true, if_false, f_tt (p := True), reduceIte, Nat.reduceEqDiff]) | rfl))⟩
    · skip
      unfold mb_element_35
      refine PP.ix (fun _ => ?_)
      exact mrj_element_41 rc r ihK ih (F0 := F0) (R0 := R0) x1 x2 z0 (G 21 x1.toNatClampNeg) F G g4 g5 ⟨h44, (by first | with_reducible rfl | (simp only [h43, i_as, fup, Nat.reduceEqDiff, reduceIte, if_false]) | rfl), (hR.trans (by first | with_reducible rfl | (simp only [rh_element, rclose, h43, i_as, fup, i_a0, i0m, i10, eq_self, rb_yes, rb_no, ryes, rno, if_true, if_false, f_tt (p := True), reduceIte, Nat.reduceEqDiff]) | rfl))⟩
theorem mrt_element {fu : Nat} {K V : Nat → Int32} (rc : RC) (r : RR) (ihK : mKI1 rc) (ih : mRI1 K V rc r) (x1 : Int32) (F : PF) (G : PG) (g4 : G 4 = K) (g5 : G 5 = V) (h44 : F 44 = 0) : PP (mh_element fu rc x1 F G) (fun r' F' _ => ROK (rh_element K V r (F 42) (F 43)) F r' F') := by
  unfold mh_element
  unfold mb_element_0
  refine PP.ix (fun _ => ?_)
  refine PP.ite (fun c_1 => ?_) (fun c_1 => ?_)
  · skip
    unfold mb_element_15
    exact mrj_element_25 rc r ihK ih (F0 := F) (R0 := (rh_element K V r (F 42) (F 43))) x1 (G 6 (F 42).toNatClampNeg) (0 : Int32) F G g4 g5 ⟨h44, (by first | with_reducible rfl | (simp only [i_as, fup, Nat.reduceEqDiff, reduceIte, if_false]) | rfl), ((rfl : (rh_element K V r (F 42) (F 43)) = _).trans (by first | with_reducible rfl | (simp only [rh_element, rclose, i_as, fup, i_a0, i0m, i10, eq_self, rb_yes, rb_no, ryes, rno, if_true, if_false, f_tt (p := True), reduceIte, Nat.reduceEqDiff]) | rfl))⟩
  · skip
    unfold mb_element_19
    refine PP.ix (fun _ => ?_)
    exact mrj_element_25 rc r ihK ih (F0 := F) (R0 := (rh_element K V r (F 42) (F 43))) x1 (G 6 (F 42).toNatClampNeg) (G 20 x1.toNatClampNeg) F G g4 g5 ⟨h44, (by first | with_reducible rfl | (simp only [i_as, fup, Nat.reduceEqDiff, reduceIte, if_false]) | rfl), ((rfl : (rh_element K V r (F 42) (F 43)) = _).trans (by first | with_reducible rfl | (simp only [rh_element, rclose, i_as, fup, i_a0, i0m, i10, eq_self, rb_yes, rb_no, ryes, rno, if_true, if_false, f_tt (p := True), reduceIte, Nat.reduceEqDiff]) | rfl))⟩
theorem mrt_expression {fu : Nat} {K V : Nat → Int32} (rc : RC) (r : RR) (ihK : mKI1 rc) (ih : mRI1 K V rc r) (F : PF) (G : PG) (g4 : G 4 = K) (g5 : G 5 = V) (h44 : F 44 = 0) : PP (mh_expression fu rc F G) (fun r' F' _ => ROK (rh_expression K V r (F 42) (F 43)) F r' F') := by
  unfold mh_expression
  unfold mb_expression_0
  refine PP.bind (PP.and (ihK 2 0 0 F G) (ih.2.2.2 2 0 0 F G g4 g5 (show F 44 = 0 from h44) (fun e => absurd e (by decide)))) ?_
  rintro r1 F1 G1 ⟨hK1, (⟨rfl, u1a, u1b, u1⟩ | ⟨rfl, u1a, u1⟩)⟩
  · dsimp only
    have g_2 : G1 4 = K := Eq.trans (hK1.2 4 rfl) g4
    have g_3 : G1 5 = V := Eq.trans (hK1.2 5 rfl) g5
    have h_4 : r 2 (F 42) (F 43) = some (some (F1 42)) := u1
    have q_5 : F1 43 = (F 43) := (show F1 43 = (F 43) from u1b)
    unfold mb_expression_4
    refine PP.ite (fun c_6 => absurd c_6 (by decide)) (fun _ => ?_)
    unfold mb_expression_9
    refine PP.bind (mp_isSign (30 : Int32) F1 G1) ?_
    rintro _ _ _ ⟨rfl, rfl, (⟨rfl, u7⟩ | ⟨rfl, u7⟩)⟩
    · dsimp only
      have h_8 : sgn K V (F1 42) (30 : Int32) = true := by
        rw [← g_2, ← g_3]
        have q := u7
        first | exact q | (simp only [q_5, i_as] at q; exact q)
      unfold mb_expression_15
      refine PP.ite (fun c_9 => absurd c_9 (by decide)) (fun _ => ?_)
      unfold mb_expression_20
      refine PP.bind (mp_opens F1 G1) ?_
      rintro r10 F10 G10 (⟨rfl, rfl, rfl, u10⟩ | ⟨rfl, u10, u10b⟩)
      · dsimp only
        have h_11 : ¬ (F 43) = 40 := by
          have q : ¬ (F1 43) = 40 := u10
          first | exact q | (simp only [q_5, i_as] at q; exact q)
        unfold mb_expression_24
        refine PP.ite (fun c_12 => absurd c_12 (by decide)) (fun _ => ?_)
        unfold mb_expression_29
        refine PP.bind (mw_step (13 : Int32) (0 : Int32) (0 : Int32) (fup (fup F1 43 ((F1 43) + (1 : Int32))) 42 ((F1 42) + (1 : Int32))) G1) ?_
        intro r13 F13 G13 hK13
        dsimp only
        have g_14 : G13 4 = K := Eq.trans (hK13.2 4 rfl) g_2
        have g_15 : G13 5 = V := Eq.trans (hK13.2 5 rfl) g_3
        have q_16 : F13 42 = ((F1 42) + (1 : Int32)) := hK13.1 42 rfl
        have q_17 : F13 43 = ((F 43) + (1 : Int32)) := Eq.trans (hK13.1 43 rfl) (show ((F1 43) + (1 : Int32)) = ((F 43) + (1 : Int32)) by simp only [q_5, i_as])
        have q_18 : F13 44 = 0 := Eq.trans (hK13.1 44 rfl) u1a
        unfold mb_expression_37
        refine PP.bind (PP.and (ihK 4 0 0 F13 G13) (ih.2.2.2 4 0 0 F13 G13 g_14 g_15 (show F13 44 = 0 from q_18) (fun e => absurd e (by decide)))) ?_
        rintro r19 F19 G19 ⟨hK19, (⟨rfl, u19a, u19b, u19⟩ | ⟨rfl, u19a, u19⟩)⟩
        · dsimp only
          have g_20 : G19 4 = K := Eq.trans (hK19.2 4 rfl) g_14
          have g_21 : G19 5 = V := Eq.trans (hK19.2 5 rfl) g_15
          have h_22 : r 4 ((F1 42) + (1 : Int32)) ((F 43) + (1 : Int32)) = some (some (F19 42)) := by
            have q : r 4 (F13 42) (F13 43) = some (some (F19 42)) := u19
            simp only [q_16, q_17, i_as] at q; exact q
          have q_23 : F19 43 = ((F 43) + (1 : Int32)) := by
            have q := (show F19 43 = (F13 43) from u19b)
            simp only [q_16, q_17, i_as] at q; exact q
          unfold mb_expression_42
          refine PP.ite (fun c_24 => absurd c_24 (by decide)) (fun _ => ?_)
          unfold mb_expression_45
          refine PP.bind (mp_sign (31 : Int32) F19 G19) ?_
          rintro r25 F25 G25 (⟨rfl, rfl, rfl, u25⟩ | ⟨rfl, u25, u25b⟩)
          · dsimp only
            have h_26 : sgn K V (F19 42) (31 : Int32) = true := by
              rw [← g_20, ← g_21]
              have q := u25.1
              first | exact q | (simp only [q_23, i_as] at q; exact q)
            unfold mb_expression_51
            refine PP.ite (fun c_27 => absurd c_27 (by decide)) (fun _ => ?_)
            unfold mb_expression_56
            refine PP.bind (mw_step (12 : Int32) (0 : Int32) (0 : Int32) (fup F19 42 ((F19 42) + (1 : Int32))) G19) ?_
            intro r28 F28 G28 hK28
            dsimp only
            have g_29 : G28 4 = K := Eq.trans (hK28.2 4 rfl) g_20
            have g_30 : G28 5 = V := Eq.trans (hK28.2 5 rfl) g_21
            have q_31 : F28 42 = ((F19 42) + (1 : Int32)) := hK28.1 42 rfl
            have q_32 : F28 43 = ((F 43) + (1 : Int32)) := Eq.trans (hK28.1 43 rfl) (show (F19 43) = ((F 43) + (1 : Int32)) by simp only [q_23, i_as])
            have q_33 : F28 44 = 0 := Eq.trans (hK28.1 44 rfl) u19a
            unfold mb_expression_64
            refine PP.ix (fun _ => ?_)
            unfold mb_expression_75
            refine PP.bind (PP.and (ihK 4 0 0 F28 (gup G28 57 r13.toNatClampNeg (F28 60))) (ih.2.2.2 4 0 0 F28 (gup G28 57 r13.toNatClampNeg (F28 60)) g_29 g_30 (show F28 44 = 0 from q_33) (fun e => absurd e (by decide)))) ?_
            rintro r34 F34 G34 ⟨hK34, (⟨rfl, u34a, u34b, u34⟩ | ⟨rfl, u34a, u34⟩)⟩
            · dsimp only
              have g_35 : G34 4 = K := Eq.trans (hK34.2 4 rfl) g_29
              have g_36 : G34 5 = V := Eq.trans (hK34.2 5 rfl) g_30
              have h_37 : r 4 ((F19 42) + (1 : Int32)) ((F 43) + (1 : Int32)) = some (some (F34 42)) := by
                have q : r 4 (F28 42) (F28 43) = some (some (F34 42)) := u34
                simp only [q_31, q_32, i_as] at q; exact q
              have q_38 : F34 43 = ((F 43) + (1 : Int32)) := by
                have q := (show F34 43 = (F28 43) from u34b)
                simp only [q_31, q_32, i_as] at q; exact q
              unfold mb_expression_79
              refine PP.ite (fun c_39 => absurd c_39 (by decide)) (fun _ => ?_)
              unfold mb_expression_84
              refine PP.ix (fun _ => ?_)
              unfold mb_expression_94
              unfold mb_expression_104
              refine PP.ret ?_
              refine Or.inl ⟨rfl, u34a, ?_, (rfl : (rh_expression K V r (F 42) (F 43)) = _).trans ?_⟩
              · show ((F34 43) - (1 : Int32)) = F 43
                first | with_reducible rfl | (simp only [q_5, q_16, q_17, q_23, q_31, q_32, q_38, i_as, fup, Nat.reduceEqDiff, reduceIte, if_false]) | rfl
              · show _ = some (some (F34 42))
                first | with_reducible rfl | (simp only [rh_expression, h_4, h_8, h_11, h_22, h_26, h_37, q_5, q_16, q_17, q_23, q_31, q_32, q_38, i_as, fup, i_a0, i0m, i10, eq_self, rb_yes, rb_no, ryes, rno, if_true, if_false, f_tt (p := True), reduceIte, Nat.reduceEqDiff]) | rfl
            · dsimp only
              have g_40 : G34 4 = K := Eq.trans (hK34.2 4 rfl) g_29
              have g_41 : G34 5 = V := Eq.trans (hK34.2 5 rfl) g_30
              have h_42 : r 4 ((F19 42) + (1 : Int32)) ((F 43) + (1 : Int32)) = some (none) := by
                have q : r 4 (F28 42) (F28 43) = some (none) := u34
                simp only [q_31, q_32, i_as] at q; exact q
              unfold mb_expression_79
              refine PP.ite (fun _ => ?_) (fun c_43 => absurd (by decide) c_43)
              unfold mb_expression_82
              refine PP.ret ?_
              refine Or.inr ⟨rfl, u34a, (rfl : (rh_expression K V r (F 42) (F 43)) = _).trans ?_⟩
              first | with_reducible rfl | (simp only [rh_expression, h_4, h_8, h_11, h_22, h_26, h_42, q_5, q_16, q_17, q_23, q_31, q_32, i_as, fup, i_a0, i0m, i10, eq_self, rb_yes, rb_no, ryes, rno, if_true, if_false, f_tt (p := True), reduceIte, Nat.reduceEqDiff]) | rfl
          · dsimp only
            have g_44 : G25 4 = K := Eq.trans (u25.2.2.2 4 rfl) g_20
            have g_45 : G25 5 = V := Eq.trans (u25.2.2.2 5 rfl) g_21
            have q_46 : F25 42 = (F19 42) := u25.2.2.1 42 rfl
            have q_47 : F25 43 = ((F 43) + (1 : Int32)) := Eq.trans (u25.2.2.1 43 rfl) (show (F19 43) = ((F 43) + (1 : Int32)) by simp only [q_23, i_as])
            rcases u25b with q | q
            · exact absurd q (show ¬ 0 < (F19 44).toInt by rw [u19a]; decide)
            · skip
              have h_48 : sgn K V (F19 42) (31 : Int32) = false := by
                rw [← g_20, ← g_21]
                have q := q
                first | exact q | (simp only [q_23, i_as] at q; exact q)
              unfold mb_expression_51
              refine PP.ite (fun _ => ?_) (fun c_49 => absurd (by decide) c_49)
              unfold mb_expression_54
              refine PP.ret ?_
              refine Or.inr ⟨rfl, u25.1, (rfl : (rh_expression K V r (F 42) (F 43)) = _).trans ?_⟩
              first | with_reducible rfl | (simp only [rh_expression, h_4, h_8, h_11, h_22, h_48, q_5, q_16, q_17, q_23, q_46, q_47, i_as, fup, i_a0, i0m, i10, eq_self, rb_yes, rb_no, ryes, rno, if_true, if_false, f_tt (p := True), reduceIte, Nat.reduceEqDiff]) | rfl
        · dsimp only
          have g_50 : G19 4 = K := Eq.trans (hK19.2 4 rfl) g_14
          have g_51 : G19 5 = V := Eq.trans (hK19.2 5 rfl) g_15
          have h_52 : r 4 ((F1 42) + (1 : Int32)) ((F 43) + (1 : Int32)) = some (none) := by
            have q : r 4 (F13 42) (F13 43) = some (none) := u19
            simp only [q_16, q_17, i_as] at q; exact q
          unfold mb_expression_42
          refine PP.ite (fun _ => ?_) (fun c_53 => absurd (by decide) c_53)
          unfold mb_expression_54
          refine PP.ret ?_
          refine Or.inr ⟨rfl, u19a, (rfl : (rh_expression K V r (F 42) (F 43)) = _).trans ?_⟩
          first | with_reducible rfl | (simp only [rh_expression, h_4, h_8, h_11, h_52, q_5, q_16, q_17, i_as, fup, i_a0, i0m, i10, eq_self, rb_yes, rb_no, ryes, rno, if_true, if_false, f_tt (p := True), reduceIte, Nat.reduceEqDiff]) | rfl
      · dsimp only
        have g_54 : G10 4 = K := Eq.trans (u10.2.2.2 4 rfl) g_2
        have g_55 : G10 5 = V := Eq.trans (u10.2.2.2 5 rfl) g_3
        have q_56 : F10 42 = (F1 42) := u10.2.2.1 42 rfl
        have q_57 : F10 43 = (F 43) := Eq.trans (u10.2.2.1 43 rfl) (show (F1 43) = (F 43) by simp only [q_5, i_as])
        have h_58 : ((F 43) = 40) = True := by
          have q : (F1 43) = 40 := u10b
          first | exact eq_true q | (simp only [q_5, i_as] at q; exact eq_true q)
        unfold mb_expression_24
        refine PP.ite (fun _ => ?_) (fun c_59 => absurd (by decide) c_59)
        unfold mb_expression_27
        refine PP.ret ?_
        refine Or.inr ⟨rfl, u10.1, (rfl : (rh_expression K V r (F 42) (F 43)) = _).trans ?_⟩
        first | with_reducible rfl | (simp only [rh_expression, h_4, h_8, h_58, q_5, q_56, q_57, i_as, fup, i_a0, i0m, i10, eq_self, rb_yes, rb_no, ryes, rno, if_true, if_false, f_tt (p := True), reduceIte, Nat.reduceEqDiff]) | rfl
    · dsimp only
      have h_60 : sgn K V (F1 42) (30 : Int32) = false := by
        rw [← g_2, ← g_3]
        have q := u7
        first | exact q | (simp only [q_5, i_as] at q; exact q)
      unfold mb_expression_15
      refine PP.ite (fun _ => ?_) (fun c_61 => absurd (by decide) c_61)
      unfold mb_expression_18
      refine PP.ret ?_
      refine Or.inl ⟨rfl, u1a, ?_, (rfl : (rh_expression K V r (F 42) (F 43)) = _).trans ?_⟩
      · show (F1 43) = F 43
        first | with_reducible rfl | (simp only [q_5, i_as, fup, Nat.reduceEqDiff, reduceIte, if_false]) | rfl
      · show _ = some (some (F1 42))
        first | with_reducible rfl | (simp only [rh_expression, h_4, h_60, q_5, i_as, fup, i_a0, i0m, i10, eq_self, rb_yes, rb_no, ryes, rno, if_true, if_false, f_tt (p := True), reduceIte, Nat.reduceEqDiff]) | rfl
  · dsimp only
    have g_62 : G1 4 = K := Eq.trans (hK1.2 4 rfl) g4
    have g_63 : G1 5 = V := Eq.trans (hK1.2 5 rfl) g5
    have h_64 : r 2 (F 42) (F 43) = some (none) := u1
    unfold mb_expression_4
    refine PP.ite (fun _ => ?_) (fun c_65 => absurd (by decide) c_65)
    unfold mb_expression_7
    refine PP.ret ?_
    refine Or.inr ⟨rfl, u1a, (rfl : (rh_expression K V r (F 42) (F 43)) = _).trans ?_⟩
    first | with_reducible rfl | (simp only [rh_expression, h_64, i_as, fup, i_a0, i0m, i10, eq_self, rb_yes, rb_no, ryes, rno, if_true, if_false, f_tt (p := True), reduceIte, Nat.reduceEqDiff]) | rfl
theorem mrj_inConstant_248 {fu : Nat} {K V : Nat → Int32} (rc : RC) (r : RR) (ihK : mKI1 rc) (ih : mRI1 K V rc r) {F0 : PF} {R0 : OR} (F : PF) (G : PG) (g4 : G 4 = K) (g5 : G 5 = V) (hA : (F 44 = 0 ∧ F 43 = F0 43 ∧ R0 = ryes (F 42))) : PP (mb_inConstant_248 fu rc F G) (fun r' F' _ => ROK R0 F0 r' F') := by
  rcases hA with ⟨h44, h43, hR⟩
  · skip
    unfold mb_inConstant_248
    refine PP.ret ?_
    refine Or.inl ⟨rfl, h44, ?_, hR.trans ?_⟩
    · show (F 43) = F0 43
      first | with_reducible rfl | (simp only [h43, i_as, fup, Nat.reduceEqDiff, reduceIte, if_false]) | rfl
    · show _ = some (some (F 42))
      first | with_reducible rfl | (simp only [rh_tail, h43, i_as, fup, i_a0, i0m, i10, eq_self, rb_yes, rb_no, ryes, rno, if_true, if_false, f_tt (p := True), reduceIte, Nat.reduceEqDiff]) | rfl
theorem mrj_inConstant_243 {fu : Nat} {K V : Nat → Int32} (rc : RC) (r : RR) (ihK : mKI1 rc) (ih : mRI1 K V rc r) {F0 : PF} {R0 : OR} (z0 : Int32) (z1 : Int32) (F : PF) (G : PG) (g4 : G 4 = K) (g5 : G 5 = V) (hA : (F 44 = 0 ∧ F 43 = F0 43 ∧ R0 = ryes (F 42))) : PP (mb_inConstant_243 fu rc z0 z1 F G) (fun r' F' _ => ROK R0 F0 r' F') := by
  rcases hA with ⟨h44, h43, hR⟩
  · skip
    unfold mb_inConstant_243
    refine PP.bind (mw_step z1 z0 (0 : Int32) F G) ?_
    intro r1 F1 G1 hK1
    dsimp only
    have g_2 : G1 4 = K := Eq.trans (hK1.2 4 rfl) g4
    have g_3 : G1 5 = V := Eq.trans (hK1.2 5 rfl) g5
    have q_4 : F1 42 = (F 42) := hK1.1 42 rfl
    have q_5 : F1 43 = (F0 43) := Eq.trans (hK1.1 43 rfl) (show (F 43) = (F0 43) by simp only [h43, i_as])
    have q_6 : F1 44 = 0 := Eq.trans (hK1.1 44 rfl) h44
    unfold mb_inConstant_247
    exact mrj_inConstant_248 rc r ihK ih (F0 := F0) (R0 := R0) F1 G1 g_2 g_3 ⟨q_6, (by first | with_reducible rfl | (simp only [h43, q_4, q_5, i_as, fup, Nat.reduceEqDiff, reduceIte, if_false]) | rfl), (hR.trans (by first | with_reducible rfl | (simp only [rh_tail, h43, q_4, q_5, i_as, fup, i_a0, i0m, i10, eq_self, rb_yes, rb_no, ryes, rno, if_true, if_false, f_tt (p := True), reduceIte, Nat.reduceEqDiff]) | rfl))⟩
theorem mrj_inConstant_221 {fu : Nat} {K V : Nat → Int32} (rc : RC) (r : RR) (ihK : mKI1 rc) (ih : mRI1 K V rc r) {F0 : PF} {R0 : OR} (x2 : Int32) (x4 : Int32) (x5 : Int32) (F : PF) (G : PG) (g4 : G 4 = K) (g5 : G 5 = V) (hA : (F 44 = 0 ∧ F 43 = F0 43 ∧ R0 = ryes (F 42))) : PP (mb_inConstant_221 fu rc x2 x4 x5 F G) (fun r' F' _ => ROK R0 F0 r' F') := by
  rcases hA with ⟨h44, h43, hR⟩
  · skip
    unfold mb_inConstant_221
    refine PP.ite (fun c_1 => ?_) (fun c_1 => ?_)
    · skip
      unfold mb_inConstant_226
      refine PP.ite (fun c_2 => ?_) (fun c_2 => ?_)
      · skip
        unfold mb_inConstant_242
        exact mrj_inConstant_243 rc r ihK ih (F0 := F0) (R0 := R0) (0 : Int32) (0 : Int32) F G g4 g5 ⟨h44, (by first | with_reducible rfl | (simp only [h43, i_as, fup, Nat.reduceEqDiff, reduceIte, if_false]) | rfl), (hR.trans (by first | with_reducible rfl | (simp only [rh_tail, h43, i_as, fup, i_a0, i0m, i10, eq_self, rb_yes, rb_no, ryes, rno, if_true, if_false, f_tt (p := True), reduceIte, Nat.reduceEqDiff]) | rfl))⟩
      · skip
        unfold mb_inConstant_233
        refine PP.ix (fun _ => ?_)
        exact mrj_inConstant_243 rc r ihK ih (F0 := F0) (R0 := R0) (G 20 x2.toNatClampNeg) (0 : Int32) F G g4 g5 ⟨h44, (by first | with_reducible rfl | (simp only [h43, i_as, fup, Nat.reduceEqDiff, reduceIte, if_false]) | rfl), (hR.trans (by first | with_reducible rfl | (simp only [rh_tail, h43, i_as, fup, i_a0, i0m, i10, eq_self, rb_yes, rb_no, ryes, rno, if_true, if_false, f_tt (p := True), reduceIte, Nat.reduceEqDiff]) | rfl))⟩
    · skip
      exact mrj_inConstant_248 rc r ihK ih (F0 := F0) (R0 := R0) F G g4 g5 ⟨h44, (by first | with_reducible rfl | (simp only [h43, i_as, fup, Nat.reduceEqDiff, reduceIte, if_false]) | rfl), (hR.trans (by first | with_reducible rfl | (simp only [rh_tail, h43, i_as, fup, i_a0, i0m, i10, eq_self, rb_yes, rb_no, ryes, rno, if_true, if_false, f_tt (p := True), reduceIte, Nat.reduceEqDiff]) | rfl))⟩
theorem mrj_inConstant_182 {fu : Nat} {K V : Nat → Int32} (rc : RC) (r : RR) (ihK : mKI1 rc) (ih : mRI1 K V rc r) {F0 : PF} {R0 : OR} (x2 : Int32) (x4 : Int32) (x5 : Int32) (F : PF) (G : PG) (g4 : G 4 = K) (g5 : G 5 = V) (hA : (x4 = 0 ∧ F 44 = 0 ∧ F 43 = F0 43 ∧ R0 = ryes (F 42) ∧ sgn K V (F 42) (24 : Int32) = false) ∨ (x4 = 1 ∧ F 44 = 0 ∧ F 43 = F0 43 ∧ R0 = r 3 (F 42) (F 43) ∧ sgn K V (F 42) (24 : Int32) = true ∧ K ((F 42) - (1 : Int32)).toNatClampNeg = (1 : Int32)) ∨ (x4 = 1 ∧ F 44 = 0 ∧ F 43 = F0 43 ∧ R0 = ryes (F 42) ∧ ¬ K ((F 42) - (1 : Int32)).toNatClampNeg = (1 : Int32))) : PP (mb_inConstant_182 fu rc x2 x4 x5 F G) (fun r' F' _ => ROK R0 F0 r' F') := by
  rcases hA with ⟨rfl, h44, h43, hR, hx0⟩ | ⟨rfl, h44, h43, hR, hx0, hx1⟩ | ⟨rfl, h44, h43, hR, hx0⟩
  · skip
    unfold mb_inConstant_182
    refine PP.bind (mp_isSign (24 : Int32) F G) ?_
    rintro _ _ _ ⟨rfl, rfl, (⟨rfl, u1⟩ | ⟨rfl, u1⟩)⟩
    · dsimp only
      have h_2 : sgn K V (F 42) (24 : Int32) = true := by
        rw [← g4, ← g5]
        have q := u1
        first | exact q | (simp only [h43, i_as] at q; exact q)
      exact absurd (hx0.symm.trans h_2) (by decide)
    · dsimp only
      have h_3 : sgn K V (F 42) (24 : Int32) = false := by
        rw [← g4, ← g5]
        have q := u1
        first | exact q | (simp only [h43, i_as] at q; exact q)
      unfold mb_inConstant_188
      refine PP.ite (fun _ => ?_) (fun c_4 => absurd (by decide) c_4)
      exact mrj_inConstant_221 rc r ihK ih (F0 := F0) (R0 := R0) x2 (0 : Int32) x5 F G g4 g5 ⟨h44, (by first | with_reducible rfl | (simp only [h43, i_as, fup, Nat.reduceEqDiff, reduceIte, if_false]) | rfl), (hR.trans (by first | with_reducible rfl | (simp only [rh_tail, hx0, h_3, h43, i_as, fup, i_a0, i0m, i10, eq_self, rb_yes, rb_no, ryes, rno, if_true, if_false, f_tt (p := True), reduceIte, Nat.reduceEqDiff]) | rfl))⟩
  · skip
    unfold mb_inConstant_182
    refine PP.bind (mp_isSign (24 : Int32) F G) ?_
    rintro _ _ _ ⟨rfl, rfl, (⟨rfl, u5⟩ | ⟨rfl, u5⟩)⟩
    · dsimp only
      have h_6 : sgn K V (F 42) (24 : Int32) = true := by
        rw [← g4, ← g5]
        have q := u5
        first | exact q | (simp only [h43, i_as] at q; exact q)
      unfold mb_inConstant_188
      refine PP.ite (fun c_7 => absurd c_7 (by decide)) (fun _ => ?_)
      unfold mb_inConstant_191
      refine PP.ite (fun c_8 => absurd c_8 (by decide)) (fun _ => ?_)
      unfold mb_inConstant_196
      refine PP.ix (fun _ => ?_)
      refine PP.ite (fun c_9 => ?_) (fun c_9 => ?_)
      · skip
        have h_10 : K ((F 42) - (1 : Int32)).toNatClampNeg = (1 : Int32) := by
          rw [← g4]
          have q := c_9
          first | exact q | (simp only [h43, i_as] at q; exact q)
        have h_11 := eq_true h_10
        unfold mb_inConstant_211
        refine PP.bind (PP.and (ihK 3 (-1 : Int32) 0 F G) (ih.2.2.2 3 (-1 : Int32) 0 F G g4 g5 (show F 44 = 0 from h44) (fun e => absurd e (by decide)))) ?_
        rintro r12 F12 G12 ⟨hK12, (⟨rfl, u12a, u12b, u12⟩ | ⟨rfl, u12a, u12⟩)⟩
        · dsimp only
          have g_13 : G12 4 = K := Eq.trans (hK12.2 4 rfl) g4
          have g_14 : G12 5 = V := Eq.trans (hK12.2 5 rfl) g5
          have h_15 : r 3 (F 42) (F0 43) = some (some (F12 42)) := by
            have q : r 3 (F 42) (F 43) = some (some (F12 42)) := u12
            simp only [h43, i_as] at q; exact q
          have q_16 : F12 43 = (F0 43) := by
            have q := (show F12 43 = (F 43) from u12b)
            simp only [h43, i_as] at q; exact q
          unfold mb_inConstant_216
          refine PP.ite (fun c_17 => absurd c_17 (by decide)) (fun _ => ?_)
          exact mrj_inConstant_221 rc r ihK ih (F0 := F0) (R0 := R0) x2 (1 : Int32) x5 F12 G12 g_13 g_14 ⟨u12a, (by first | with_reducible rfl | (simp only [h43, q_16, i_as, fup, Nat.reduceEqDiff, reduceIte, if_false]) | rfl), (hR.trans (by first | with_reducible rfl | (simp only [rh_tail, hx0, (eq_true hx1), h_6, h_11, h_15, h43, q_16, i_as, fup, i_a0, i0m, i10, eq_self, rb_yes, rb_no, ryes, rno, if_true, if_false, f_tt (p := True), reduceIte, Nat.reduceEqDiff]) | rfl))⟩
        · dsimp only
          have g_18 : G12 4 = K := Eq.trans (hK12.2 4 rfl) g4
          have g_19 : G12 5 = V := Eq.trans (hK12.2 5 rfl) g5
          have h_20 : r 3 (F 42) (F0 43) = some (none) := by
            have q : r 3 (F 42) (F 43) = some (none) := u12
            simp only [h43, i_as] at q; exact q
          unfold mb_inConstant_216
          refine PP.ite (fun _ => ?_) (fun c_21 => absurd (by decide) c_21)
          unfold mb_inConstant_219
          refine PP.ret ?_
          refine Or.inr ⟨rfl, u12a, hR.trans ?_⟩
          first | with_reducible rfl | (simp only [rh_tail, hx0, (eq_true hx1), h_6, h_11, h_20, h43, i_as, fup, i_a0, i0m, i10, eq_self, rb_yes, rb_no, ryes, rno, if_true, if_false, f_tt (p := True), reduceIte, Nat.reduceEqDiff]) | rfl
      · skip
        have h_22 : ¬ K ((F 42) - (1 : Int32)).toNatClampNeg = (1 : Int32) := by
          rw [← g4]
          have q := c_9
          first | exact q | (simp only [h43, i_as] at q; exact q)
        exact absurd hx1 h_22
    · dsimp only
      have h_23 : sgn K V (F 42) (24 : Int32) = false := by
        rw [← g4, ← g5]
        have q := u5
        first | exact q | (simp only [h43, i_as] at q; exact q)
      exact absurd (hx0.symm.trans h_23) (by decide)
  · skip
    unfold mb_inConstant_182
    refine PP.bind (mp_isSign (24 : Int32) F G) ?_
    rintro _ _ _ ⟨rfl, rfl, (⟨rfl, u24⟩ | ⟨rfl, u24⟩)⟩
    · dsimp only
      have h_25 : sgn K V (F 42) (24 : Int32) = true := by
        rw [← g4, ← g5]
        have q := u24
        first | exact q | (simp only [h43, i_as] at q; exact q)
      unfold mb_inConstant_188
      refine PP.ite (fun c_26 => absurd c_26 (by decide)) (fun _ => ?_)
      unfold mb_inConstant_191
      refine PP.ite (fun c_27 => absurd c_27 (by decide)) (fun _ => ?_)
      unfold mb_inConstant_196
      refine PP.ix (fun _ => ?_)
      refine PP.ite (fun c_28 => ?_) (fun c_28 => ?_)
      · skip
        have h_29 : K ((F 42) - (1 : Int32)).toNatClampNeg = (1 : Int32) := by
          rw [← g4]
          have q := c_28
          first | exact q | (simp only [h43, i_as] at q; exact q)
        have h_30 := eq_true h_29
        exact absurd h_29 hx0
      · skip
        have h_31 : ¬ K ((F 42) - (1 : Int32)).toNatClampNeg = (1 : Int32) := by
          rw [← g4]
          have q := c_28
          first | exact q | (simp only [h43, i_as] at q; exact q)
        exact mrj_inConstant_221 rc r ihK ih (F0 := F0) (R0 := R0) x2 (1 : Int32) x5 F G g4 g5 ⟨h44, (by first | with_reducible rfl | (simp only [h43, i_as, fup, Nat.reduceEqDiff, reduceIte, if_false]) | rfl), (hR.trans (by first | with_reducible rfl | (simp only [rh_tail, hx0, h_25, h_31, h43, i_as, fup, i_a0, i0m, i10, eq_self, rb_yes, rb_no, ryes, rno, if_true, if_false, f_tt (p := True), reduceIte, Nat.reduceEqDiff]) | rfl))⟩
    · dsimp only
      have h_32 : sgn K V (F 42) (24 : Int32) = false := by
        rw [← g4, ← g5]
        have q := u24
        first | exact q | (simp only [h43, i_as] at q; exact q)
      unfold mb_inConstant_188
      refine PP.ite (fun _ => ?_) (fun c_33 => absurd (by decide) c_33)
      exact mrj_inConstant_221 rc r ihK ih (F0 := F0) (R0 := R0) x2 (1 : Int32) x5 F G g4 g5 ⟨h44, (by first | with_reducible rfl | (simp only [h43, i_as, fup, Nat.reduceEqDiff, reduceIte, if_false]) | rfl), (hR.trans (by first | with_reducible rfl | (simp only [rh_tail, hx0, h_32, h43, i_as, fup, i_a0, i0m, i10, eq_self, rb_yes, rb_no, ryes, rno, if_true, if_false, f_tt (p := True), reduceIte, Nat.reduceEqDiff]) | rfl))⟩
theorem mrj_inConstant_162 {fu : Nat} {K V : Nat → Int32} (rc : RC) (r : RR) (ihK : mKI1 rc) (ih : mRI1 K V rc r) {F0 : PF} {R0 : OR} (x1 : Int32) (x2 : Int32) (x4 : Int32) (x5 : Int32) (F : PF) (G : PG) (g4 : G 4 = K) (g5 : G 5 = V) (hA : (x4 = 1 ∧ F 44 = 0 ∧ F 43 = F0 43 ∧ R0 = rh_tail K V r (F 42) (F 43) ∧ sgn K V (F 42) (24 : Int32) = true ∧ sgn K V (F 42) (22 : Int32) = false ∧ K ((F 42) - (1 : Int32)).toNatClampNeg = (1 : Int32)) ∨ (x4 = 1 ∧ F 44 = 0 ∧ F 43 = F0 43 ∧ R0 = rh_tail K V r (F 42) (F 43) ∧ sgn K V (F 42) (22 : Int32) = true ∧ sgn K V (F 42) (24 : Int32) = false ∧ K ((F 42) - (1 : Int32)).toNatClampNeg = (1 : Int32)) ∨ (x4 = 0 ∧ F 44 = 0 ∧ F 43 = F0 43 ∧ R0 = rh_tail K V r (F 42) (F 43) ∧ sgn K V (F 42) (22 : Int32) = false ∧ sgn K V (F 42) (24 : Int32) = false ∧ K ((F 42) - (1 : Int32)).toNatClampNeg = (1 : Int32))) : PP (mb_inConstant_162 fu rc x1 x2 x4 x5 F G) (fun r' F' _ => ROK R0 F0 r' F') := by
  rcases hA with ⟨rfl, h44, h43, hR, hx0, hx1, hx2⟩ | ⟨rfl, h44, h43, hR, hx0, hx1, hx2⟩ | ⟨rfl, h44, h43, hR, hx0, hx1, hx2⟩
  · skip
    unfold mb_inConstant_162
    refine PP.bind (mp_isSign (22 : Int32) F G) ?_
    rintro _ _ _ ⟨rfl, rfl, (⟨rfl, u1⟩ | ⟨rfl, u1⟩)⟩
    · dsimp only
      have h_2 : sgn K V (F 42) (22 : Int32) = true := by
        rw [← g4, ← g5]
        have q := u1
        first | exact q | (simp only [h43, i_as] at q; exact q)
      exact absurd (hx1.symm.trans h_2) (by decide)
    · dsimp only
      have h_3 : sgn K V (F 42) (22 : Int32) = false := by
        rw [← g4, ← g5]
        have q := u1
        first | exact q | (simp only [h43, i_as] at q; exact q)
      unfold mb_inConstant_168
      refine PP.ite (fun _ => ?_) (fun c_4 => absurd (by decide) c_4)
      exact mrj_inConstant_182 rc r ihK ih (F0 := F0) (R0 := R0) x2 (1 : Int32) x5 F G g4 g5 (Or.inr (Or.inl ⟨rfl, h44, (by first | with_reducible rfl | (simp only [h43, i_as, fup, Nat.reduceEqDiff, reduceIte, if_false]) | rfl), (hR.trans (by first | with_reducible rfl | (simp only [rh_tail, hx0, hx1, (eq_true hx2), h_3, h43, i_as, fup, i_a0, i0m, i10, eq_self, rb_yes, rb_no, ryes, rno, if_true, if_false, f_tt (p := True), reduceIte, Nat.reduceEqDiff]) | rfl)), (by first | with_reducible rfl | assumption | (simp only [g4, g5, rh_tail, hx0, hx1, (eq_true hx2), h_3, h43, i_as, fup, i_a0, i0m, i10, eq_self, rb_yes, rb_no, ryes, rno, if_true, if_false, f_tt (p := True), reduceIte, Nat.reduceEqDiff]) | exact sgn_ne (by assumption) (by decide)), (by first | with_reducible rfl | assumption | (simp only [g4, g5, rh_tail, hx0, hx1, (eq_true hx2), h_3, h43, i_as, fup, i_a0, i0m, i10, eq_self, rb_yes, rb_no, ryes, rno, if_true, if_false, f_tt (p := True), reduceIte, Nat.reduceEqDiff]) | exact sgn_ne (by assumption) (by decide))⟩))
  · skip
    unfold mb_inConstant_162
    refine PP.bind (mp_isSign (22 : Int32) F G) ?_
    rintro _ _ _ ⟨rfl, rfl, (⟨rfl, u5⟩ | ⟨rfl, u5⟩)⟩
    · dsimp only
      have h_6 : sgn K V (F 42) (22 : Int32) = true := by
        rw [← g4, ← g5]
        have q := u5
        first | exact q | (simp only [h43, i_as] at q; exact q)
      unfold mb_inConstant_168
      refine PP.ite (fun c_7 => absurd c_7 (by decide)) (fun _ => ?_)
      unfold mb_inConstant_171
      refine PP.bind (PP.and (ihK 1 x1 (0 : Int32) F G) (ih.2.2.2 1 x1 (0 : Int32) F G g4 g5 (show F 44 = 0 from h44) (fun e => absurd e (by decide)))) ?_
      rintro r8 F8 G8 ⟨hK8, (⟨rfl, u8a, u8b, u8⟩ | ⟨rfl, u8a, u8⟩)⟩
      · dsimp only
        have g_9 : G8 4 = K := Eq.trans (hK8.2 4 rfl) g4
        have g_10 : G8 5 = V := Eq.trans (hK8.2 5 rfl) g5
        have h_11 : r 1 (F 42) (F0 43) = some (some (F8 42)) := by
          have q : r 1 (F 42) (F 43) = some (some (F8 42)) := u8
          simp only [h43, i_as] at q; exact q
        have q_12 : F8 43 = (F0 43) := by
          have q := (show F8 43 = (F 43) from u8b)
          simp only [h43, i_as] at q; exact q
        have h_13 : ¬ K ((F8 42) - (1 : Int32)).toNatClampNeg = (1 : Int32) := by
          rw [show K ((F8 42) - (1 : Int32)).toNatClampNeg = 4 from ih.2.2.1 _ _ _ h_11]
          decide
        unfold mb_inConstant_177
        refine PP.ite (fun c_14 => absurd c_14 (by decide)) (fun _ => ?_)
        exact mrj_inConstant_182 rc r ihK ih (F0 := F0) (R0 := R0) x2 (1 : Int32) x5 F8 G8 g_9 g_10 (Or.inr (Or.inr ⟨rfl, u8a, (by first | with_reducible rfl | (simp only [h43, q_12, i_as, fup, Nat.reduceEqDiff, reduceIte, if_false]) | rfl), (hR.trans (by first | with_reducible rfl | (simp only [rh_tail, hx0, hx1, (eq_true hx2), h_6, h_11, h_13, h43, q_12, i_as, fup, i_a0, i0m, i10, eq_self, rb_yes, rb_no, ryes, rno, if_true, if_false, f_tt (p := True), reduceIte, Nat.reduceEqDiff]) | rfl)), (by first | with_reducible rfl | assumption | (simp only [g_9, g_10, rh_tail, hx0, hx1, (eq_true hx2), h_6, h_11, h_13, h43, q_12, i_as, fup, i_a0, i0m, i10, eq_self, rb_yes, rb_no, ryes, rno, if_true, if_false, f_tt (p := True), reduceIte, Nat.reduceEqDiff]) | exact sgn_ne (by assumption) (by decide))⟩))
      · dsimp only
        have g_15 : G8 4 = K := Eq.trans (hK8.2 4 rfl) g4
        have g_16 : G8 5 = V := Eq.trans (hK8.2 5 rfl) g5
        have h_17 : r 1 (F 42) (F0 43) = some (none) := by
          have q : r 1 (F 42) (F 43) = some (none) := u8
          simp only [h43, i_as] at q; exact q
        unfold mb_inConstant_177
        refine PP.ite (fun _ => ?_) (fun c_18 => absurd (by decide) c_18)
        unfold mb_inConstant_180
        refine PP.ret ?_
        refine Or.inr ⟨rfl, u8a, hR.trans ?_⟩
        first | with_reducible rfl | (simp only [rh_tail, hx0, hx1, (eq_true hx2), h_6, h_17, h43, i_as, fup, i_a0, i0m, i10, eq_self, rb_yes, rb_no, ryes, rno, if_true, if_false, f_tt (p := True), reduceIte, Nat.reduceEqDiff]) | rfl
    · dsimp only
      have h_19 : sgn K V (F 42) (22 : Int32) = false := by
        rw [← g4, ← g5]
        have q := u5
        first | exact q | (simp only [h43, i_as] at q; exact q)
      exact absurd (hx0.symm.trans h_19) (by decide)
  · skip
    unfold mb_inConstant_162
    refine PP.bind (mp_isSign (22 : Int32) F G) ?_
    rintro _ _ _ ⟨rfl, rfl, (⟨rfl, u20⟩ | ⟨rfl, u20⟩)⟩
    · dsimp only
      have h_21 : sgn K V (F 42) (22 : Int32) = true := by
        rw [← g4, ← g5]
        have q := u20
        first | exact q | (simp only [h43, i_as] at q; exact q)
      exact absurd (hx0.symm.trans h_21) (by decide)
    · dsimp only
      have h_22 : sgn K V (F 42) (22 : Int32) = false := by
        rw [← g4, ← g5]
        have q := u20
        first | exact q | (simp only [h43, i_as] at q; exact q)
      unfold mb_inConstant_168
      refine PP.ite (fun _ => ?_) (fun c_23 => absurd (by decide) c_23)
      exact mrj_inConstant_182 rc r ihK ih (F0 := F0) (R0 := R0) x2 (0 : Int32) x5 F G g4 g5 (Or.inl ⟨rfl, h44, (by first | with_reducible rfl | (simp only [h43, i_as, fup, Nat.reduceEqDiff, reduceIte, if_false]) | rfl), (hR.trans (by first | with_reducible rfl | (simp only [rh_tail, hx0, hx1, (eq_true hx2), h_22, h43, i_as, fup, i_a0, i0m, i10, eq_self, rb_yes, rb_no, ryes, rno, if_true, if_false, f_tt (p := True), reduceIte, Nat.reduceEqDiff]) | rfl)), (by first | with_reducible rfl | assumption | (simp only [g4, g5, rh_tail, hx0, hx1, (eq_true hx2), h_22, h43, i_as, fup, i_a0, i0m, i10, eq_self, rb_yes, rb_no, ryes, rno, if_true, if_false, f_tt (p := True), reduceIte, Nat.reduceEqDiff]) | exact sgn_ne (by assumption) (by decide))⟩)
theorem mrj_inConstant_157 {fu : Nat} {K V : Nat → Int32} (rc : RC) (r : RR) (ihK : mKI1 rc) (ih : mRI1 K V rc r) {F0 : PF} {R0 : OR} (x1 : Int32) (x2 : Int32) (x4 : Int32) (x5 : Int32) (F : PF) (G : PG) (g4 : G 4 = K) (g5 : G 5 = V) (hA : (x4 = 1 ∧ F 44 = 0 ∧ F 43 = F0 43 ∧ R0 = rh_tail K V r (F 42) (F 43) ∧ sgn K V (F 42) (24 : Int32) = true ∧ sgn K V (F 42) (22 : Int32) = false ∧ K ((F 42) - (1 : Int32)).toNatClampNeg = (1 : Int32)) ∨ (x4 = 1 ∧ F 44 = 0 ∧ F 43 = F0 43 ∧ R0 = rh_tail K V r (F 42) (F 43) ∧ sgn K V (F 42) (22 : Int32) = true ∧ sgn K V (F 42) (24 : Int32) = false ∧ K ((F 42) - (1 : Int32)).toNatClampNeg = (1 : Int32)) ∨ (x4 = 0 ∧ F 44 = 0 ∧ F 43 = F0 43 ∧ R0 = rh_tail K V r (F 42) (F 43) ∧ sgn K V (F 42) (22 : Int32) = false ∧ sgn K V (F 42) (24 : Int32) = false ∧ K ((F 42) - (1 : Int32)).toNatClampNeg = (1 : Int32))) : PP (mb_inConstant_157 fu rc x1 x2 x4 x5 F G) (fun r' F' _ => ROK R0 F0 r' F') := by
  rcases hA with ⟨rfl, h44, h43, hR, hx0, hx1, hx2⟩ | ⟨rfl, h44, h43, hR, hx0, hx1, hx2⟩ | ⟨rfl, h44, h43, hR, hx0, hx1, hx2⟩
  · skip
    unfold mb_inConstant_157
    exact mrj_inConstant_162 rc r ihK ih (F0 := F0) (R0 := R0) x1 x2 (1 : Int32) x5 (fup F 55 (1 : Int32)) G g4 g5 (Or.inl ⟨rfl, h44, (by first | with_reducible rfl | (simp only [h43, i_as, fup, Nat.reduceEqDiff, reduceIte, if_false]) | rfl), (hR.trans (by first | with_reducible rfl | (simp only [rh_tail, hx0, hx1, (eq_true hx2), h43, i_as, fup, i_a0, i0m, i10, eq_self, rb_yes, rb_no, ryes, rno, if_true, if_false, f_tt (p := True), reduceIte, Nat.reduceEqDiff]) | rfl)), (by first | with_reducible rfl | assumption | (simp only [g4, g5, rh_tail, hx0, hx1, (eq_true hx2), h43, i_as, fup, i_a0, i0m, i10, eq_self, rb_yes, rb_no, ryes, rno, if_true, if_false, f_tt (p := True), reduceIte, Nat.reduceEqDiff]) | exact sgn_ne (by assumption) (by decide)), (by first | with_reducible rfl | assumption | (simp only [g4, g5, rh_tail, hx0, hx1, (eq_true hx2), h43, i_as, fup, i_a0, i0m, i10, eq_self, rb_yes, rb_no, ryes, rno, if_true, if_false, f_tt (p := True), reduceIte, Nat.reduceEqDiff]) | exact sgn_ne (by assumption) (by decide)), (by first | with_reducible rfl | assumption | (simp only [g4, g5, rh_tail, hx0, hx1, (eq_true hx2), h43, i_as, fup, i_a0, i0m, i10, eq_self, rb_yes, rb_no, ryes, rno, if_true, if_false, f_tt (p := True), reduceIte, Nat.reduceEqDiff]) | exact sgn_ne (by assumption) (by decide))⟩)
  · skip
    unfold mb_inConstant_157
    exact mrj_inConstant_162 rc r ihK ih (F0 := F0) (R0 := R0) x1 x2 (1 : Int32) x5 (fup F 55 (1 : Int32)) G g4 g5 (Or.inr (Or.inl ⟨rfl, h44, (by first | with_reducible rfl | (simp only [h43, i_as, fup, Nat.reduceEqDiff, reduceIte, if_false]) | rfl), (hR.trans (by first | with_reducible rfl | (simp only [rh_tail, hx0, hx1, (eq_true hx2), h43, i_as, fup, i_a0, i0m, i10, eq_self, rb_yes, rb_no, ryes, rno, if_true, if_false, f_tt (p := True), reduceIte, Nat.reduceEqDiff]) | rfl)), (by first | with_reducible rfl | assumption | (simp only [g4, g5, rh_tail, hx0, hx1, (eq_true hx2), h43, i_as, fup, i_a0, i0m, i10, eq_self, rb_yes, rb_no, ryes, rno, if_true, if_false, f_tt (p := True), reduceIte, Nat.reduceEqDiff]) | exact sgn_ne (by assumption) (by decide)), (by first | with_reducible rfl | assumption | (simp only [g4, g5, rh_tail, hx0, hx1, (eq_true hx2), h43, i_as, fup, i_a0, i0m, i10, eq_self, rb_yes, rb_no, ryes, rno, if_true, if_false, f_tt (p := True), reduceIte, Nat.reduceEqDiff]) | exact sgn_ne (by assumption) (by decide)), (by first | with_reducible rfl | assumption | (simp only [g4, g5, rh_tail, hx0, hx1, (eq_true hx2), h43, i_as, fup, i_a0, i0m, i10, eq_self, rb_yes, rb_no, ryes, rno, if_true, if_false, f_tt (p := True), reduceIte, Nat.reduceEqDiff]) | exact sgn_ne (by assumption) (by decide))⟩))
  · skip
    unfold mb_inConstant_157
    exact mrj_inConstant_162 rc r ihK ih (F0 := F0) (R0 := R0) x1 x2 (0 : Int32) x5 (fup F 55 (1 : Int32)) G g4 g5 (Or.inr (Or.inr ⟨rfl, h44, (by first | with_reducible rfl | (simp only [h43, i_as, fup, Nat.reduceEqDiff, reduceIte, if_false]) | rfl), (hR.trans (by first | with_reducible rfl | (simp only [rh_tail, hx0, hx1, (eq_true hx2), h43, i_as, fup, i_a0, i0m, i10, eq_self, rb_yes, rb_no, ryes, rno, if_true, if_false, f_tt (p := True), reduceIte, Nat.reduceEqDiff]) | rfl)), (by first | with_reducible rfl | assumption | (simp only [g4, g5, rh_tail, hx0, hx1, (eq_true hx2), h43, i_as, fup, i_a0, i0m, i10, eq_self, rb_yes, rb_no, ryes, rno, if_true, if_false, f_tt (p := True), reduceIte, Nat.reduceEqDiff]) | exact sgn_ne (by assumption) (by decide)), (by first | with_reducible rfl | assumption | (simp only [g4, g5, rh_tail, hx0, hx1, (eq_true hx2), h43, i_as, fup, i_a0, i0m, i10, eq_self, rb_yes, rb_no, ryes, rno, if_true, if_false, f_tt (p := True), reduceIte, Nat.reduceEqDiff]) | exact sgn_ne (by assumption) (by decide)), (by first | with_reducible rfl | assumption | (simp only [g4, g5, rh_tail, hx0, hx1, (eq_true hx2), h43, i_as, fup, i_a0, i0m, i10, eq_self, rb_yes, rb_no, ryes, rno, if_true, if_false, f_tt (p := True), reduceIte, Nat.reduceEqDiff]) | exact sgn_ne (by assumption) (by decide))⟩))
theorem mrj_inConstant_137 {fu : Nat} {K V : Nat → Int32} (rc : RC) (r : RR) (ihK : mKI1 rc) (ih : mRI1 K V rc r) {F0 : PF} {R0 : OR} (x1 : Int32) (x2 : Int32) (x4 : Int32) (x5 : Int32) (F : PF) (G : PG) (g4 : G 4 = K) (g5 : G 5 = V) (hA : (x4 = 1 ∧ F 44 = 0 ∧ F 43 = F0 43 ∧ R0 = rh_tail K V r (F 42) (F 43) ∧ sgn K V (F 42) (24 : Int32) = true ∧ sgn K V (F 42) (22 : Int32) = false ∧ K ((F 42) - (1 : Int32)).toNatClampNeg = (1 : Int32)) ∨ (x4 = 1 ∧ F 44 = 0 ∧ F 43 = F0 43 ∧ R0 = rh_tail K V r (F 42) (F 43) ∧ sgn K V (F 42) (22 : Int32) = true ∧ sgn K V (F 42) (24 : Int32) = false ∧ K ((F 42) - (1 : Int32)).toNatClampNeg = (1 : Int32)) ∨ (x4 = 0 ∧ F 44 = 0 ∧ F 43 = F0 43 ∧ R0 = rh_tail K V r (F 42) (F 43) ∧ sgn K V (F 42) (22 : Int32) = false ∧ sgn K V (F 42) (24 : Int32) = false ∧ K ((F 42) - (1 : Int32)).toNatClampNeg = (1 : Int32))) : PP (mb_inConstant_137 fu rc x1 x2 x4 x5 F G) (fun r' F' _ => ROK R0 F0 r' F') := by
  rcases hA with ⟨rfl, h44, h43, hR, hx0, hx1, hx2⟩ | ⟨rfl, h44, h43, hR, hx0, hx1, hx2⟩ | ⟨rfl, h44, h43, hR, hx0, hx1, hx2⟩
  · skip
    unfold mb_inConstant_137
    refine PP.ite (fun c_1 => ?_) (fun c_1 => ?_)
    · skip
      exact mrj_inConstant_157 rc r ihK ih (F0 := F0) (R0 := R0) x1 x2 (1 : Int32) x5 F G g4 g5 (Or.inl ⟨rfl, h44, (by first | with_reducible rfl | (simp only [h43, i_as, fup, Nat.reduceEqDiff, reduceIte, if_false]) | rfl), (hR.trans (by first | with_reducible rfl | (simp only [rh_tail, hx0, hx1, (eq_true hx2), h43, i_as, fup, i_a0, i0m, i10, eq_self, rb_yes, rb_no, ryes, rno, if_true, if_false, f_tt (p := True), reduceIte, Nat.reduceEqDiff]) | rfl)), (by first | with_reducible rfl | assumption | (simp only [g4, g5, rh_tail, hx0, hx1, (eq_true hx2), h43, i_as, fup, i_a0, i0m, i10, eq_self, rb_yes, rb_no, ryes, rno, if_true, if_false, f_tt (p := True), reduceIte, Nat.reduceEqDiff]) | exact sgn_ne (by assumption) (by decide)), (by first | with_reducible rfl | assumption | (simp only [g4, g5, rh_tail, hx0, hx1, (eq_true hx2), h43, i_as, fup, i_a0, i0m, i10, eq_self, rb_yes, rb_no, ryes, rno, if_true, if_false, f_tt (p := True), reduceIte, Nat.reduceEqDiff]) | exact sgn_ne (by assumption) (by decide)), (by first | with_reducible rfl | assumption | (simp only [g4, g5, rh_tail, hx0, hx1, (eq_true hx2), h43, i_as, fup, i_a0, i0m, i10, eq_self, rb_yes, rb_no, ryes, rno, if_true, if_false, f_tt (p := True), reduceIte, Nat.reduceEqDiff]) | exact sgn_ne (by assumption) (by decide))⟩)
    · skip
      unfold mb_inConstant_142
      refine PP.ite (fun c_2 => absurd c_2 (by decide)) (fun _ => ?_)
      exact mrj_inConstant_157 rc r ihK ih (F0 := F0) (R0 := R0) x1 x2 (1 : Int32) x5 F G g4 g5 (Or.inl ⟨rfl, h44, (by first | with_reducible rfl | (simp only [h43, i_as, fup, Nat.reduceEqDiff, reduceIte, if_false]) | rfl), (hR.trans (by first | with_reducible rfl | (simp only [rh_tail, hx0, hx1, (eq_true hx2), h43, i_as, fup, i_a0, i0m, i10, eq_self, rb_yes, rb_no, ryes, rno, if_true, if_false, f_tt (p := True), reduceIte, Nat.reduceEqDiff]) | rfl)), (by first | with_reducible rfl | assumption | (simp only [g4, g5, rh_tail, hx0, hx1, (eq_true hx2), h43, i_as, fup, i_a0, i0m, i10, eq_self, rb_yes, rb_no, ryes, rno, if_true, if_false, f_tt (p := True), reduceIte, Nat.reduceEqDiff]) | exact sgn_ne (by assumption) (by decide)), (by first | with_reducible rfl | assumption | (simp only [g4, g5, rh_tail, hx0, hx1, (eq_true hx2), h43, i_as, fup, i_a0, i0m, i10, eq_self, rb_yes, rb_no, ryes, rno, if_true, if_false, f_tt (p := True), reduceIte, Nat.reduceEqDiff]) | exact sgn_ne (by assumption) (by decide)), (by first | with_reducible rfl | assumption | (simp only [g4, g5, rh_tail, hx0, hx1, (eq_true hx2), h43, i_as, fup, i_a0, i0m, i10, eq_self, rb_yes, rb_no, ryes, rno, if_true, if_false, f_tt (p := True), reduceIte, Nat.reduceEqDiff]) | exact sgn_ne (by assumption) (by decide))⟩)
  · skip
    unfold mb_inConstant_137
    refine PP.ite (fun c_3 => ?_) (fun c_3 => ?_)
    · skip
      exact mrj_inConstant_157 rc r ihK ih (F0 := F0) (R0 := R0) x1 x2 (1 : Int32) x5 F G g4 g5 (Or.inr (Or.inl ⟨rfl, h44, (by first | with_reducible rfl | (simp only [h43, i_as, fup, Nat.reduceEqDiff, reduceIte, if_false]) | rfl), (hR.trans (by first | with_reducible rfl | (simp only [rh_tail, hx0, hx1, (eq_true hx2), h43, i_as, fup, i_a0, i0m, i10, eq_self, rb_yes, rb_no, ryes, rno, if_true, if_false, f_tt (p := True), reduceIte, Nat.reduceEqDiff]) | rfl)), (by first | with_reducible rfl | assumption | (simp only [g4, g5, rh_tail, hx0, hx1, (eq_true hx2), h43, i_as, fup, i_a0, i0m, i10, eq_self, rb_yes, rb_no, ryes, rno, if_true, if_false, f_tt (p := True), reduceIte, Nat.reduceEqDiff]) | exact sgn_ne (by assumption) (by decide)), (by first | with_reducible rfl | assumption | (simp only [g4, g5, rh_tail, hx0, hx1, (eq_true hx2), h43, i_as, fup, i_a0, i0m, i10, eq_self, rb_yes, rb_no, ryes, rno, if_true, if_false, f_tt (p := True), reduceIte, Nat.reduceEqDiff]) | exact sgn_ne (by assumption) (by decide)), (by first | with_reducible rfl | assumption | (simp only [g4, g5, rh_tail, hx0, hx1, (eq_true hx2), h43, i_as, fup, i_a0, i0m, i10, eq_self, rb_yes, rb_no, ryes, rno, if_true, if_false, f_tt (p := True), reduceIte, Nat.reduceEqDiff]) | exact sgn_ne (by assumption) (by decide))⟩))
    · skip
      unfold mb_inConstant_142
      refine PP.ite (fun c_4 => absurd c_4 (by decide)) (fun _ => ?_)
      exact mrj_inConstant_157 rc r ihK ih (F0 := F0) (R0 := R0) x1 x2 (1 : Int32) x5 F G g4 g5 (Or.inr (Or.inl ⟨rfl, h44, (by first | with_reducible rfl | (simp only [h43, i_as, fup, Nat.reduceEqDiff, reduceIte, if_false]) | rfl), (hR.trans (by first | with_reducible rfl | (simp only [rh_tail, hx0, hx1, (eq_true hx2), h43, i_as, fup, i_a0, i0m, i10, eq_self, rb_yes, rb_no, ryes, rno, if_true, if_false, f_tt (p := True), reduceIte, Nat.reduceEqDiff]) | rfl)), (by first | with_reducible rfl | assumption | (simp only [g4, g5, rh_tail, hx0, hx1, (eq_true hx2), h43, i_as, fup, i_a0, i0m, i10, eq_self, rb_yes, rb_no, ryes, rno, if_true, if_false, f_tt (p := True), reduceIte, Nat.reduceEqDiff]) | exact sgn_ne (by assumption) (by decide)), (by first | with_reducible rfl | assumption | (simp only [g4, g5, rh_tail, hx0, hx1, (eq_true hx2), h43, i_as, fup, i_a0, i0m, i10, eq_self, rb_yes, rb_no, ryes, rno, if_true, if_false, f_tt (p := True), reduceIte, Nat.reduceEqDiff]) | exact sgn_ne (by assumption) (by decide)), (by first | with_reducible rfl | assumption | (simp only [g4, g5, rh_tail, hx0, hx1, (eq_true hx2), h43, i_as, fup, i_a0, i0m, i10, eq_self, rb_yes, rb_no, ryes, rno, if_true, if_false, f_tt (p := True), reduceIte, Nat.reduceEqDiff]) | exact sgn_ne (by assumption) (by decide))⟩))
  · skip
    unfold mb_inConstant_137
    refine PP.ite (fun c_5 => ?_) (fun c_5 => ?_)
    · skip
      exact mrj_inConstant_157 rc r ihK ih (F0 := F0) (R0 := R0) x1 x2 (0 : Int32) x5 F G g4 g5 (Or.inr (Or.inr ⟨rfl, h44, (by first | with_reducible rfl | (simp only [h43, i_as, fup, Nat.reduceEqDiff, reduceIte, if_false]) | rfl), (hR.trans (by first | with_reducible rfl | (simp only [rh_tail, hx0, hx1, (eq_true hx2), h43, i_as, fup, i_a0, i0m, i10, eq_self, rb_yes, rb_no, ryes, rno, if_true, if_false, f_tt (p := True), reduceIte, Nat.reduceEqDiff]) | rfl)), (by first | with_reducible rfl | assumption | (simp only [g4, g5, rh_tail, hx0, hx1, (eq_true hx2), h43, i_as, fup, i_a0, i0m, i10, eq_self, rb_yes, rb_no, ryes, rno, if_true, if_false, f_tt (p := True), reduceIte, Nat.reduceEqDiff]) | exact sgn_ne (by assumption) (by decide)), (by first | with_reducible rfl | assumption | (simp only [g4, g5, rh_tail, hx0, hx1, (eq_true hx2), h43, i_as, fup, i_a0, i0m, i10, eq_self, rb_yes, rb_no, ryes, rno, if_true, if_false, f_tt (p := True), reduceIte, Nat.reduceEqDiff]) | exact sgn_ne (by assumption) (by decide)), (by first | with_reducible rfl | assumption | (simp only [g4, g5, rh_tail, hx0, hx1, (eq_true hx2), h43, i_as, fup, i_a0, i0m, i10, eq_self, rb_yes, rb_no, ryes, rno, if_true, if_false, f_tt (p := True), reduceIte, Nat.reduceEqDiff]) | exact sgn_ne (by assumption) (by decide))⟩))
    · skip
      unfold mb_inConstant_142
      refine PP.ite (fun _ => ?_) (fun c_6 => absurd (by decide) c_6)
      unfold mb_inConstant_147
      refine PP.ix (fun _ => ?_)
      refine PP.ite (fun c_7 => ?_) (fun c_7 => ?_)
      · skip
        exact mrj_inConstant_157 rc r ihK ih (F0 := F0) (R0 := R0) x1 x2 (0 : Int32) x5 F G g4 g5 (Or.inr (Or.inr ⟨rfl, h44, (by first | with_reducible rfl | (simp only [h43, i_as, fup, Nat.reduceEqDiff, reduceIte, if_false]) | rfl), (hR.trans (by first | with_reducible rfl | (simp only [rh_tail, hx0, hx1, (eq_true hx2), h43, i_as, fup, i_a0, i0m, i10, eq_self, rb_yes, rb_no, ryes, rno, if_true, if_false, f_tt (p := True), reduceIte, Nat.reduceEqDiff]) | rfl)), (by first | with_reducible rfl | assumption | (simp only [g4, g5, rh_tail, hx0, hx1, (eq_true hx2), h43, i_as, fup, i_a0, i0m, i10, eq_self, rb_yes, rb_no, ryes, rno, if_true, if_false, f_tt (p := True), reduceIte, Nat.reduceEqDiff]) | exact sgn_ne (by assumption) (by decide)), (by first | with_reducible rfl | assumption | (simp only [g4, g5, rh_tail, hx0, hx1, (eq_true hx2), h43, i_as, fup, i_a0, i0m, i10, eq_self, rb_yes, rb_no, ryes, rno, if_true, if_false, f_tt (p := True), reduceIte, Nat.reduceEqDiff]) | exact sgn_ne (by assumption) (by decide)), (by first | with_reducible rfl | assumption | (simp only [g4, g5, rh_tail, hx0, hx1, (eq_true hx2), h43, i_as, fup, i_a0, i0m, i10, eq_self, rb_yes, rb_no, ryes, rno, if_true, if_false, f_tt (p := True), reduceIte, Nat.reduceEqDiff]) | exact sgn_ne (by assumption) (by decide))⟩))
      · skip
        exact mrj_inConstant_162 rc r ihK ih (F0 := F0) (R0 := R0) x1 x2 (0 : Int32) x5 F G g4 g5 (Or.inr (Or.inr ⟨rfl, h44, (by first | with_reducible rfl | (simp only [h43, i_as, fup, Nat.reduceEqDiff, reduceIte, if_false]) | rfl), (hR.trans (by first | with_reducible rfl | (simp only [rh_tail, hx0, hx1, (eq_true hx2), h43, i_as, fup, i_a0, i0m, i10, eq_self, rb_yes, rb_no, ryes, rno, if_true, if_false, f_tt (p := True), reduceIte, Nat.reduceEqDiff]) | rfl)), (by first | with_reducible rfl | assumption | (simp only [g4, g5, rh_tail, hx0, hx1, (eq_true hx2), h43, i_as, fup, i_a0, i0m, i10, eq_self, rb_yes, rb_no, ryes, rno, if_true, if_false, f_tt (p := True), reduceIte, Nat.reduceEqDiff]) | exact sgn_ne (by assumption) (by decide)), (by first | with_reducible rfl | assumption | (simp only [g4, g5, rh_tail, hx0, hx1, (eq_true hx2), h43, i_as, fup, i_a0, i0m, i10, eq_self, rb_yes, rb_no, ryes, rno, if_true, if_false, f_tt (p := True), reduceIte, Nat.reduceEqDiff]) | exact sgn_ne (by assumption) (by decide)), (by first | with_reducible rfl | assumption | (simp only [g4, g5, rh_tail, hx0, hx1, (eq_true hx2), h43, i_as, fup, i_a0, i0m, i10, eq_self, rb_yes, rb_no, ryes, rno, if_true, if_false, f_tt (p := True), reduceIte, Nat.reduceEqDiff]) | exact sgn_ne (by assumption) (by decide))⟩))
theorem mrj_inConstant_125 {fu : Nat} {K V : Nat → Int32} (rc : RC) (r : RR) (ihK : mKI1 rc) (ih : mRI1 K V rc r) {F0 : PF} {R0 : OR} (x1 : Int32) (x2 : Int32) (x4 : Int32) (x5 : Int32) (F : PF) (G : PG) (g4 : G 4 = K) (g5 : G 5 = V) (hA : (x4 = 1 ∧ F 44 = 0 ∧ F 43 = F0 43 ∧ R0 = rh_tail K V r (F 42) (F 43) ∧ sgn K V (F 42) (24 : Int32) = true ∧ sgn K V (F 42) (22 : Int32) = false ∧ K ((F 42) - (1 : Int32)).toNatClampNeg = (1 : Int32)) ∨ (x4 = 1 ∧ F 44 = 0 ∧ F 43 = F0 43 ∧ R0 = rh_tail K V r (F 42) (F 43) ∧ sgn K V (F 42) (22 : Int32) = true ∧ sgn K V (F 42) (24 : Int32) = false ∧ K ((F 42) - (1 : Int32)).toNatClampNeg = (1 : Int32)) ∨ (x4 = 0 ∧ F 44 = 0 ∧ F 43 = F0 43 ∧ R0 = rh_tail K V r (F 42) (F 43) ∧ sgn K V (F 42) (22 : Int32) = false ∧ sgn K V (F 42) (24 : Int32) = false ∧ K ((F 42) - (1 : Int32)).toNatClampNeg = (1 : Int32))) : PP (mb_inConstant_125 fu rc x1 x2 x4 x5 F G) (fun r' F' _ => ROK R0 F0 r' F') := by
  rcases hA with ⟨rfl, h44, h43, hR, hx0, hx1, hx2⟩ | ⟨rfl, h44, h43, hR, hx0, hx1, hx2⟩ | ⟨rfl, h44, h43, hR, hx0, hx1, hx2⟩
  · skip
    unfold mb_inConstant_125
    refine PP.ix (fun _ => ?_)
    refine PP.bind (mw_note (10 : Int32) (G 6 x1.toNatClampNeg) F G) ?_
    intro r1 F1 G1 hK1
    dsimp only
    have g_2 : G1 4 = K := Eq.trans (hK1.2 4 rfl) g4
    have g_3 : G1 5 = V := Eq.trans (hK1.2 5 rfl) g5
    have q_4 : F1 42 = (F 42) := hK1.1 42 rfl
    have q_5 : F1 43 = (F0 43) := Eq.trans (hK1.1 43 rfl) (show (F 43) = (F0 43) by simp only [h43, i_as])
    have q_6 : F1 44 = 0 := Eq.trans (hK1.1 44 rfl) h44
    exact mrj_inConstant_137 rc r ihK ih (F0 := F0) (R0 := R0) x1 x2 (1 : Int32) x5 F1 G1 g_2 g_3 (Or.inl ⟨rfl, q_6, (by first | with_reducible rfl | (simp only [h43, q_4, q_5, i_as, fup, Nat.reduceEqDiff, reduceIte, if_false]) | rfl), (hR.trans (by first | with_reducible rfl | (simp only [rh_tail, hx0, hx1, (eq_true hx2), h43, q_4, q_5, i_as, fup, i_a0, i0m, i10, eq_self, rb_yes, rb_no, ryes, rno, if_true, if_false, f_tt (p := True), reduceIte, Nat.reduceEqDiff]) | rfl)), (by first | with_reducible rfl | assumption | (simp only [g_2, g_3, rh_tail, hx0, hx1, (eq_true hx2), h43, q_4, q_5, i_as, fup, i_a0, i0m, i10, eq_self, rb_yes, rb_no, ryes, rno, if_true, if_false, f_tt (p := True), reduceIte, Nat.reduceEqDiff]) | exact sgn_ne (by assumption) (by decide)), (by first | with_reducible rfl | assumption | (simp only [g_2, g_3, rh_tail, hx0, hx1, (eq_true hx2), h43, q_4, q_5, i_as, fup, i_a0, i0m, i10, eq_self, rb_yes, rb_no, ryes, rno, if_true, if_false, f_tt (p := True), reduceIte, Nat.reduceEqDiff]) | exact sgn_ne (by assumption) (by decide)), (by first | with_reducible rfl | assumption | (simp only [g_2, g_3, rh_tail, hx0, hx1, (eq_true hx2), h43, q_4, q_5, i_as, fup, i_a0, i0m, i10, eq_self, rb_yes, rb_no, ryes, rno, if_true, if_false, f_tt (p := True), reduceIte, Nat.reduceEqDiff]) | exact sgn_ne (by assumption) (by decide))⟩)
  · skip
    unfold mb_inConstant_125
    refine PP.ix (fun _ => ?_)
    refine PP.bind (mw_note (10 : Int32) (G 6 x1.toNatClampNeg) F G) ?_
    intro r7 F7 G7 hK7
    dsimp only
    have g_8 : G7 4 = K := Eq.trans (hK7.2 4 rfl) g4
    have g_9 : G7 5 = V := Eq.trans (hK7.2 5 rfl) g5
    have q_10 : F7 42 = (F 42) := hK7.1 42 rfl
    have q_11 : F7 43 = (F0 43) := Eq.trans (hK7.1 43 rfl) (show (F 43) = (F0 43) by simp only [h43, i_as])
    have q_12 : F7 44 = 0 := Eq.trans (hK7.1 44 rfl) h44
    exact mrj_inConstant_137 rc r ihK ih (F0 := F0) (R0 := R0) x1 x2 (1 : Int32) x5 F7 G7 g_8 g_9 (Or.inr (Or.inl ⟨rfl, q_12, (by first | with_reducible rfl | (simp only [h43, q_10, q_11, i_as, fup, Nat.reduceEqDiff, reduceIte, if_false]) | rfl), (hR.trans (by first | with_reducible rfl | (simp only [rh_tail, hx0, hx1, (eq_true hx2), h43, q_10, q_11, i_as, fup, i_a0, i0m, i10, eq_self, rb_yes, rb_no, ryes, rno, if_true, if_false, f_tt (p := True), reduceIte, Nat.reduceEqDiff]) | rfl)), (by first | with_reducible rfl | assumption | (simp only [g_8, g_9, rh_tail, hx0, hx1, (eq_true hx2), h43, q_10, q_11, i_as, fup, i_a0, i0m, i10, eq_self, rb_yes, rb_no, ryes, rno, if_true, if_false, f_tt (p := True), reduceIte, Nat.reduceEqDiff]) | exact sgn_ne (by assumption) (by decide)), (by first | with_reducible rfl | assumption | (simp only [g_8, g_9, rh_tail, hx0, hx1, (eq_true hx2), h43, q_10, q_11, i_as, fup, i_a0, i0m, i10, eq_self, rb_yes, rb_no, ryes, rno, if_true, if_false, f_tt (p := True), reduceIte, Nat.reduceEqDiff]) | exact sgn_ne (by assumption) (by decide)), (by first | with_reducible rfl | assumption | (simp only [g_8, g_9, rh_tail, hx0, hx1, (eq_true hx2), h43, q_10, q_11, i_as, fup, i_a0, i0m, i10, eq_self, rb_yes, rb_no, ryes, rno, if_true, if_false, f_tt (p := True), reduceIte, Nat.reduceEqDiff]) | exact sgn_ne (by assumption) (by decide))⟩))
  · skip
    unfold mb_inConstant_125
    refine PP.ix (fun _ => ?_)
    refine PP.bind (mw_note (10 : Int32) (G 6 x1.toNatClampNeg) F G) ?_
    intro r13 F13 G13 hK13
    dsimp only
    have g_14 : G13 4 = K := Eq.trans (hK13.2 4 rfl) g4
    have g_15 : G13 5 = V := Eq.trans (hK13.2 5 rfl) g5
    have q_16 : F13 42 = (F 42) := hK13.1 42 rfl
    have q_17 : F13 43 = (F0 43) := Eq.trans (hK13.1 43 rfl) (show (F 43) = (F0 43) by simp only [h43, i_as])
    have q_18 : F13 44 = 0 := Eq.trans (hK13.1 44 rfl) h44
    exact mrj_inConstant_137 rc r ihK ih (F0 := F0) (R0 := R0) x1 x2 (0 : Int32) x5 F13 G13 g_14 g_15 (Or.inr (Or.inr ⟨rfl, q_18, (by first | with_reducible rfl | (simp only [h43, q_16, q_17, i_as, fup, Nat.reduceEqDiff, reduceIte, if_false]) | rfl), (hR.trans (by first | with_reducible rfl | (simp only [rh_tail, hx0, hx1, (eq_true hx2), h43, q_16, q_17, i_as, fup, i_a0, i0m, i10, eq_self, rb_yes, rb_no, ryes, rno, if_true, if_false, f_tt (p := True), reduceIte, Nat.reduceEqDiff]) | rfl)), (by first | with_reducible rfl | assumption | (simp only [g_14, g_15, rh_tail, hx0, hx1, (eq_true hx2), h43, q_16, q_17, i_as, fup, i_a0, i0m, i10, eq_self, rb_yes, rb_no, ryes, rno, if_true, if_false, f_tt (p := True), reduceIte, Nat.reduceEqDiff]) | exact sgn_ne (by assumption) (by decide)), (by first | with_reducible rfl | assumption | (simp only [g_14, g_15, rh_tail, hx0, hx1, (eq_true hx2), h43, q_16, q_17, i_as, fup, i_a0, i0m, i10, eq_self, rb_yes, rb_no, ryes, rno, if_true, if_false, f_tt (p := True), reduceIte, Nat.reduceEqDiff]) | exact sgn_ne (by assumption) (by decide)), (by first | with_reducible rfl | assumption | (simp only [g_14, g_15, rh_tail, hx0, hx1, (eq_true hx2), h43, q_16, q_17, i_as, fup, i_a0, i0m, i10, eq_self, rb_yes, rb_no, ryes, rno, if_true, if_false, f_tt (p := True), reduceIte, Nat.reduceEqDiff]) | exact sgn_ne (by assumption) (by decide))⟩))
theorem mrj_inConstant_104 {fu : Nat} {K V : Nat → Int32} (rc : RC) (r : RR) (ihK : mKI1 rc) (ih : mRI1 K V rc r) {F0 : PF} {R0 : OR} (x1 : Int32) (x2 : Int32) (x3 : Int32) (x4 : Int32) (x5 : Int32) (F : PF) (G : PG) (g4 : G 4 = K) (g5 : G 5 = V) (hA : (x4 = 1 ∧ F 44 = 0 ∧ F 43 = F0 43 ∧ R0 = rh_tail K V r (F 42) (F 43) ∧ sgn K V (F 42) (24 : Int32) = true ∧ sgn K V (F 42) (22 : Int32) = false ∧ K ((F 42) - (1 : Int32)).toNatClampNeg = (1 : Int32)) ∨ (x4 = 1 ∧ F 44 = 0 ∧ F 43 = F0 43 ∧ R0 = rh_tail K V r (F 42) (F 43) ∧ sgn K V (F 42) (22 : Int32) = true ∧ sgn K V (F 42) (24 : Int32) = false ∧ K ((F 42) - (1 : Int32)).toNatClampNeg = (1 : Int32)) ∨ (x4 = 0 ∧ F 44 = 0 ∧ F 43 = F0 43 ∧ R0 = rh_tail K V r (F 42) (F 43) ∧ sgn K V (F 42) (22 : Int32) = false ∧ sgn K V (F 42) (24 : Int32) = false ∧ K ((F 42) - (1 : Int32)).toNatClampNeg = (1 : Int32))) : PP (mb_inConstant_104 fu rc x1 x2 x3 x4 x5 F G) (fun r' F' _ => ROK R0 F0 r' F') := by
  rcases hA with ⟨rfl, h44, h43, hR, hx0, hx1, hx2⟩ | ⟨rfl, h44, h43, hR, hx0, hx1, hx2⟩ | ⟨rfl, h44, h43, hR, hx0, hx1, hx2⟩
  · skip
    unfold mb_inConstant_104
    refine PP.ite (fun c_1 => ?_) (fun c_1 => ?_)
    · skip
      exact mrj_inConstant_137 rc r ihK ih (F0 := F0) (R0 := R0) x1 x2 (1 : Int32) x5 F G g4 g5 (Or.inl ⟨rfl, h44, (by first | with_reducible rfl | (simp only [h43, i_as, fup, Nat.reduceEqDiff, reduceIte, if_false]) | rfl), (hR.trans (by first | with_reducible rfl | (simp only [rh_tail, hx0, hx1, (eq_true hx2), h43, i_as, fup, i_a0, i0m, i10, eq_self, rb_yes, rb_no, ryes, rno, if_true, if_false, f_tt (p := True), reduceIte, Nat.reduceEqDiff]) | rfl)), (by first | with_reducible rfl | assumption | (simp only [g4, g5, rh_tail, hx0, hx1, (eq_true hx2), h43, i_as, fup, i_a0, i0m, i10, eq_self, rb_yes, rb_no, ryes, rno, if_true, if_false, f_tt (p := True), reduceIte, Nat.reduceEqDiff]) | exact sgn_ne (by assumption) (by decide)), (by first | with_reducible rfl | assumption | (simp only [g4, g5, rh_tail, hx0, hx1, (eq_true hx2), h43, i_as, fup, i_a0, i0m, i10, eq_self, rb_yes, rb_no, ryes, rno, if_true, if_false, f_tt (p := True), reduceIte, Nat.reduceEqDiff]) | exact sgn_ne (by assumption) (by decide)), (by first | with_reducible rfl | assumption | (simp only [g4, g5, rh_tail, hx0, hx1, (eq_true hx2), h43, i_as, fup, i_a0, i0m, i10, eq_self, rb_yes, rb_no, ryes, rno, if_true, if_false, f_tt (p := True), reduceIte, Nat.reduceEqDiff]) | exact sgn_ne (by assumption) (by decide))⟩)
    · skip
      unfold mb_inConstant_111
      refine PP.ite (fun c_2 => ?_) (fun c_2 => ?_)
      · skip
        unfold mb_inConstant_115
        refine PP.ite (fun c_3 => ?_) (fun c_3 => ?_)
        · skip
          exact mrj_inConstant_125 rc r ihK ih (F0 := F0) (R0 := R0) x1 x2 (1 : Int32) x5 F G g4 g5 (Or.inl ⟨rfl, h44, (by first | with_reducible rfl | (simp only [h43, i_as, fup, Nat.reduceEqDiff, reduceIte, if_false]) | rfl), (hR.trans (by first | with_reducible rfl | (simp only [rh_tail, hx0, hx1, (eq_true hx2), h43, i_as, fup, i_a0, i0m, i10, eq_self, rb_yes, rb_no, ryes, rno, if_true, if_false, f_tt (p := True), reduceIte, Nat.reduceEqDiff]) | rfl)), (by first | with_reducible rfl | assumption | (simp only [g4, g5, rh_tail, hx0, hx1, (eq_true hx2), h43, i_as, fup, i_a0, i0m, i10, eq_self, rb_yes, rb_no, ryes, rno, if_true, if_false, f_tt (p := True), reduceIte, Nat.reduceEqDiff]) | exact sgn_ne (by assumption) (by decide)), (by first | with_reducible rfl | assumption | (simp only [g4, g5, rh_tail, hx0, hx1, (eq_true hx2), h43, i_as, fup, i_a0, i0m, i10, eq_self, rb_yes, rb_no, ryes, rno, if_true, if_false, f_tt (p := True), reduceIte, Nat.reduceEqDiff]) | exact sgn_ne (by assumption) (by decide)), (by first | with_reducible rfl | assumption | (simp only [g4, g5, rh_tail, hx0, hx1, (eq_true hx2), h43, i_as, fup, i_a0, i0m, i10, eq_self, rb_yes, rb_no, ryes, rno, if_true, if_false, f_tt (p := True), reduceIte, Nat.reduceEqDiff]) | exact sgn_ne (by assumption) (by decide))⟩)
        · skip
          unfold mb_inConstant_120
          refine PP.ite (fun c_4 => absurd c_4 (by decide)) (fun _ => ?_)
          exact mrj_inConstant_125 rc r ihK ih (F0 := F0) (R0 := R0) x1 x2 (1 : Int32) x5 F G g4 g5 (Or.inl ⟨rfl, h44, (by first | with_reducible rfl | (simp only [h43, i_as, fup, Nat.reduceEqDiff, reduceIte, if_false]) | rfl), (hR.trans (by first | with_reducible rfl | (simp only [rh_tail, hx0, hx1, (eq_true hx2), h43, i_as, fup, i_a0, i0m, i10, eq_self, rb_yes, rb_no, ryes, rno, if_true, if_false, f_tt (p := True), reduceIte, Nat.reduceEqDiff]) | rfl)), (by first | with_reducible rfl | assumption | (simp only [g4, g5, rh_tail, hx0, hx1, (eq_true hx2), h43, i_as, fup, i_a0, i0m, i10, eq_self, rb_yes, rb_no, ryes, rno, if_true, if_false, f_tt (p := True), reduceIte, Nat.reduceEqDiff]) | exact sgn_ne (by assumption) (by decide)), (by first | with_reducible rfl | assumption | (simp only [g4, g5, rh_tail, hx0, hx1, (eq_true hx2), h43, i_as, fup, i_a0, i0m, i10, eq_self, rb_yes, rb_no, ryes, rno, if_true, if_false, f_tt (p := True), reduceIte, Nat.reduceEqDiff]) | exact sgn_ne (by assumption) (by decide)), (by first | with_reducible rfl | assumption | (simp only [g4, g5, rh_tail, hx0, hx1, (eq_true hx2), h43, i_as, fup, i_a0, i0m, i10, eq_self, rb_yes, rb_no, ryes, rno, if_true, if_false, f_tt (p := True), reduceIte, Nat.reduceEqDiff]) | exact sgn_ne (by assumption) (by decide))⟩)
      · skip
        exact mrj_inConstant_137 rc r ihK ih (F0 := F0) (R0 := R0) x1 x2 (1 : Int32) x5 F G g4 g5 (Or.inl ⟨rfl, h44, (by first | with_reducible rfl | (simp only [h43, i_as, fup, Nat.reduceEqDiff, reduceIte, if_false]) | rfl), (hR.trans (by first | with_reducible rfl | (simp only [rh_tail, hx0, hx1, (eq_true hx2), h43, i_as, fup, i_a0, i0m, i10, eq_self, rb_yes, rb_no, ryes, rno, if_true, if_false, f_tt (p := True), reduceIte, Nat.reduceEqDiff]) | rfl)), (by first | with_reducible rfl | assumption | (simp only [g4, g5, rh_tail, hx0, hx1, (eq_true hx2), h43, i_as, fup, i_a0, i0m, i10, eq_self, rb_yes, rb_no, ryes, rno, if_true, if_false, f_tt (p := True), reduceIte, Nat.reduceEqDiff]) | exact sgn_ne (by assumption) (by decide)), (by first | with_reducible rfl | assumption | (simp only [g4, g5, rh_tail, hx0, hx1, (eq_true hx2), h43, i_as, fup, i_a0, i0m, i10, eq_self, rb_yes, rb_no, ryes, rno, if_true, if_false, f_tt (p := True), reduceIte, Nat.reduceEqDiff]) | exact sgn_ne (by assumption) (by decide)), (by first | with_reducible rfl | assumption | (simp only [g4, g5, rh_tail, hx0, hx1, (eq_true hx2), h43, i_as, fup, i_a0, i0m, i10, eq_self, rb_yes, rb_no, ryes, rno, if_true, if_false, f_tt (p := True), reduceIte, Nat.reduceEqDiff]) | exact sgn_ne (by assumption) (by decide))⟩)
  · skip
    unfold mb_inConstant_104
    refine PP.ite (fun c_5 => ?_) (fun c_5 => ?_)
    · skip
      exact mrj_inConstant_137 rc r ihK ih (F0 := F0) (R0 := R0) x1 x2 (1 : Int32) x5 F G g4 g5 (Or.inr (Or.inl ⟨rfl, h44, (by first | with_reducible rfl | (simp only [h43, i_as, fup, Nat.reduceEqDiff, reduceIte, if_false]) | rfl), (hR.trans (by first | with_reducible rfl | (simp only [rh_tail, hx0, hx1, (eq_true hx2), h43, i_as, fup, i_a0, i0m, i10, eq_self, rb_yes, rb_no, ryes, rno, if_true, if_false, f_tt (p := True), reduceIte, Nat.reduceEqDiff]) | rfl)), (by first | with_reducible rfl | assumption | (simp only [g4, g5, rh_tail, hx0, hx1, (eq_true hx2), h43, i_as, fup, i_a0, i0m, i10, eq_self, rb_yes, rb_no, ryes, rno, if_true, if_false, f_tt (p := True), reduceIte, Nat.reduceEqDiff]) | exact sgn_ne (by assumption) (by decide)), (by first | with_reducible rfl | assumption | (simp only [g4, g5, rh_tail, hx0, hx1, (eq_true hx2), h43, i_as, fup, i_a0, i0m, i10, eq_self, rb_yes, rb_no, ryes, rno, if_true, if_false, f_tt (p := True), reduceIte, Nat.reduceEqDiff]) | exact sgn_ne (by assumption) (by decide)), (by first | with_reducible rfl | assumption | (simp only [g4, g5, rh_tail, hx0, hx1, (eq_true hx2), h43, i_as, fup, i_a0, i0m, i10, eq_self, rb_yes, rb_no, ryes, rno, if_true, if_false, f_tt (p := True), reduceIte, Nat.reduceEqDiff]) | exact sgn_ne (by assumption) (by decide))⟩))
    · skip
      unfold mb_inConstant_111
      refine PP.ite (fun c_6 => ?_) (fun c_6 => ?_)
      · skip
        unfold mb_inConstant_115
        refine PP.ite (fun c_7 => ?_) (fun c_7 => ?_)
        · skip
          exact mrj_inConstant_125 rc r ihK ih (F0 := F0) (R0 := R0) x1 x2 (1 : Int32) x5 F G g4 g5 (Or.inr (Or.inl ⟨rfl, h44, (by first | with_reducible rfl | (simp only [h43, i_as, fup, Nat.reduceEqDiff, reduceIte, if_false]) | rfl), (hR.trans (by first | with_reducible rfl | (simp only [rh_tail, hx0, hx1, (eq_true hx2), h43, i_as, fup, i_a0, i0m, i10, eq_self, rb_yes, rb_no, ryes, rno, if_true, if_false, f_tt (p := True), reduceIte, Nat.reduceEqDiff]) | rfl)), (by first | with_reducible rfl | assumption | (simp only [g4, g5, rh_tail, hx0, hx1, (eq_true hx2), h43, i_as, fup, i_a0, i0m, i10, eq_self, rb_yes, rb_no, ryes, rno, if_true, if_false, f_tt (p := True), reduceIte, Nat.reduceEqDiff]) | exact sgn_ne (by assumption) (by decide)), (by first | with_reducible rfl | assumption | (simp only [g4, g5, rh_tail, hx0, hx1, (eq_true hx2), h43, i_as, fup, i_a0, i0m, i10, eq_self, rb_yes, rb_no, ryes, rno, if_true, if_false, f_tt (p := True), reduceIte, Nat.reduceEqDiff]) | exact sgn_ne (by assumption) (by decide)), (by first | with_reducible rfl | assumption | (simp only [g4, g5, rh_tail, hx0, hx1, (eq_true hx2), h43, i_as, fup, i_a0, i0m, i10, eq_self, rb_yes, rb_no, ryes, rno, if_true, if_false, f_tt (p := True), reduceIte, Nat.reduceEqDiff]) | exact sgn_ne (by assumption) (by decide))⟩))
        · skip
          unfold mb_inConstant_120
          refine PP.ite (fun c_8 => absurd c_8 (by decide)) (fun _ => ?_)
          exact mrj_inConstant_125 rc r ihK ih (F0 := F0) (R0 := R0) x1 x2 (1 : Int32) x5 F G g4 g5 (Or.inr (Or.inl ⟨rfl, h44, (by first | with_reducible rfl | (simp only [h43, i_as, fup, Nat.reduceEqDiff, reduceIte, if_false]) | rfl), (hR.trans (by first | with_reducible rfl | (simp only [rh_tail, hx0, hx1, (eq_true hx2), h43, i_as, fup, i_a0, i0m, i10, eq_self, rb_yes, rb_no, ryes, rno, if_true, if_false, f_tt (p := True), reduceIte, Nat.reduceEqDiff]) | rfl)), (by first | with_reducible rfl | assumption | (simp only [g4, g5, rh_tail, hx0, hx1, (eq_true hx2), h43, i_as, fup, i_a0, i0m, i10, eq_self, rb_yes, rb_no, ryes, rno, if_true, if_false, f_tt (p := True), reduceIte, Nat.reduceEqDiff]) | exact sgn_ne (by assumption) (by decide)), (by first | with_reducible rfl | assumption | (simp only [g4, g5, rh_tail, hx0, hx1, (eq_true hx2), h43, i_as, fup, i_a0, i0m, i10, eq_self, rb_yes, rb_no, ryes, rno, if_true, if_false, f_tt (p := True), reduceIte, Nat.reduceEqDiff]) | exact sgn_ne (by assumption) (by decide)), (by first | with_reducible rfl | assumption | (simp only [g4, g5, rh_tail, hx0, hx1, (eq_true hx2), h43, i_as, fup, i_a0, i0m, i10, eq_self, rb_yes, rb_no, ryes, rno, if_true, if_false, f_tt (p := True), reduceIte, Nat.reduceEqDiff]) | exact sgn_ne (by assumption) (by decide))⟩))
      · skip
        exact mrj_inConstant_137 rc r ihK ih (F0 := F0) (R0 := R0) x1 x2 (1 : Int32) x5 F G g4 g5 (Or.inr (Or.inl ⟨rfl, h44, (by first | with_reducible rfl | (simp only [h43, i_as, fup, Nat.reduceEqDiff, reduceIte, if_false]) | rfl), (hR.trans (by first | with_reducible rfl | (simp only [rh_tail, hx0, hx1, (eq_true hx2), h43, i_as, fup, i_a0, i0m, i10, eq_self, rb_yes, rb_no, ryes, rno, if_true, if_false, f_tt (p := True), reduceIte, Nat.reduceEqDiff]) | rfl)), (by first | with_reducible rfl | assumption | (simp only [g4, g5, rh_tail, hx0, hx1, (eq_true hx2), h43, i_as, fup, i_a0, i0m, i10, eq_self, rb_yes, rb_no, ryes, rno, if_true, if_false, f_tt (p := True), reduceIte, Nat.reduceEqDiff]) | exact sgn_ne (by assumption) (by decide)), (by first | with_reducible rfl | assumption | (simp only [g4, g5, rh_tail, hx0, hx1, (eq_true hx2), h43, i_as, fup, i_a0, i0m, i10, eq_self, rb_yes, rb_no, ryes, rno, if_true, if_false, f_tt (p := True), reduceIte, Nat.reduceEqDiff]) | exact sgn_ne (by assumption) (by decide)), (by first | with_reducible rfl | assumption | (simp only [g4, g5, rh_tail, hx0, hx1, (eq_true hx2), h43, i_as, fup, i_a0, i0m, i10, eq_self, rb_yes, rb_no, ryes, rno, if_true, if_false, f_tt (p := True), reduceIte, Nat.reduceEqDiff]) | exact sgn_ne (by assumption) (by decide))⟩))
  · skip
    unfold mb_inConstant_104
    refine PP.ite (fun c_9 => ?_) (fun c_9 => ?_)
    · skip
      exact mrj_inConstant_137 rc r ihK ih (F0 := F0) (R0 := R0) x1 x2 (0 : Int32) x5 F G g4 g5 (Or.inr (Or.inr ⟨rfl, h44, (by first | with_reducible rfl | (simp only [h43, i_as, fup, Nat.reduceEqDiff, reduceIte, if_false]) | rfl), (hR.trans (by first | with_reducible rfl | (simp only [rh_tail, hx0, hx1, (eq_true hx2), h43, i_as, fup, i_a0, i0m, i10, eq_self, rb_yes, rb_no, ryes, rno, if_true, if_false, f_tt (p := True), reduceIte, Nat.reduceEqDiff]) | rfl)), (by first | with_reducible rfl | assumption | (simp only [g4, g5, rh_tail, hx0, hx1, (eq_true hx2), h43, i_as, fup, i_a0, i0m, i10, eq_self, rb_yes, rb_no, ryes, rno, if_true, if_false, f_tt (p := True), reduceIte, Nat.reduceEqDiff]) | exact sgn_ne (by assumption) (by decide)), (by first | with_reducible rfl | assumption | (simp only [g4, g5, rh_tail, hx0, hx1, (eq_true hx2), h43, i_as, fup, i_a0, i0m, i10, eq_self, rb_yes, rb_no, ryes, rno, if_true, if_false, f_tt (p := True), reduceIte, Nat.reduceEqDiff]) | exact sgn_ne (by assumption) (by decide)), (by first | with_reducible rfl | assumption | (simp only [g4, g5, rh_tail, hx0, hx1, (eq_true hx2), h43, i_as, fup, i_a0, i0m, i10, eq_self, rb_yes, rb_no, ryes, rno, if_true, if_false, f_tt (p := True), reduceIte, Nat.reduceEqDiff]) | exact sgn_ne (by assumption) (by decide))⟩))
    · skip
      unfold mb_inConstant_111
      refine PP.ite (fun c_10 => ?_) (fun c_10 => ?_)
      · skip
        unfold mb_inConstant_115
        refine PP.ite (fun c_11 => ?_) (fun c_11 => ?_)
        · skip
          exact mrj_inConstant_125 rc r ihK ih (F0 := F0) (R0 := R0) x1 x2 (0 : Int32) x5 F G g4 g5 (Or.inr (Or.inr ⟨rfl, h44, (by first | with_reducible rfl | (simp only [h43, i_as, fup, Nat.reduceEqDiff, reduceIte, if_false]) | rfl), (hR.trans (by first | with_reducible rfl | (simp only [rh_tail, hx0, hx1, (eq_true hx2), h43, i_as, fup, i_a0, i0m, i10, eq_self, rb_yes, rb_no, ryes, rno, if_true, if_false, f_tt (p := True), reduceIte, Nat.reduceEqDiff]) | rfl)), (by first | with_reducible rfl | assumption | (simp only [g4, g5, rh_tail, hx0, hx1, (eq_true hx2), h43, i_as, fup, i_a0, i0m, i10, eq_self, rb_yes, rb_no, ryes, rno, if_true, if_false, f_tt (p := True), reduceIte, Nat.reduceEqDiff]) | exact sgn_ne (by assumption) (by decide)), (by first | with_reducible rfl | assumption | (simp only [g4, g5, rh_tail, hx0, hx1, (eq_true hx2), h43, i_as, fup, i_a0, i0m, i10, eq_self, rb_yes, rb_no, ryes, rno, if_true, if_false, f_tt (p := True), reduceIte, Nat.reduceEqDiff]) | exact sgn_ne (by assumption) (by decide)), (by first | with_reducible rfl | assumption | (simp only [g4, g5, rh_tail, hx0, hx1, (eq_true hx2), h43, i_as, fup, i_a0, i0m, i10, eq_self, rb_yes, rb_no, ryes, rno, if_true, if_false, f_tt (p := True), reduceIte, Nat.reduceEqDiff]) | exact sgn_ne (by assumption) (by decide))⟩))
        · skip
          unfold mb_inConstant_120
          refine PP.ite (fun _ => ?_) (fun c_12 => absurd (by decide) c_12)
          exact mrj_inConstant_137 rc r ihK ih (F0 := F0) (R0 := R0) x1 x2 (0 : Int32) x5 F G g4 g5 (Or.inr (Or.inr ⟨rfl, h44, (by first | with_reducible rfl | (simp only [h43, i_as, fup, Nat.reduceEqDiff, reduceIte, if_false]) | rfl), (hR.trans (by first | with_reducible rfl | (simp only [rh_tail, hx0, hx1, (eq_true hx2), h43, i_as, fup, i_a0, i0m, i10, eq_self, rb_yes, rb_no, ryes, rno, if_true, if_false, f_tt (p := True), reduceIte, Nat.reduceEqDiff]) | rfl)), (by first | with_reducible rfl | assumption | (simp only [g4, g5, rh_tail, hx0, hx1, (eq_true hx2), h43, i_as, fup, i_a0, i0m, i10, eq_self, rb_yes, rb_no, ryes, rno, if_true, if_false, f_tt (p := True), reduceIte, Nat.reduceEqDiff]) | exact sgn_ne (by assumption) (by decide)), (by first | with_reducible rfl | assumption | (simp only [g4, g5, rh_tail, hx0, hx1, (eq_true hx2), h43, i_as, fup, i_a0, i0m, i10, eq_self, rb_yes, rb_no, ryes, rno, if_true, if_false, f_tt (p := True), reduceIte, Nat.reduceEqDiff]) | exact sgn_ne (by assumption) (by decide)), (by first | with_reducible rfl | assumption | (simp only [g4, g5, rh_tail, hx0, hx1, (eq_true hx2), h43, i_as, fup, i_a0, i0m, i10, eq_self, rb_yes, rb_no, ryes, rno, if_true, if_false, f_tt (p := True), reduceIte, Nat.reduceEqDiff]) | exact sgn_ne (by assumption) (by decide))⟩))
      · skip
        exact mrj_inConstant_137 rc r ihK ih (F0 := F0) (R0 := R0) x1 x2 (0 : Int32) x5 F G g4 g5 (Or.inr (Or.inr ⟨rfl, h44, (by first | with_reducible rfl | (simp only [h43, i_as, fup, Nat.reduceEqDiff, reduceIte, if_false]) | rfl), (hR.trans (by first | with_reducible rfl | (simp only [rh_tail, hx0, hx1, (eq_true hx2), h43, i_as, fup, i_a0, i0m, i10, eq_self, rb_yes, rb_no, ryes, rno, if_true, if_false, f_tt (p := True), reduceIte, Nat.reduceEqDiff]) | rfl)), (by first | with_reducible rfl | assumption | (simp only [g4, g5, rh_tail, hx0, hx1, (eq_true hx2), h43, i_as, fup, i_a0, i0m, i10, eq_self, rb_yes, rb_no, ryes, rno, if_true, if_false, f_tt (p := True), reduceIte, Nat.reduceEqDiff]) | exact sgn_ne (by assumption) (by decide)), (by first | with_reducible rfl | assumption | (simp only [g4, g5, rh_tail, hx0, hx1, (eq_true hx2), h43, i_as, fup, i_a0, i0m, i10, eq_self, rb_yes, rb_no, ryes, rno, if_true, if_false, f_tt (p := True), reduceIte, Nat.reduceEqDiff]) | exact sgn_ne (by assumption) (by decide)), (by first | with_reducible rfl | assumption | (simp only [g4, g5, rh_tail, hx0, hx1, (eq_true hx2), h43, i_as, fup, i_a0, i0m, i10, eq_self, rb_yes, rb_no, ryes, rno, if_true, if_false, f_tt (p := True), reduceIte, Nat.reduceEqDiff]) | exact sgn_ne (by assumption) (by decide))⟩))
theorem mrj_inConstant_80 {fu : Nat} {K V : Nat → Int32} (rc : RC) (r : RR) (ihK : mKI1 rc) (ih : mRI1 K V rc r) {F0 : PF} {R0 : OR} (x1 : Int32) (x2 : Int32) (x3 : Int32) (x4 : Int32) (z0 : Int32) (F : PF) (G : PG) (g4 : G 4 = K) (g5 : G 5 = V) (hA : (x4 = 1 ∧ F 44 = 0 ∧ F 43 = F0 43 ∧ R0 = rh_tail K V r (F 42) (F 43) ∧ sgn K V (F 42) (24 : Int32) = true ∧ sgn K V (F 42) (22 : Int32) = false ∧ K ((F 42) - (1 : Int32)).toNatClampNeg = (1 : Int32)) ∨ (x4 = 1 ∧ F 44 = 0 ∧ F 43 = F0 43 ∧ R0 = rh_tail K V r (F 42) (F 43) ∧ sgn K V (F 42) (22 : Int32) = true ∧ sgn K V (F 42) (24 : Int32) = false ∧ K ((F 42) - (1 : Int32)).toNatClampNeg = (1 : Int32)) ∨ (x4 = 0 ∧ F 44 = 0 ∧ F 43 = F0 43 ∧ R0 = rh_tail K V r (F 42) (F 43) ∧ sgn K V (F 42) (22 : Int32) = false ∧ sgn K V (F 42) (24 : Int32) = false ∧ K ((F 42) - (1 : Int32)).toNatClampNeg = (1 : Int32))) : PP (mb_inConstant_80 fu rc x1 x2 x3 x4 z0 F G) (fun r' F' _ => ROK R0 F0 r' F') := by
  rcases hA with ⟨rfl, h44, h43, hR, hx0, hx1, hx2⟩ | ⟨rfl, h44, h43, hR, hx0, hx1, hx2⟩ | ⟨rfl, h44, h43, hR, hx0, hx1, hx2⟩
  · skip
    unfold mb_inConstant_80
    refine PP.ite (fun c_1 => ?_) (fun c_1 => ?_)
    · skip
      exact mrj_inConstant_104 rc r ihK ih (F0 := F0) (R0 := R0) x1 x2 x3 (1 : Int32) z0 F G g4 g5 (Or.inl ⟨rfl, h44, (by first | with_reducible rfl | (simp only [h43, i_as, fup, Nat.reduceEqDiff, reduceIte, if_false]) | rfl), (hR.trans (by first | with_reducible rfl | (simp only [rh_tail, hx0, hx1, (eq_true hx2), h43, i_as, fup, i_a0, i0m, i10, eq_self, rb_yes, rb_no, ryes, rno, if_true, if_false, f_tt (p := True), reduceIte, Nat.reduceEqDiff]) | rfl)), (by first | with_reducible rfl | assumption | (simp only [g4, g5, rh_tail, hx0, hx1, (eq_true hx2), h43, i_as, fup, i_a0, i0m, i10, eq_self, rb_yes, rb_no, ryes, rno, if_true, if_false, f_tt (p := True), reduceIte, Nat.reduceEqDiff]) | exact sgn_ne (by assumption) (by decide)), (by first | with_reducible rfl | assumption | (simp only [g4, g5, rh_tail, hx0, hx1, (eq_true hx2), h43, i_as, fup, i_a0, i0m, i10, eq_self, rb_yes, rb_no, ryes, rno, if_true, if_false, f_tt (p := True), reduceIte, Nat.reduceEqDiff]) | exact sgn_ne (by assumption) (by decide)), (by first | with_reducible rfl | assumption | (simp only [g4, g5, rh_tail, hx0, hx1, (eq_true hx2), h43, i_as, fup, i_a0, i0m, i10, eq_self, rb_yes, rb_no, ryes, rno, if_true, if_false, f_tt (p := True), reduceIte, Nat.reduceEqDiff]) | exact sgn_ne (by assumption) (by decide))⟩)
    · skip
      unfold mb_inConstant_89
      refine PP.ite (fun c_2 => ?_) (fun c_2 => ?_)
      · skip
        exact mrj_inConstant_104 rc r ihK ih (F0 := F0) (R0 := R0) x1 x2 x3 (1 : Int32) z0 F G g4 g5 (Or.inl ⟨rfl, h44, (by first | with_reducible rfl | (simp only [h43, i_as, fup, Nat.reduceEqDiff, reduceIte, if_false]) | rfl), (hR.trans (by first | with_reducible rfl | (simp only [rh_tail, hx0, hx1, (eq_true hx2), h43, i_as, fup, i_a0, i0m, i10, eq_self, rb_yes, rb_no, ryes, rno, if_true, if_false, f_tt (p := True), reduceIte, Nat.reduceEqDiff]) | rfl)), (by first | with_reducible rfl | assumption | (simp only [g4, g5, rh_tail, hx0, hx1, (eq_true hx2), h43, i_as, fup, i_a0, i0m, i10, eq_self, rb_yes, rb_no, ryes, rno, if_true, if_false, f_tt (p := True), reduceIte, Nat.reduceEqDiff]) | exact sgn_ne (by assumption) (by decide)), (by first | with_reducible rfl | assumption | (simp only [g4, g5, rh_tail, hx0, hx1, (eq_true hx2), h43, i_as, fup, i_a0, i0m, i10, eq_self, rb_yes, rb_no, ryes, rno, if_true, if_false, f_tt (p := True), reduceIte, Nat.reduceEqDiff]) | exact sgn_ne (by assumption) (by decide)), (by first | with_reducible rfl | assumption | (simp only [g4, g5, rh_tail, hx0, hx1, (eq_true hx2), h43, i_as, fup, i_a0, i0m, i10, eq_self, rb_yes, rb_no, ryes, rno, if_true, if_false, f_tt (p := True), reduceIte, Nat.reduceEqDiff]) | exact sgn_ne (by assumption) (by decide))⟩)
      · skip
        unfold mb_inConstant_93
        refine PP.ix (fun _ => ?_)
        refine PP.bind (mw_note (4 : Int32) (G 6 x1.toNatClampNeg) F G) ?_
        intro r3 F3 G3 hK3
        dsimp only
        have g_4 : G3 4 = K := Eq.trans (hK3.2 4 rfl) g4
        have g_5 : G3 5 = V := Eq.trans (hK3.2 5 rfl) g5
        have q_6 : F3 42 = (F 42) := hK3.1 42 rfl
        have q_7 : F3 43 = (F0 43) := Eq.trans (hK3.1 43 rfl) (show (F 43) = (F0 43) by simp only [h43, i_as])
        have q_8 : F3 44 = 0 := Eq.trans (hK3.1 44 rfl) h44
        exact mrj_inConstant_104 rc r ihK ih (F0 := F0) (R0 := R0) x1 x2 x3 (1 : Int32) z0 F3 G3 g_4 g_5 (Or.inl ⟨rfl, q_8, (by first | with_reducible rfl | (simp only [h43, q_6, q_7, i_as, fup, Nat.reduceEqDiff, reduceIte, if_false]) | rfl), (hR.trans (by first | with_reducible rfl | (simp only [rh_tail, hx0, hx1, (eq_true hx2), h43, q_6, q_7, i_as, fup, i_a0, i0m, i10, eq_self, rb_yes, rb_no, ryes, rno, if_true, if_false, f_tt (p := True), reduceIte, Nat.reduceEqDiff]) | rfl)), (by first | with_reducible rfl | assumption | (simp only [g_4, g_5, rh_tail, hx0, hx1, (eq_true hx2), h43, q_6, q_7, i_as, fup, i_a0, i0m, i10, eq_self, rb_yes, rb_no, ryes, rno, if_true, if_false, f_tt (p := True), reduceIte, Nat.reduceEqDiff]) | exact sgn_ne (by assumption) (by decide)), (by first | with_reducible rfl | assumption | (simp only [g_4, g_5, rh_tail, hx0, hx1, (eq_true hx2), h43, q_6, q_7, i_as, fup, i_a0, i0m, i10, eq_self, rb_yes, rb_no, ryes, rno, if_true, if_false, f_tt (p := True), reduceIte, Nat.reduceEqDiff]) | exact sgn_ne (by assumption) (by decide)), (by first | with_reducible rfl | assumption | (simp only [g_4, g_5, rh_tail, hx0, hx1, (eq_true hx2), h43, q_6, q_7, i_as, fup, i_a0, i0m, i10, eq_self, rb_yes, rb_no, ryes, rno, if_true, if_false, f_tt (p := True), reduceIte, Nat.reduceEqDiff]) | exact sgn_ne (by assumption) (by decide))⟩)
  · skip
    unfold mb_inConstant_80
    refine PP.ite (fun c_9 => ?_) (fun c_9 => ?_)
    · skip
      exact mrj_inConstant_104 rc r ihK ih (F0 := F0) (R0 := R0) x1 x2 x3 (1 : Int32) z0 F G g4 g5 (Or.inr (Or.inl ⟨rfl, h44, (by first | with_reducible rfl | (simp only [h43, i_as, fup, Nat.reduceEqDiff, reduceIte, if_false]) | rfl), (hR.trans (by first | with_reducible rfl | (simp only [rh_tail, hx0, hx1, (eq_true hx2), h43, i_as, fup, i_a0, i0m, i10, eq_self, rb_yes, rb_no, ryes, rno, if_true, if_false, f_tt (p := True), reduceIte, Nat.reduceEqDiff]) | rfl)), (by first | with_reducible rfl | assumption | (simp only [g4, g5, rh_tail, hx0, hx1, (eq_true hx2), h43, i_as, fup, i_a0, i0m, i10, eq_self, rb_yes, rb_no, ryes, rno, if_true, if_false, f_tt (p := True), reduceIte, Nat.reduceEqDiff]) | exact sgn_ne (by assumption) (by decide)), (by first | with_reducible rfl | assumption | (simp only [g4, g5, rh_tail, hx0, hx1, (eq_true hx2), h43, i_as, fup, i_a0, i0m, i10, eq_self, rb_yes, rb_no, ryes, rno, if_true, if_false, f_tt (p := True), reduceIte, Nat.reduceEqDiff]) | exact sgn_ne (by assumption) (by decide)), (by first | with_reducible rfl | assumption | (simp only [g4, g5, rh_tail, hx0, hx1, (eq_true hx2), h43, i_as, fup, i_a0, i0m, i10, eq_self, rb_yes, rb_no, ryes, rno, if_true, if_false, f_tt (p := True), reduceIte, Nat.reduceEqDiff]) | exact sgn_ne (by assumption) (by decide))⟩))
    · skip
      unfold mb_inConstant_89
      refine PP.ite (fun c_10 => ?_) (fun c_10 => ?_)
      · skip
        exact mrj_inConstant_104 rc r ihK ih (F0 := F0) (R0 := R0) x1 x2 x3 (1 : Int32) z0 F G g4 g5 (Or.inr (Or.inl ⟨rfl, h44, (by first | with_reducible rfl | (simp only [h43, i_as, fup, Nat.reduceEqDiff, reduceIte, if_false]) | rfl), (hR.trans (by first | with_reducible rfl | (simp only [rh_tail, hx0, hx1, (eq_true hx2), h43, i_as, fup, i_a0, i0m, i10, eq_self, rb_yes, rb_no, ryes, rno, if_true, if_false, f_tt (p := True), reduceIte, Nat.reduceEqDiff]) | rfl)), (by first | with_reducible rfl | assumption | (simp only [g4, g5, rh_tail, hx0, hx1, (eq_true hx2), h43, i_as, fup, i_a0, i0m, i10, eq_self, rb_yes, rb_no, ryes, rno, if_true, if_false, f_tt (p := True), reduceIte, Nat.reduceEqDiff]) | exact sgn_ne (by assumption) (by decide)), (by first | with_reducible rfl | assumption | (simp only [g4, g5, rh_tail, hx0, hx1, (eq_true hx2), h43, i_as, fup, i_a0, i0m, i10, eq_self, rb_yes, rb_no, ryes, rno, if_true, if_false, f_tt (p := True), reduceIte, Nat.reduceEqDiff]) | exact sgn_ne (by assumption) (by decide)), (by first | with_reducible rfl | assumption | (simp only [g4, g5, rh_tail, hx0, hx1, (eq_true hx2), h43, i_as, fup, i_a0, i0m, i10, eq_self, rb_yes, rb_no, ryes, rno, if_true, if_false, f_tt (p := True), reduceIte, Nat.reduceEqDiff]) | exact sgn_ne (by assumption) (by decide))⟩))
      · skip
        unfold mb_inConstant_93
        refine PP.ix (fun _ => ?_)
        refine PP.bind (mw_note (4 : Int32) (G 6 x1.toNatClampNeg) F G) ?_
        intro r11 F11 G11 hK11
        dsimp only
        have g_12 : G11 4 = K := Eq.trans (hK11.2 4 rfl) g4
        have g_13 : G11 5 = V := Eq.trans (hK11.2 5 rfl) g5
        have q_14 : F11 42 = (F 42) := hK11.1 42 rfl
        have q_15 : F11 43 = (F0 43) := Eq.trans (hK11.1 43 rfl) (show (F 43) = (F0 43) by simp only [h43, i_as])
        have q_16 : F11 44 = 0 := Eq.trans (hK11.1 44 rfl) h44
        exact mrj_inConstant_104 rc r ihK ih (F0 := F0) (R0 := R0) x1 x2 x3 (1 : Int32) z0 F11 G11 g_12 g_13 (Or.inr (Or.inl ⟨rfl, q_16, (by first | with_reducible rfl | (simp only [h43, q_14, q_15, i_as, fup, Nat.reduceEqDiff, reduceIte, if_false]) | rfl), (hR.trans (by first | with_reducible rfl | (simp only [rh_tail, hx0, hx1, (eq_true hx2), h43, q_14, q_15, i_as, fup, i_a0, i0m, i10, eq_self, rb_yes, rb_no, ryes, rno, if_true, if_false, f_tt (p := True), reduceIte, Nat.reduceEqDiff]) | rfl)), (by first | with_reducible rfl | assumption | (simp only [g_12, g_13, rh_tail, hx0, hx1, (eq_true hx2), h43, q_14, q_15, i_as, fup, i_a0, i0m, i10, eq_self, rb_yes, rb_no, ryes, rno, if_true, if_false, f_tt (p := True), reduceIte, Nat.reduceEqDiff]) | exact sgn_ne (by assumption) (by decide)), (by first | with_reducible rfl | assumption | (simp only [g_12, g_13, rh_tail, hx0, hx1, (eq_true hx2), h43, q_14, q_15, i_as, fup, i_a0, i0m, i10, eq_self, rb_yes, rb_no, ryes, rno, if_true, if_false, f_tt (p := True), reduceIte, Nat.reduceEqDiff]) | exact sgn_ne (by assumption) (by decide)), (by first | with_reducible rfl | assumption | (simp only [g_12, g_13, rh_tail, hx0, hx1, (eq_true hx2), h43, q_14, q_15, i_as, fup, i_a0, i0m, i10, eq_self, rb_yes, rb_no, ryes, rno, if_true, if_false, f_tt (p := True), reduceIte, Nat.reduceEqDiff]) | exact sgn_ne (by assumption) (by decide))⟩))
  · skip
    unfold mb_inConstant_80
    refine PP.ite (fun c_17 => ?_) (fun c_17 => ?_)
    · skip
      exact mrj_inConstant_104 rc r ihK ih (F0 := F0) (R0 := R0) x1 x2 x3 (0 : Int32) z0 F G g4 g5 (Or.inr (Or.inr ⟨rfl, h44, (by first | with_reducible rfl | (simp only [h43, i_as, fup, Nat.reduceEqDiff, reduceIte, if_false]) | rfl), (hR.trans (by first | with_reducible rfl | (simp only [rh_tail, hx0, hx1, (eq_true hx2), h43, i_as, fup, i_a0, i0m, i10, eq_self, rb_yes, rb_no, ryes, rno, if_true, if_false, f_tt (p := True), reduceIte, Nat.reduceEqDiff]) | rfl)), (by first | with_reducible rfl | assumption | (simp only [g4, g5, rh_tail, hx0, hx1, (eq_true hx2), h43, i_as, fup, i_a0, i0m, i10, eq_self, rb_yes, rb_no, ryes, rno, if_true, if_false, f_tt (p := True), reduceIte, Nat.reduceEqDiff]) | exact sgn_ne (by assumption) (by decide)), (by first | with_reducible rfl | assumption | (simp only [g4, g5, rh_tail, hx0, hx1, (eq_true hx2), h43, i_as, fup, i_a0, i0m, i10, eq_self, rb_yes, rb_no, ryes, rno, if_true, if_false, f_tt (p := True), reduceIte, Nat.reduceEqDiff]) | exact sgn_ne (by assumption) (by decide)), (by first | with_reducible rfl | assumption | (simp only [g4, g5, rh_tail, hx0, hx1, (eq_true hx2), h43, i_as, fup, i_a0, i0m, i10, eq_self, rb_yes, rb_no, ryes, rno, if_true, if_false, f_tt (p := True), reduceIte, Nat.reduceEqDiff]) | exact sgn_ne (by assumption) (by decide))⟩))
    · skip
      unfold mb_inConstant_89
      refine PP.ite (fun c_18 => ?_) (fun c_18 => ?_)
      · skip
        exact mrj_inConstant_104 rc r ihK ih (F0 := F0) (R0 := R0) x1 x2 x3 (0 : Int32) z0 F G g4 g5 (Or.inr (Or.inr ⟨rfl, h44, (by first | with_reducible rfl | (simp only [h43, i_as, fup, Nat.reduceEqDiff, reduceIte, if_false]) | rfl), (hR.trans (by first | with_reducible rfl | (simp only [rh_tail, hx0, hx1, (eq_true hx2), h43, i_as, fup, i_a0, i0m, i10, eq_self, rb_yes, rb_no, ryes, rno, if_true, if_false, f_tt (p := True), reduceIte, Nat.reduceEqDiff]) | rfl)), (by first | with_reducible rfl | assumption | (simp only [g4, g5, rh_tail, hx0, hx1, (eq_true hx2), h43, i_as, fup, i_a0, i0m, i10, eq_self, rb_yes, rb_no, ryes, rno, if_true, if_false, f_tt (p := True), reduceIte, Nat.reduceEqDiff]) | exact sgn_ne (by assumption) (by decide)), (by first | with_reducible rfl | assumption | (simp only [g4, g5, rh_tail, hx0, hx1, (eq_true hx2), h43, i_as, fup, i_a0, i0m, i10, eq_self, rb_yes, rb_no, ryes, rno, if_true, if_false, f_tt (p := True), reduceIte, Nat.reduceEqDiff]) | exact sgn_ne (by assumption) (by decide)), (by first | with_reducible rfl | assumption | (simp only [g4, g5, rh_tail, hx0, hx1, (eq_true hx2), h43, i_as, fup, i_a0, i0m, i10, eq_self, rb_yes, rb_no, ryes, rno, if_true, if_false, f_tt (p := True), reduceIte, Nat.reduceEqDiff]) | exact sgn_ne (by assumption) (by decide))⟩))
      · skip
        unfold mb_inConstant_93
        refine PP.ix (fun _ => ?_)
        refine PP.bind (mw_note (4 : Int32) (G 6 x1.toNatClampNeg) F G) ?_
        intro r19 F19 G19 hK19
        dsimp only
        have g_20 : G19 4 = K := Eq.trans (hK19.2 4 rfl) g4
        have g_21 : G19 5 = V := Eq.trans (hK19.2 5 rfl) g5
        have q_22 : F19 42 = (F 42) := hK19.1 42 rfl
        have q_23 : F19 43 = (F0 43) := Eq.trans (hK19.1 43 rfl) (show (F 43) = (F0 43) by simp only [h43, i_as])
        have q_24 : F19 44 = 0 := Eq.trans (hK19.1 44 rfl) h44
        exact mrj_inConstant_104 rc r ihK ih (F0 := F0) (R0 := R0) x1 x2 x3 (0 : Int32) z0 F19 G19 g_20 g_21 (Or.inr (Or.inr ⟨rfl, q_24, (by first | with_reducible rfl | (simp only [h43, q_22, q_23, i_as, fup, Nat.reduceEqDiff, reduceIte, if_false]) | rfl), (hR.trans (by first | with_reducible rfl | (simp only [rh_tail, hx0, hx1, (eq_true hx2), h43, q_22, q_23, i_as, fup, i_a0, i0m, i10, eq_self, rb_yes, rb_no, ryes, rno, if_true, if_false, f_tt (p := True), reduceIte, Nat.reduceEqDiff]) | rfl)), (by first | with_reducible rfl | assumption | (simp only [g_20, g_21, rh_tail, hx0, hx1, (eq_true hx2), h43, q_22, q_23, i_as, fup, i_a0, i0m, i10, eq_self, rb_yes, rb_no, ryes, rno, if_true, if_false, f_tt (p := True), reduceIte, Nat.reduceEqDiff]) | exact sgn_ne (by assumption) (by decide)), (by first | with_reducible rfl | assumption | (simp only [g_20, g_21, rh_tail, hx0, hx1, (eq_true hx2), h43, q_22, q_23, i_as, fup, i_a0, i0m, i10, eq_self, rb_yes, rb_no, ryes, rno, if_true, if_false, f_tt (p := True), reduceIte, Nat.reduceEqDiff]) | exact sgn_ne (by assumption) (by decide)), (by first | with_reducible rfl | assumption | (simp only [g_20, g_21, rh_tail, hx0, hx1, (eq_true hx2), h43, q_22, q_23, i_as, fup, i_a0, i0m, i10, eq_self, rb_yes, rb_no, ryes, rno, if_true, if_false, f_tt (p := True), reduceIte, Nat.reduceEqDiff]) | exact sgn_ne (by assumption) (by decide))⟩))
