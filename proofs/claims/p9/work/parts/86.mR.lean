theorem mrj_inConstant_79 {fu : Nat} {K V : Nat → Int32} (rc : RC) (r : RR) (ihK : mKI1 rc) (ih : mRI1 K V rc r) {F0 : PF} {R0 : OR} (x1 : Int32) (x2 : Int32) (x3 : Int32) (x4 : Int32) (F : PF) (G : PG) (g4 : G 4 = K) (g5 : G 5 = V) (hA : (x4 = 1 ∧ F 44 = 0 ∧ F 43 = F0 43 ∧ R0 = rh_tail K V r (F 42) (F 43) ∧ sgn K V (F 42) (24 : Int32) = true ∧ sgn K V (F 42) (22 : Int32) = false ∧ K ((F 42) - (1 : Int32)).toNatClampNeg = (1 : Int32)) ∨ (x4 = 1 ∧ F 44 = 0 ∧ F 43 = F0 43 ∧ R0 = rh_tail K V r (F 42) (F 43) ∧ sgn K V (F 42) (22 : Int32) = true ∧ sgn K V (F 42) (24 : Int32) = false ∧ K ((F 42) - (1 : Int32)).toNatClampNeg = (1 : Int32)) ∨ (x4 = 0 ∧ F 44 = 0 ∧ F 43 = F0 43 ∧ R0 = rh_tail K V r (F 42) (F 43) ∧ sgn K V (F 42) (22 : Int32) = false ∧ sgn K V (F 42) (24 : Int32) = false ∧ K ((F 42) - (1 : Int32)).toNatClampNeg = (1 : Int32))) : PP (mb_inConstant_79 fu rc x1 x2 x3 x4 F G) (fun r' F' _ => ROK R0 F0 r' F') := by
  rcases hA with ⟨rfl, h44, h43, hR, hx0, hx1, hx2⟩ | ⟨rfl, h44, h43, hR, hx0, hx1, hx2⟩ | ⟨rfl, h44, h43, hR, hx0, hx1, hx2⟩
  · skip
    unfold mb_inConstant_79
    exact mrj_inConstant_80 rc r ihK ih (F0 := F0) (R0 := R0) x1 x2 x3 (1 : Int32) (0 : Int32) F G g4 g5 (Or.inl ⟨rfl, h44, (by first | with_reducible rfl | (simp only [h43, i_as, fup, Nat.reduceEqDiff, reduceIte, if_false]) | rfl), (hR.trans (by first | with_reducible rfl | (simp only [rh_tail, hx0, hx1, (eq_true hx2), h43, i_as, fup, i_a0, i0m, i10, eq_self, rb_yes, rb_no, ryes, rno, if_true, if_false, f_tt (p := True), reduceIte, Nat.reduceEqDiff]) | rfl)), (by first | with_reducible rfl | assumption | (simp only [g4, g5, rh_tail, hx0, hx1, (eq_true hx2), h43, i_as, fup, i_a0, i0m, i10, eq_self, rb_yes, rb_no, ryes, rno, if_true, if_false, f_tt (p := True), reduceIte, Nat.reduceEqDiff]) | exact sgn_ne (by assumption) (by decide)), (by first | with_reducible rfl | assumption | (simp only [g4, g5, rh_tail, hx0, hx1, (eq_true hx2), h43, i_as, fup, i_a0, i0m, i10, eq_self, rb_yes, rb_no, ryes, rno, if_true, if_false, f_tt (p := True), reduceIte, Nat.reduceEqDiff]) | exact sgn_ne (by assumption) (by decide)), (by first | with_reducible rfl | assumption | (simp only [g4, g5, rh_tail, hx0, hx1, (eq_true hx2), h43, i_as, fup, i_a0, i0m, i10, eq_self, rb_yes, rb_no, ryes, rno, if_true, if_false, f_tt (p := True), reduceIte, Nat.reduceEqDiff]) | exact sgn_ne (by assumption) (by decide))⟩)
  · skip
    unfold mb_inConstant_79
    exact mrj_inConstant_80 rc r ihK ih (F0 := F0) (R0 := R0) x1 x2 x3 (1 : Int32) (0 : Int32) F G g4 g5 (Or.inr (Or.inl ⟨rfl, h44, (by first | with_reducible rfl | (simp only [h43, i_as, fup, Nat.reduceEqDiff, reduceIte, if_false]) | rfl), (hR.trans (by first | with_reducible rfl | (simp only [rh_tail, hx0, hx1, (eq_true hx2), h43, i_as, fup, i_a0, i0m, i10, eq_self, rb_yes, rb_no, ryes, rno, if_true, if_false, f_tt (p := True), reduceIte, Nat.reduceEqDiff]) | rfl)), (by first | with_reducible rfl | assumption | (simp only [g4, g5, rh_tail, hx0, hx1, (eq_true hx2), h43, i_as, fup, i_a0, i0m, i10, eq_self, rb_yes, rb_no, ryes, rno, if_true, if_false, f_tt (p := True), reduceIte, Nat.reduceEqDiff]) | exact sgn_ne (by assumption) (by decide)), (by first | with_reducible rfl | assumption | (simp only [g4, g5, rh_tail, hx0, hx1, (eq_true hx2), h43, i_as, fup, i_a0, i0m, i10, eq_self, rb_yes, rb_no, ryes, rno, if_true, if_false, f_tt (p := True), reduceIte, Nat.reduceEqDiff]) | exact sgn_ne (by assumption) (by decide)), (by first | with_reducible rfl | assumption | (simp only [g4, g5, rh_tail, hx0, hx1, (eq_true hx2), h43, i_as, fup, i_a0, i0m, i10, eq_self, rb_yes, rb_no, ryes, rno, if_true, if_false, f_tt (p := True), reduceIte, Nat.reduceEqDiff]) | exact sgn_ne (by assumption) (by decide))⟩))
  · skip
    unfold mb_inConstant_79
    exact mrj_inConstant_80 rc r ihK ih (F0 := F0) (R0 := R0) x1 x2 x3 (0 : Int32) (0 : Int32) F G g4 g5 (Or.inr (Or.inr ⟨rfl, h44, (by first | with_reducible rfl | (simp only [h43, i_as, fup, Nat.reduceEqDiff, reduceIte, if_false]) | rfl), (hR.trans (by first | with_reducible rfl | (simp only [rh_tail, hx0, hx1, (eq_true hx2), h43, i_as, fup, i_a0, i0m, i10, eq_self, rb_yes, rb_no, ryes, rno, if_true, if_false, f_tt (p := True), reduceIte, Nat.reduceEqDiff]) | rfl)), (by first | with_reducible rfl | assumption | (simp only [g4, g5, rh_tail, hx0, hx1, (eq_true hx2), h43, i_as, fup, i_a0, i0m, i10, eq_self, rb_yes, rb_no, ryes, rno, if_true, if_false, f_tt (p := True), reduceIte, Nat.reduceEqDiff]) | exact sgn_ne (by assumption) (by decide)), (by first | with_reducible rfl | assumption | (simp only [g4, g5, rh_tail, hx0, hx1, (eq_true hx2), h43, i_as, fup, i_a0, i0m, i10, eq_self, rb_yes, rb_no, ryes, rno, if_true, if_false, f_tt (p := True), reduceIte, Nat.reduceEqDiff]) | exact sgn_ne (by assumption) (by decide)), (by first | with_reducible rfl | assumption | (simp only [g4, g5, rh_tail, hx0, hx1, (eq_true hx2), h43, i_as, fup, i_a0, i0m, i10, eq_self, rb_yes, rb_no, ryes, rno, if_true, if_false, f_tt (p := True), reduceIte, Nat.reduceEqDiff]) | exact sgn_ne (by assumption) (by decide))⟩))
theorem mrj_inConstant_59 {fu : Nat} {K V : Nat → Int32} (rc : RC) (r : RR) (ihK : mKI1 rc) (ih : mRI1 K V rc r) {F0 : PF} {R0 : OR} (x1 : Int32) (x2 : Int32) (x3 : Int32) (z0 : Int32) (F : PF) (G : PG) (g4 : G 4 = K) (g5 : G 5 = V) (hA : (z0 = 1 ∧ F 44 = 0 ∧ F 43 = F0 43 ∧ R0 = rh_tail K V r (F 42) (F 43) ∧ sgn K V (F 42) (24 : Int32) = true ∧ sgn K V (F 42) (22 : Int32) = false ∧ K ((F 42) - (1 : Int32)).toNatClampNeg = (1 : Int32)) ∨ (z0 = 1 ∧ F 44 = 0 ∧ F 43 = F0 43 ∧ R0 = rh_tail K V r (F 42) (F 43) ∧ sgn K V (F 42) (22 : Int32) = true ∧ sgn K V (F 42) (24 : Int32) = false ∧ K ((F 42) - (1 : Int32)).toNatClampNeg = (1 : Int32)) ∨ (z0 = 0 ∧ F 44 = 0 ∧ F 43 = F0 43 ∧ R0 = rh_tail K V r (F 42) (F 43) ∧ sgn K V (F 42) (22 : Int32) = false ∧ sgn K V (F 42) (24 : Int32) = false ∧ K ((F 42) - (1 : Int32)).toNatClampNeg = (1 : Int32))) : PP (mb_inConstant_59 fu rc x1 x2 x3 z0 F G) (fun r' F' _ => ROK R0 F0 r' F') := by
  rcases hA with ⟨rfl, h44, h43, hR, hx0, hx1, hx2⟩ | ⟨rfl, h44, h43, hR, hx0, hx1, hx2⟩ | ⟨rfl, h44, h43, hR, hx0, hx1, hx2⟩
  · skip
    unfold mb_inConstant_59
    refine PP.ite (fun c_1 => ?_) (fun c_1 => ?_)
    · skip
      exact mrj_inConstant_79 rc r ihK ih (F0 := F0) (R0 := R0) x1 x2 x3 (1 : Int32) F G g4 g5 (Or.inl ⟨rfl, h44, (by first | with_reducible rfl | (simp only [h43, i_as, fup, Nat.reduceEqDiff, reduceIte, if_false]) | rfl), (hR.trans (by first | with_reducible rfl | (simp only [rh_tail, hx0, hx1, (eq_true hx2), h43, i_as, fup, i_a0, i0m, i10, eq_self, rb_yes, rb_no, ryes, rno, if_true, if_false, f_tt (p := True), reduceIte, Nat.reduceEqDiff]) | rfl)), (by first | with_reducible rfl | assumption | (simp only [g4, g5, rh_tail, hx0, hx1, (eq_true hx2), h43, i_as, fup, i_a0, i0m, i10, eq_self, rb_yes, rb_no, ryes, rno, if_true, if_false, f_tt (p := True), reduceIte, Nat.reduceEqDiff]) | exact sgn_ne (by assumption) (by decide)), (by first | with_reducible rfl | assumption | (simp only [g4, g5, rh_tail, hx0, hx1, (eq_true hx2), h43, i_as, fup, i_a0, i0m, i10, eq_self, rb_yes, rb_no, ryes, rno, if_true, if_false, f_tt (p := True), reduceIte, Nat.reduceEqDiff]) | exact sgn_ne (by assumption) (by decide)), (by first | with_reducible rfl | assumption | (simp only [g4, g5, rh_tail, hx0, hx1, (eq_true hx2), h43, i_as, fup, i_a0, i0m, i10, eq_self, rb_yes, rb_no, ryes, rno, if_true, if_false, f_tt (p := True), reduceIte, Nat.reduceEqDiff]) | exact sgn_ne (by assumption) (by decide))⟩)
    · skip
      unfold mb_inConstant_66
      refine PP.ix (fun _ => ?_)
      refine PP.ite (fun c_2 => ?_) (fun c_2 => ?_)
      · skip
        unfold mb_inConstant_75
        exact mrj_inConstant_80 rc r ihK ih (F0 := F0) (R0 := R0) x1 x2 x3 (1 : Int32) (1 : Int32) F G g4 g5 (Or.inl ⟨rfl, h44, (by first | with_reducible rfl | (simp only [h43, i_as, fup, Nat.reduceEqDiff, reduceIte, if_false]) | rfl), (hR.trans (by first | with_reducible rfl | (simp only [rh_tail, hx0, hx1, (eq_true hx2), h43, i_as, fup, i_a0, i0m, i10, eq_self, rb_yes, rb_no, ryes, rno, if_true, if_false, f_tt (p := True), reduceIte, Nat.reduceEqDiff]) | rfl)), (by first | with_reducible rfl | assumption | (simp only [g4, g5, rh_tail, hx0, hx1, (eq_true hx2), h43, i_as, fup, i_a0, i0m, i10, eq_self, rb_yes, rb_no, ryes, rno, if_true, if_false, f_tt (p := True), reduceIte, Nat.reduceEqDiff]) | exact sgn_ne (by assumption) (by decide)), (by first | with_reducible rfl | assumption | (simp only [g4, g5, rh_tail, hx0, hx1, (eq_true hx2), h43, i_as, fup, i_a0, i0m, i10, eq_self, rb_yes, rb_no, ryes, rno, if_true, if_false, f_tt (p := True), reduceIte, Nat.reduceEqDiff]) | exact sgn_ne (by assumption) (by decide)), (by first | with_reducible rfl | assumption | (simp only [g4, g5, rh_tail, hx0, hx1, (eq_true hx2), h43, i_as, fup, i_a0, i0m, i10, eq_self, rb_yes, rb_no, ryes, rno, if_true, if_false, f_tt (p := True), reduceIte, Nat.reduceEqDiff]) | exact sgn_ne (by assumption) (by decide))⟩)
      · skip
        exact mrj_inConstant_79 rc r ihK ih (F0 := F0) (R0 := R0) x1 x2 x3 (1 : Int32) F G g4 g5 (Or.inl ⟨rfl, h44, (by first | with_reducible rfl | (simp only [h43, i_as, fup, Nat.reduceEqDiff, reduceIte, if_false]) | rfl), (hR.trans (by first | with_reducible rfl | (simp only [rh_tail, hx0, hx1, (eq_true hx2), h43, i_as, fup, i_a0, i0m, i10, eq_self, rb_yes, rb_no, ryes, rno, if_true, if_false, f_tt (p := True), reduceIte, Nat.reduceEqDiff]) | rfl)), (by first | with_reducible rfl | assumption | (simp only [g4, g5, rh_tail, hx0, hx1, (eq_true hx2), h43, i_as, fup, i_a0, i0m, i10, eq_self, rb_yes, rb_no, ryes, rno, if_true, if_false, f_tt (p := True), reduceIte, Nat.reduceEqDiff]) | exact sgn_ne (by assumption) (by decide)), (by first | with_reducible rfl | assumption | (simp only [g4, g5, rh_tail, hx0, hx1, (eq_true hx2), h43, i_as, fup, i_a0, i0m, i10, eq_self, rb_yes, rb_no, ryes, rno, if_true, if_false, f_tt (p := True), reduceIte, Nat.reduceEqDiff]) | exact sgn_ne (by assumption) (by decide)), (by first | with_reducible rfl | assumption | (simp only [g4, g5, rh_tail, hx0, hx1, (eq_true hx2), h43, i_as, fup, i_a0, i0m, i10, eq_self, rb_yes, rb_no, ryes, rno, if_true, if_false, f_tt (p := True), reduceIte, Nat.reduceEqDiff]) | exact sgn_ne (by assumption) (by decide))⟩)
  · skip
    unfold mb_inConstant_59
    refine PP.ite (fun c_3 => ?_) (fun c_3 => ?_)
    · skip
      exact mrj_inConstant_79 rc r ihK ih (F0 := F0) (R0 := R0) x1 x2 x3 (1 : Int32) F G g4 g5 (Or.inr (Or.inl ⟨rfl, h44, (by first | with_reducible rfl | (simp only [h43, i_as, fup, Nat.reduceEqDiff, reduceIte, if_false]) | rfl), (hR.trans (by first | with_reducible rfl | (simp only [rh_tail, hx0, hx1, (eq_true hx2), h43, i_as, fup, i_a0, i0m, i10, eq_self, rb_yes, rb_no, ryes, rno, if_true, if_false, f_tt (p := True), reduceIte, Nat.reduceEqDiff]) | rfl)), (by first | with_reducible rfl | assumption | (simp only [g4, g5, rh_tail, hx0, hx1, (eq_true hx2), h43, i_as, fup, i_a0, i0m, i10, eq_self, rb_yes, rb_no, ryes, rno, if_true, if_false, f_tt (p := True), reduceIte, Nat.reduceEqDiff]) | exact sgn_ne (by assumption) (by decide)), (by first | with_reducible rfl | assumption | (simp only [g4, g5, rh_tail, hx0, hx1, (eq_true hx2), h43, i_as, fup, i_a0, i0m, i10, eq_self, rb_yes, rb_no, ryes, rno, if_true, if_false, f_tt (p := True), reduceIte, Nat.reduceEqDiff]) | exact sgn_ne (by assumption) (by decide)), (by first | with_reducible rfl | assumption | (simp only [g4, g5, rh_tail, hx0, hx1, (eq_true hx2), h43, i_as, fup, i_a0, i0m, i10, eq_self, rb_yes, rb_no, ryes, rno, if_true, if_false, f_tt (p := True), reduceIte, Nat.reduceEqDiff]) | exact sgn_ne (by assumption) (by decide))⟩))
    · skip
      unfold mb_inConstant_66
      refine PP.ix (fun _ => ?_)
      refine PP.ite (fun c_4 => ?_) (fun c_4 => ?_)
      · skip
        unfold mb_inConstant_75
        exact mrj_inConstant_80 rc r ihK ih (F0 := F0) (R0 := R0) x1 x2 x3 (1 : Int32) (1 : Int32) F G g4 g5 (Or.inr (Or.inl ⟨rfl, h44, (by first | with_reducible rfl | (simp only [h43, i_as, fup, Nat.reduceEqDiff, reduceIte, if_false]) | rfl), (hR.trans (by first | with_reducible rfl | (simp only [rh_tail, hx0, hx1, (eq_true hx2), h43, i_as, fup, i_a0, i0m, i10, eq_self, rb_yes, rb_no, ryes, rno, if_true, if_false, f_tt (p := True), reduceIte, Nat.reduceEqDiff]) | rfl)), (by first | with_reducible rfl | assumption | (simp only [g4, g5, rh_tail, hx0, hx1, (eq_true hx2), h43, i_as, fup, i_a0, i0m, i10, eq_self, rb_yes, rb_no, ryes, rno, if_true, if_false, f_tt (p := True), reduceIte, Nat.reduceEqDiff]) | exact sgn_ne (by assumption) (by decide)), (by first | with_reducible rfl | assumption | (simp only [g4, g5, rh_tail, hx0, hx1, (eq_true hx2), h43, i_as, fup, i_a0, i0m, i10, eq_self, rb_yes, rb_no, ryes, rno, if_true, if_false, f_tt (p := True), reduceIte, Nat.reduceEqDiff]) | exact sgn_ne (by assumption) (by decide)), (by first | with_reducible rfl | assumption | (simp only [g4, g5, rh_tail, hx0, hx1, (eq_true hx2), h43, i_as, fup, i_a0, i0m, i10, eq_self, rb_yes, rb_no, ryes, rno, if_true, if_false, f_tt (p := True), reduceIte, Nat.reduceEqDiff]) | exact sgn_ne (by assumption) (by decide))⟩))
      · skip
        exact mrj_inConstant_79 rc r ihK ih (F0 := F0) (R0 := R0) x1 x2 x3 (1 : Int32) F G g4 g5 (Or.inr (Or.inl ⟨rfl, h44, (by first | with_reducible rfl | (simp only [h43, i_as, fup, Nat.reduceEqDiff, reduceIte, if_false]) | rfl), (hR.trans (by first | with_reducible rfl | (simp only [rh_tail, hx0, hx1, (eq_true hx2), h43, i_as, fup, i_a0, i0m, i10, eq_self, rb_yes, rb_no, ryes, rno, if_true, if_false, f_tt (p := True), reduceIte, Nat.reduceEqDiff]) | rfl)), (by first | with_reducible rfl | assumption | (simp only [g4, g5, rh_tail, hx0, hx1, (eq_true hx2), h43, i_as, fup, i_a0, i0m, i10, eq_self, rb_yes, rb_no, ryes, rno, if_true, if_false, f_tt (p := True), reduceIte, Nat.reduceEqDiff]) | exact sgn_ne (by assumption) (by decide)), (by first | with_reducible rfl | assumption | (simp only [g4, g5, rh_tail, hx0, hx1, (eq_true hx2), h43, i_as, fup, i_a0, i0m, i10, eq_self, rb_yes, rb_no, ryes, rno, if_true, if_false, f_tt (p := True), reduceIte, Nat.reduceEqDiff]) | exact sgn_ne (by assumption) (by decide)), (by first | with_reducible rfl | assumption | (simp only [g4, g5, rh_tail, hx0, hx1, (eq_true hx2), h43, i_as, fup, i_a0, i0m, i10, eq_self, rb_yes, rb_no, ryes, rno, if_true, if_false, f_tt (p := True), reduceIte, Nat.reduceEqDiff]) | exact sgn_ne (by assumption) (by decide))⟩))
  · skip
    unfold mb_inConstant_59
    refine PP.ite (fun c_5 => ?_) (fun c_5 => ?_)
    · skip
      exact mrj_inConstant_79 rc r ihK ih (F0 := F0) (R0 := R0) x1 x2 x3 (0 : Int32) F G g4 g5 (Or.inr (Or.inr ⟨rfl, h44, (by first | with_reducible rfl | (simp only [h43, i_as, fup, Nat.reduceEqDiff, reduceIte, if_false]) | rfl), (hR.trans (by first | with_reducible rfl | (simp only [rh_tail, hx0, hx1, (eq_true hx2), h43, i_as, fup, i_a0, i0m, i10, eq_self, rb_yes, rb_no, ryes, rno, if_true, if_false, f_tt (p := True), reduceIte, Nat.reduceEqDiff]) | rfl)), (by first | with_reducible rfl | assumption | (simp only [g4, g5, rh_tail, hx0, hx1, (eq_true hx2), h43, i_as, fup, i_a0, i0m, i10, eq_self, rb_yes, rb_no, ryes, rno, if_true, if_false, f_tt (p := True), reduceIte, Nat.reduceEqDiff]) | exact sgn_ne (by assumption) (by decide)), (by first | with_reducible rfl | assumption | (simp only [g4, g5, rh_tail, hx0, hx1, (eq_true hx2), h43, i_as, fup, i_a0, i0m, i10, eq_self, rb_yes, rb_no, ryes, rno, if_true, if_false, f_tt (p := True), reduceIte, Nat.reduceEqDiff]) | exact sgn_ne (by assumption) (by decide)), (by first | with_reducible rfl | assumption | (simp only [g4, g5, rh_tail, hx0, hx1, (eq_true hx2), h43, i_as, fup, i_a0, i0m, i10, eq_self, rb_yes, rb_no, ryes, rno, if_true, if_false, f_tt (p := True), reduceIte, Nat.reduceEqDiff]) | exact sgn_ne (by assumption) (by decide))⟩))
    · skip
      unfold mb_inConstant_66
      refine PP.ix (fun _ => ?_)
      refine PP.ite (fun c_6 => ?_) (fun c_6 => ?_)
      · skip
        unfold mb_inConstant_75
        exact mrj_inConstant_80 rc r ihK ih (F0 := F0) (R0 := R0) x1 x2 x3 (0 : Int32) (1 : Int32) F G g4 g5 (Or.inr (Or.inr ⟨rfl, h44, (by first | with_reducible rfl | (simp only [h43, i_as, fup, Nat.reduceEqDiff, reduceIte, if_false]) | rfl), (hR.trans (by first | with_reducible rfl | (simp only [rh_tail, hx0, hx1, (eq_true hx2), h43, i_as, fup, i_a0, i0m, i10, eq_self, rb_yes, rb_no, ryes, rno, if_true, if_false, f_tt (p := True), reduceIte, Nat.reduceEqDiff]) | rfl)), (by first | with_reducible rfl | assumption | (simp only [g4, g5, rh_tail, hx0, hx1, (eq_true hx2), h43, i_as, fup, i_a0, i0m, i10, eq_self, rb_yes, rb_no, ryes, rno, if_true, if_false, f_tt (p := True), reduceIte, Nat.reduceEqDiff]) | exact sgn_ne (by assumption) (by decide)), (by first | with_reducible rfl | assumption | (simp only [g4, g5, rh_tail, hx0, hx1, (eq_true hx2), h43, i_as, fup, i_a0, i0m, i10, eq_self, rb_yes, rb_no, ryes, rno, if_true, if_false, f_tt (p := True), reduceIte, Nat.reduceEqDiff]) | exact sgn_ne (by assumption) (by decide)), (by first | with_reducible rfl | assumption | (simp only [g4, g5, rh_tail, hx0, hx1, (eq_true hx2), h43, i_as, fup, i_a0, i0m, i10, eq_self, rb_yes, rb_no, ryes, rno, if_true, if_false, f_tt (p := True), reduceIte, Nat.reduceEqDiff]) | exact sgn_ne (by assumption) (by decide))⟩))
      · skip
        exact mrj_inConstant_79 rc r ihK ih (F0 := F0) (R0 := R0) x1 x2 x3 (0 : Int32) F G g4 g5 (Or.inr (Or.inr ⟨rfl, h44, (by first | with_reducible rfl | (simp only [h43, i_as, fup, Nat.reduceEqDiff, reduceIte, if_false]) | rfl), (hR.trans (by first | with_reducible rfl | (simp only [rh_tail, hx0, hx1, (eq_true hx2), h43, i_as, fup, i_a0, i0m, i10, eq_self, rb_yes, rb_no, ryes, rno, if_true, if_false, f_tt (p := True), reduceIte, Nat.reduceEqDiff]) | rfl)), (by first | with_reducible rfl | assumption | (simp only [g4, g5, rh_tail, hx0, hx1, (eq_true hx2), h43, i_as, fup, i_a0, i0m, i10, eq_self, rb_yes, rb_no, ryes, rno, if_true, if_false, f_tt (p := True), reduceIte, Nat.reduceEqDiff]) | exact sgn_ne (by assumption) (by decide)), (by first | with_reducible rfl | assumption | (simp only [g4, g5, rh_tail, hx0, hx1, (eq_true hx2), h43, i_as, fup, i_a0, i0m, i10, eq_self, rb_yes, rb_no, ryes, rno, if_true, if_false, f_tt (p := True), reduceIte, Nat.reduceEqDiff]) | exact sgn_ne (by assumption) (by decide)), (by first | with_reducible rfl | assumption | (simp only [g4, g5, rh_tail, hx0, hx1, (eq_true hx2), h43, i_as, fup, i_a0, i0m, i10, eq_self, rb_yes, rb_no, ryes, rno, if_true, if_false, f_tt (p := True), reduceIte, Nat.reduceEqDiff]) | exact sgn_ne (by assumption) (by decide))⟩))
theorem mrj_inConstant_35 {fu : Nat} {K V : Nat → Int32} (rc : RC) (r : RR) (ihK : mKI1 rc) (ih : mRI1 K V rc r) {F0 : PF} {R0 : OR} (x1 : Int32) (x2 : Int32) (z0 : Int32) (F : PF) (G : PG) (g4 : G 4 = K) (g5 : G 5 = V) (hA : (F 44 = 0 ∧ F 43 = F0 43 ∧ R0 = rh_tail K V r (F 42) (F 43) ∧ K ((F 42) - (1 : Int32)).toNatClampNeg = (1 : Int32))) : PP (mb_inConstant_35 fu rc x1 x2 z0 F G) (fun r' F' _ => ROK R0 F0 r' F') := by
  rcases hA with ⟨h44, h43, hR, hx0⟩
  · skip
    unfold mb_inConstant_35
    refine PP.bind (mp_isSign (24 : Int32) F G) ?_
    rintro _ _ _ ⟨rfl, rfl, (⟨rfl, u1⟩ | ⟨rfl, u1⟩)⟩
    · dsimp only
      have h_2 : sgn K V (F 42) (24 : Int32) = true := by
        rw [← g4, ← g5]
        have q := u1
        first | exact q | (simp only [h43, i_as] at q; exact q)
      unfold mb_inConstant_42
      refine PP.ite (fun c_3 => absurd c_3 (by decide)) (fun _ => ?_)
      unfold mb_inConstant_54
      exact mrj_inConstant_59 rc r ihK ih (F0 := F0) (R0 := R0) x1 x2 z0 (1 : Int32) F G g4 g5 (Or.inl ⟨rfl, h44, (by first | with_reducible rfl | (simp only [h43, i_as, fup, Nat.reduceEqDiff, reduceIte, if_false]) | rfl), (hR.trans (by first | with_reducible rfl | (simp only [rh_tail, (eq_true hx0), h_2, h43, i_as, fup, i_a0, i0m, i10, eq_self, rb_yes, rb_no, ryes, rno, if_true, if_false, f_tt (p := True), reduceIte, Nat.reduceEqDiff]) | rfl)), (by first | with_reducible rfl | assumption | (simp only [g4, g5, rh_tail, (eq_true hx0), h_2, h43, i_as, fup, i_a0, i0m, i10, eq_self, rb_yes, rb_no, ryes, rno, if_true, if_false, f_tt (p := True), reduceIte, Nat.reduceEqDiff]) | exact sgn_ne (by assumption) (by decide)), (by first | with_reducible rfl | assumption | (simp only [g4, g5, rh_tail, (eq_true hx0), h_2, h43, i_as, fup, i_a0, i0m, i10, eq_self, rb_yes, rb_no, ryes, rno, if_true, if_false, f_tt (p := True), reduceIte, Nat.reduceEqDiff]) | exact sgn_ne (by assumption) (by decide)), (by first | with_reducible rfl | assumption | (simp only [g4, g5, rh_tail, (eq_true hx0), h_2, h43, i_as, fup, i_a0, i0m, i10, eq_self, rb_yes, rb_no, ryes, rno, if_true, if_false, f_tt (p := True), reduceIte, Nat.reduceEqDiff]) | exact sgn_ne (by assumption) (by decide))⟩)
    · dsimp only
      have h_4 : sgn K V (F 42) (24 : Int32) = false := by
        rw [← g4, ← g5]
        have q := u1
        first | exact q | (simp only [h43, i_as] at q; exact q)
      unfold mb_inConstant_42
      refine PP.ite (fun _ => ?_) (fun c_5 => absurd (by decide) c_5)
      unfold mb_inConstant_45
      refine PP.bind (mp_isSign (22 : Int32) F G) ?_
      rintro _ _ _ ⟨rfl, rfl, (⟨rfl, u6⟩ | ⟨rfl, u6⟩)⟩
      · dsimp only
        have h_7 : sgn K V (F 42) (22 : Int32) = true := by
          rw [← g4, ← g5]
          have q := u6
          first | exact q | (simp only [h43, i_as] at q; exact q)
        unfold mb_inConstant_51
        refine PP.ite (fun c_8 => absurd c_8 (by decide)) (fun _ => ?_)
        unfold mb_inConstant_54
        exact mrj_inConstant_59 rc r ihK ih (F0 := F0) (R0 := R0) x1 x2 z0 (1 : Int32) F G g4 g5 (Or.inr (Or.inl ⟨rfl, h44, (by first | with_reducible rfl | (simp only [h43, i_as, fup, Nat.reduceEqDiff, reduceIte, if_false]) | rfl), (hR.trans (by first | with_reducible rfl | (simp only [rh_tail, (eq_true hx0), h_4, h_7, h43, i_as, fup, i_a0, i0m, i10, eq_self, rb_yes, rb_no, ryes, rno, if_true, if_false, f_tt (p := True), reduceIte, Nat.reduceEqDiff]) | rfl)), (by first | with_reducible rfl | assumption | (simp only [g4, g5, rh_tail, (eq_true hx0), h_4, h_7, h43, i_as, fup, i_a0, i0m, i10, eq_self, rb_yes, rb_no, ryes, rno, if_true, if_false, f_tt (p := True), reduceIte, Nat.reduceEqDiff]) | exact sgn_ne (by assumption) (by decide)), (by first | with_reducible rfl | assumption | (simp only [g4, g5, rh_tail, (eq_true hx0), h_4, h_7, h43, i_as, fup, i_a0, i0m, i10, eq_self, rb_yes, rb_no, ryes, rno, if_true, if_false, f_tt (p := True), reduceIte, Nat.reduceEqDiff]) | exact sgn_ne (by assumption) (by decide)), (by first | with_reducible rfl | assumption | (simp only [g4, g5, rh_tail, (eq_true hx0), h_4, h_7, h43, i_as, fup, i_a0, i0m, i10, eq_self, rb_yes, rb_no, ryes, rno, if_true, if_false, f_tt (p := True), reduceIte, Nat.reduceEqDiff]) | exact sgn_ne (by assumption) (by decide))⟩))
      · dsimp only
        have h_9 : sgn K V (F 42) (22 : Int32) = false := by
          rw [← g4, ← g5]
          have q := u6
          first | exact q | (simp only [h43, i_as] at q; exact q)
        unfold mb_inConstant_51
        refine PP.ite (fun _ => ?_) (fun c_10 => absurd (by decide) c_10)
        unfold mb_inConstant_58
        exact mrj_inConstant_59 rc r ihK ih (F0 := F0) (R0 := R0) x1 x2 z0 (0 : Int32) F G g4 g5 (Or.inr (Or.inr ⟨rfl, h44, (by first | with_reducible rfl | (simp only [h43, i_as, fup, Nat.reduceEqDiff, reduceIte, if_false]) | rfl), (hR.trans (by first | with_reducible rfl | (simp only [rh_tail, (eq_true hx0), h_4, h_9, h43, i_as, fup, i_a0, i0m, i10, eq_self, rb_yes, rb_no, ryes, rno, if_true, if_false, f_tt (p := True), reduceIte, Nat.reduceEqDiff]) | rfl)), (by first | with_reducible rfl | assumption | (simp only [g4, g5, rh_tail, (eq_true hx0), h_4, h_9, h43, i_as, fup, i_a0, i0m, i10, eq_self, rb_yes, rb_no, ryes, rno, if_true, if_false, f_tt (p := True), reduceIte, Nat.reduceEqDiff]) | exact sgn_ne (by assumption) (by decide)), (by first | with_reducible rfl | assumption | (simp only [g4, g5, rh_tail, (eq_true hx0), h_4, h_9, h43, i_as, fup, i_a0, i0m, i10, eq_self, rb_yes, rb_no, ryes, rno, if_true, if_false, f_tt (p := True), reduceIte, Nat.reduceEqDiff]) | exact sgn_ne (by assumption) (by decide)), (by first | with_reducible rfl | assumption | (simp only [g4, g5, rh_tail, (eq_true hx0), h_4, h_9, h43, i_as, fup, i_a0, i0m, i10, eq_self, rb_yes, rb_no, ryes, rno, if_true, if_false, f_tt (p := True), reduceIte, Nat.reduceEqDiff]) | exact sgn_ne (by assumption) (by decide))⟩))
theorem mrj_inConstant_34 {fu : Nat} {K V : Nat → Int32} (rc : RC) (r : RR) (ihK : mKI1 rc) (ih : mRI1 K V rc r) {F0 : PF} {R0 : OR} (x1 : Int32) (x2 : Int32) (F : PF) (G : PG) (g4 : G 4 = K) (g5 : G 5 = V) (hA : (F 44 = 0 ∧ F 43 = F0 43 ∧ R0 = rh_tail K V r (F 42) (F 43) ∧ K ((F 42) - (1 : Int32)).toNatClampNeg = (1 : Int32))) : PP (mb_inConstant_34 fu rc x1 x2 F G) (fun r' F' _ => ROK R0 F0 r' F') := by
  rcases hA with ⟨h44, h43, hR, hx0⟩
  · skip
    unfold mb_inConstant_34
    exact mrj_inConstant_35 rc r ihK ih (F0 := F0) (R0 := R0) x1 x2 (0 : Int32) F G g4 g5 ⟨h44, (by first | with_reducible rfl | (simp only [h43, i_as, fup, Nat.reduceEqDiff, reduceIte, if_false]) | rfl), (hR.trans (by first | with_reducible rfl | (simp only [rh_tail, (eq_true hx0), h43, i_as, fup, i_a0, i0m, i10, eq_self, rb_yes, rb_no, ryes, rno, if_true, if_false, f_tt (p := True), reduceIte, Nat.reduceEqDiff]) | rfl)), (by first | with_reducible rfl | assumption | (simp only [g4, g5, rh_tail, (eq_true hx0), h43, i_as, fup, i_a0, i0m, i10, eq_self, rb_yes, rb_no, ryes, rno, if_true, if_false, f_tt (p := True), reduceIte, Nat.reduceEqDiff]) | exact sgn_ne (by assumption) (by decide))⟩
theorem mrj_inConstant_16 {fu : Nat} {K V : Nat → Int32} (rc : RC) (r : RR) (ihK : mKI1 rc) (ih : mRI1 K V rc r) {F0 : PF} {R0 : OR} (x1 : Int32) (z0 : Int32) (F : PF) (G : PG) (g4 : G 4 = K) (g5 : G 5 = V) (hA : (F 44 = 0 ∧ F 43 = F0 43 ∧ R0 = rh_tail K V r (F 42) (F 43) ∧ K ((F 42) - (1 : Int32)).toNatClampNeg = (1 : Int32))) : PP (mb_inConstant_16 fu rc x1 z0 F G) (fun r' F' _ => ROK R0 F0 r' F') := by
  rcases hA with ⟨h44, h43, hR, hx0⟩
  · skip
    unfold mb_inConstant_16
    refine PP.ite (fun c_1 => ?_) (fun c_1 => ?_)
    · skip
      unfold mb_inConstant_22
      refine PP.ite (fun c_2 => ?_) (fun c_2 => ?_)
      · skip
        unfold mb_inConstant_30
        exact mrj_inConstant_35 rc r ihK ih (F0 := F0) (R0 := R0) x1 z0 (1 : Int32) F G g4 g5 ⟨h44, (by first | with_reducible rfl | (simp only [h43, i_as, fup, Nat.reduceEqDiff, reduceIte, if_false]) | rfl), (hR.trans (by first | with_reducible rfl | (simp only [rh_tail, (eq_true hx0), h43, i_as, fup, i_a0, i0m, i10, eq_self, rb_yes, rb_no, ryes, rno, if_true, if_false, f_tt (p := True), reduceIte, Nat.reduceEqDiff]) | rfl)), (by first | with_reducible rfl | assumption | (simp only [g4, g5, rh_tail, (eq_true hx0), h43, i_as, fup, i_a0, i0m, i10, eq_self, rb_yes, rb_no, ryes, rno, if_true, if_false, f_tt (p := True), reduceIte, Nat.reduceEqDiff]) | exact sgn_ne (by assumption) (by decide))⟩
      · skip
        exact mrj_inConstant_34 rc r ihK ih (F0 := F0) (R0 := R0) x1 z0 F G g4 g5 ⟨h44, (by first | with_reducible rfl | (simp only [h43, i_as, fup, Nat.reduceEqDiff, reduceIte, if_false]) | rfl), (hR.trans (by first | with_reducible rfl | (simp only [rh_tail, (eq_true hx0), h43, i_as, fup, i_a0, i0m, i10, eq_self, rb_yes, rb_no, ryes, rno, if_true, if_false, f_tt (p := True), reduceIte, Nat.reduceEqDiff]) | rfl)), (by first | with_reducible rfl | assumption | (simp only [g4, g5, rh_tail, (eq_true hx0), h43, i_as, fup, i_a0, i0m, i10, eq_self, rb_yes, rb_no, ryes, rno, if_true, if_false, f_tt (p := True), reduceIte, Nat.reduceEqDiff]) | exact sgn_ne (by assumption) (by decide))⟩
    · skip
      exact mrj_inConstant_34 rc r ihK ih (F0 := F0) (R0 := R0) x1 z0 F G g4 g5 ⟨h44, (by first | with_reducible rfl | (simp only [h43, i_as, fup, Nat.reduceEqDiff, reduceIte, if_false]) | rfl), (hR.trans (by first | with_reducible rfl | (simp only [rh_tail, (eq_true hx0), h43, i_as, fup, i_a0, i0m, i10, eq_self, rb_yes, rb_no, ryes, rno, if_true, if_false, f_tt (p := True), reduceIte, Nat.reduceEqDiff]) | rfl)), (by first | with_reducible rfl | assumption | (simp only [g4, g5, rh_tail, (eq_true hx0), h43, i_as, fup, i_a0, i0m, i10, eq_self, rb_yes, rb_no, ryes, rno, if_true, if_false, f_tt (p := True), reduceIte, Nat.reduceEqDiff]) | exact sgn_ne (by assumption) (by decide))⟩
theorem mrt_inConstant {fu : Nat} {K V : Nat → Int32} (rc : RC) (r : RR) (ihK : mKI1 rc) (ih : mRI1 K V rc r) (x1 : Int32) (F : PF) (G : PG) (g4 : G 4 = K) (g5 : G 5 = V) (h44 : F 44 = 0) (hp : K (F 42 - 1).toNatClampNeg = 1) : PP (mh_inConstant fu rc x1 F G) (fun r' F' _ => ROK (rh_tail K V r (F 42) (F 43)) F r' F') := by
  unfold mh_inConstant
  unfold mb_inConstant_0
  refine PP.ite (fun c_1 => ?_) (fun c_1 => ?_)
  · skip
    unfold mb_inConstant_7
    exact mrj_inConstant_16 rc r ihK ih (F0 := F) (R0 := (rh_tail K V r (F 42) (F 43))) x1 (-1 : Int32) F G g4 g5 ⟨h44, (by first | with_reducible rfl | (simp only [i_as, fup, Nat.reduceEqDiff, reduceIte, if_false]) | rfl), ((rfl : (rh_tail K V r (F 42) (F 43)) = _).trans (by first | with_reducible rfl | (simp only [rh_tail, (eq_true hp), i_as, fup, i_a0, i0m, i10, eq_self, rb_yes, rb_no, ryes, rno, if_true, if_false, f_tt (p := True), reduceIte, Nat.reduceEqDiff]) | rfl)), (by first | with_reducible rfl | assumption | (simp only [g4, g5, rh_tail, (eq_true hp), i_as, fup, i_a0, i0m, i10, eq_self, rb_yes, rb_no, ryes, rno, if_true, if_false, f_tt (p := True), reduceIte, Nat.reduceEqDiff]) | exact sgn_ne (by assumption) (by decide))⟩
  · skip
    unfold mb_inConstant_11
    refine PP.bind (mw_meaning x1 F G) ?_
    intro r2 F2 G2 hK2
    dsimp only
    have g_3 : G2 4 = K := Eq.trans (hK2.2 4 rfl) g4
    have g_4 : G2 5 = V := Eq.trans (hK2.2 5 rfl) g5
    have q_5 : F2 42 = (F 42) := hK2.1 42 rfl
    have q_6 : F2 43 = (F 43) := hK2.1 43 rfl
    have q_7 : F2 44 = 0 := Eq.trans (hK2.1 44 rfl) h44
    exact mrj_inConstant_16 rc r ihK ih (F0 := F) (R0 := (rh_tail K V r (F 42) (F 43))) x1 r2 F2 G2 g_3 g_4 ⟨q_7, (by first | with_reducible rfl | (simp only [q_5, q_6, i_as, fup, Nat.reduceEqDiff, reduceIte, if_false]) | rfl), ((rfl : (rh_tail K V r (F 42) (F 43)) = _).trans (by first | with_reducible rfl | (simp only [rh_tail, (eq_true hp), q_5, q_6, i_as, fup, i_a0, i0m, i10, eq_self, rb_yes, rb_no, ryes, rno, if_true, if_false, f_tt (p := True), reduceIte, Nat.reduceEqDiff]) | rfl)), (by first | with_reducible rfl | assumption | (simp only [g_3, g_4, rh_tail, (eq_true hp), q_5, q_6, i_as, fup, i_a0, i0m, i10, eq_self, rb_yes, rb_no, ryes, rno, if_true, if_false, f_tt (p := True), reduceIte, Nat.reduceEqDiff]) | exact sgn_ne (by assumption) (by decide))⟩
theorem mrj_named_212 {fu : Nat} {K V : Nat → Int32} (rc : RC) (r : RR) (ihK : mKI1 rc) (ih : mRI1 K V rc r) {F0 : PF} {R0 : OR} (F : PF) (G : PG) (g4 : G 4 = K) (g5 : G 5 = V) (hA : (F 44 = 0 ∧ F 43 = F0 43 ∧ R0 = ryes (F 42))) : PP (mb_named_212 fu rc F G) (fun r' F' _ => ROK R0 F0 r' F') := by
  rcases hA with ⟨h44, h43, hR⟩
  · skip
    unfold mb_named_212
    refine PP.ret ?_
    refine Or.inl ⟨rfl, h44, ?_, hR.trans ?_⟩
    · show (F 43) = F0 43
      first | with_reducible rfl | (simp only [h43, i_as, fup, Nat.reduceEqDiff, reduceIte, if_false]) | rfl
    · show _ = some (some (F 42))
      first | with_reducible rfl | (simp only [rh_tail, h43, i_as, fup, i_a0, i0m, i10, eq_self, rb_yes, rb_no, ryes, rno, if_true, if_false, f_tt (p := True), reduceIte, Nat.reduceEqDiff]) | rfl
theorem mrj_named_207 {fu : Nat} {K V : Nat → Int32} (rc : RC) (r : RR) (ihK : mKI1 rc) (ih : mRI1 K V rc r) {F0 : PF} {R0 : OR} (z0 : Int32) (z1 : Int32) (F : PF) (G : PG) (g4 : G 4 = K) (g5 : G 5 = V) (hA : (F 44 = 0 ∧ F 43 = F0 43 ∧ R0 = ryes (F 42))) : PP (mb_named_207 fu rc z0 z1 F G) (fun r' F' _ => ROK R0 F0 r' F') := by
  rcases hA with ⟨h44, h43, hR⟩
  · skip
    unfold mb_named_207
    refine PP.bind (mw_step z1 z0 (0 : Int32) F G) ?_
    intro r1 F1 G1 hK1
    dsimp only
    have g_2 : G1 4 = K := Eq.trans (hK1.2 4 rfl) g4
    have g_3 : G1 5 = V := Eq.trans (hK1.2 5 rfl) g5
    have q_4 : F1 42 = (F 42) := hK1.1 42 rfl
    have q_5 : F1 43 = (F0 43) := Eq.trans (hK1.1 43 rfl) (show (F 43) = (F0 43) by simp only [h43, i_as])
    have q_6 : F1 44 = 0 := Eq.trans (hK1.1 44 rfl) h44
    unfold mb_named_211
    exact mrj_named_212 rc r ihK ih (F0 := F0) (R0 := R0) F1 G1 g_2 g_3 ⟨q_6, (by first | with_reducible rfl | (simp only [h43, q_4, q_5, i_as, fup, Nat.reduceEqDiff, reduceIte, if_false]) | rfl), (hR.trans (by first | with_reducible rfl | (simp only [rh_tail, h43, q_4, q_5, i_as, fup, i_a0, i0m, i10, eq_self, rb_yes, rb_no, ryes, rno, if_true, if_false, f_tt (p := True), reduceIte, Nat.reduceEqDiff]) | rfl))⟩
theorem mrj_named_192 {fu : Nat} {K V : Nat → Int32} (rc : RC) (r : RR) (ihK : mKI1 rc) (ih : mRI1 K V rc r) {F0 : PF} {R0 : OR} (x2 : Int32) (z0 : Int32) (F : PF) (G : PG) (g4 : G 4 = K) (g5 : G 5 = V) (hA : (F 44 = 0 ∧ F 43 = F0 43 ∧ R0 = ryes (F 42))) : PP (mb_named_192 fu rc x2 z0 F G) (fun r' F' _ => ROK R0 F0 r' F') := by
  rcases hA with ⟨h44, h43, hR⟩
  · skip
    unfold mb_named_192
    refine PP.ite (fun c_1 => ?_) (fun c_1 => ?_)
    · skip
      unfold mb_named_197
      exact mrj_named_207 rc r ihK ih (F0 := F0) (R0 := R0) (0 : Int32) z0 F G g4 g5 ⟨h44, (by first | with_reducible rfl | (simp only [h43, i_as, fup, Nat.reduceEqDiff, reduceIte, if_false]) | rfl), (hR.trans (by first | with_reducible rfl | (simp only [rh_tail, h43, i_as, fup, i_a0, i0m, i10, eq_self, rb_yes, rb_no, ryes, rno, if_true, if_false, f_tt (p := True), reduceIte, Nat.reduceEqDiff]) | rfl))⟩
    · skip
      unfold mb_named_201
      refine PP.ix (fun _ => ?_)
      exact mrj_named_207 rc r ihK ih (F0 := F0) (R0 := R0) (G 20 x2.toNatClampNeg) z0 F G g4 g5 ⟨h44, (by first | with_reducible rfl | (simp only [h43, i_as, fup, Nat.reduceEqDiff, reduceIte, if_false]) | rfl), (hR.trans (by first | with_reducible rfl | (simp only [rh_tail, h43, i_as, fup, i_a0, i0m, i10, eq_self, rb_yes, rb_no, ryes, rno, if_true, if_false, f_tt (p := True), reduceIte, Nat.reduceEqDiff]) | rfl))⟩
theorem mrj_named_191 {fu : Nat} {K V : Nat → Int32} (rc : RC) (r : RR) (ihK : mKI1 rc) (ih : mRI1 K V rc r) {F0 : PF} {R0 : OR} (x2 : Int32) (F : PF) (G : PG) (g4 : G 4 = K) (g5 : G 5 = V) (hA : (F 44 = 0 ∧ F 43 = F0 43 ∧ R0 = ryes (F 42))) : PP (mb_named_191 fu rc x2 F G) (fun r' F' _ => ROK R0 F0 r' F') := by
  rcases hA with ⟨h44, h43, hR⟩
  · skip
    unfold mb_named_191
    exact mrj_named_192 rc r ihK ih (F0 := F0) (R0 := R0) x2 (3 : Int32) F G g4 g5 ⟨h44, (by first | with_reducible rfl | (simp only [h43, i_as, fup, Nat.reduceEqDiff, reduceIte, if_false]) | rfl), (hR.trans (by first | with_reducible rfl | (simp only [rh_tail, h43, i_as, fup, i_a0, i0m, i10, eq_self, rb_yes, rb_no, ryes, rno, if_true, if_false, f_tt (p := True), reduceIte, Nat.reduceEqDiff]) | rfl))⟩
theorem mrj_named_172 {fu : Nat} {K V : Nat → Int32} (rc : RC) (r : RR) (ihK : mKI1 rc) (ih : mRI1 K V rc r) {F0 : PF} {R0 : OR} (x2 : Int32) (F : PF) (G : PG) (g4 : G 4 = K) (g5 : G 5 = V) (hA : (F 44 = 0 ∧ F 43 = F0 43 ∧ R0 = ryes (F 42))) : PP (mb_named_172 fu rc x2 F G) (fun r' F' _ => ROK R0 F0 r' F') := by
  rcases hA with ⟨h44, h43, hR⟩
  · skip
    unfold mb_named_172
    refine PP.ite (fun c_1 => ?_) (fun c_1 => ?_)
    · skip
      exact mrj_named_191 rc r ihK ih (F0 := F0) (R0 := R0) x2 F G g4 g5 ⟨h44, (by first | with_reducible rfl | (simp only [h43, i_as, fup, Nat.reduceEqDiff, reduceIte, if_false]) | rfl), (hR.trans (by first | with_reducible rfl | (simp only [rh_tail, h43, i_as, fup, i_a0, i0m, i10, eq_self, rb_yes, rb_no, ryes, rno, if_true, if_false, f_tt (p := True), reduceIte, Nat.reduceEqDiff]) | rfl))⟩
    · skip
      unfold mb_named_178
      refine PP.ix (fun _ => ?_)
      refine PP.ite (fun c_2 => ?_) (fun c_2 => ?_)
      · skip
        exact mrj_named_191 rc r ihK ih (F0 := F0) (R0 := R0) x2 F G g4 g5 ⟨h44, (by first | with_reducible rfl | (simp only [h43, i_as, fup, Nat.reduceEqDiff, reduceIte, if_false]) | rfl), (hR.trans (by first | with_reducible rfl | (simp only [rh_tail, h43, i_as, fup, i_a0, i0m, i10, eq_self, rb_yes, rb_no, ryes, rno, if_true, if_false, f_tt (p := True), reduceIte, Nat.reduceEqDiff]) | rfl))⟩
      · skip
        unfold mb_named_187
        exact mrj_named_192 rc r ihK ih (F0 := F0) (R0 := R0) x2 (1 : Int32) F G g4 g5 ⟨h44, (by first | with_reducible rfl | (simp only [h43, i_as, fup, Nat.reduceEqDiff, reduceIte, if_false]) | rfl), (hR.trans (by first | with_reducible rfl | (simp only [rh_tail, h43, i_as, fup, i_a0, i0m, i10, eq_self, rb_yes, rb_no, ryes, rno, if_true, if_false, f_tt (p := True), reduceIte, Nat.reduceEqDiff]) | rfl))⟩
theorem mrj_named_115 {fu : Nat} {K V : Nat → Int32} (rc : RC) (r : RR) (ihK : mKI1 rc) (ih : mRI1 K V rc r) {F0 : PF} {R0 : OR} (x2 : Int32) (x4 : Int32) (F : PF) (G : PG) (g4 : G 4 = K) (g5 : G 5 = V) (hA : (x4 = 1 ∧ F 44 = 0 ∧ F 43 = F0 43 ∧ R0 = rh_tail K V r (F 42) (F 43) ∧ sgn K V (F 42) (22 : Int32) = false ∧ sgn K V (F 42) (24 : Int32) = true) ∨ (x4 = 0 ∧ F 44 = 0 ∧ F 43 = F0 43 ∧ R0 = rh_tail K V r (F 42) (F 43) ∧ sgn K V (F 42) (22 : Int32) = false ∧ sgn K V (F 42) (24 : Int32) = false)) : PP (mb_named_115 fu rc x2 x4 F G) (fun r' F' _ => ROK R0 F0 r' F') := by
  rcases hA with ⟨rfl, h44, h43, hR, hx0, hx1⟩ | ⟨rfl, h44, h43, hR, hx0, hx1⟩
  · skip
    unfold mb_named_115
    refine PP.ite (fun c_1 => absurd c_1 (by decide)) (fun _ => ?_)
    unfold mb_named_120
    refine PP.bind (PP.and (ihK 3 x2 0 F G) (ih.2.2.2 3 x2 0 F G g4 g5 (show F 44 = 0 from h44) (fun e => absurd e (by decide)))) ?_
    rintro r2 F2 G2 ⟨hK2, (⟨rfl, u2a, u2b, u2⟩ | ⟨rfl, u2a, u2⟩)⟩
    · dsimp only
      have g_3 : G2 4 = K := Eq.trans (hK2.2 4 rfl) g4
      have g_4 : G2 5 = V := Eq.trans (hK2.2 5 rfl) g5
      have h_5 : r 3 (F 42) (F0 43) = some (some (F2 42)) := by
        have q : r 3 (F 42) (F 43) = some (some (F2 42)) := u2
        simp only [h43, i_as] at q; exact q
      have q_6 : F2 43 = (F0 43) := by
        have q := (show F2 43 = (F 43) from u2b)
        simp only [h43, i_as] at q; exact q
      unfold mb_named_125
      refine PP.ite (fun c_7 => absurd c_7 (by decide)) (fun _ => ?_)
      unfold mb_named_130
      refine PP.bind (mw_step (7 : Int32) (0 : Int32) (0 : Int32) F2 G2) ?_
      intro r8 F8 G8 hK8
      dsimp only
      have g_9 : G8 4 = K := Eq.trans (hK8.2 4 rfl) g_3
      have g_10 : G8 5 = V := Eq.trans (hK8.2 5 rfl) g_4
      have q_11 : F8 42 = (F2 42) := hK8.1 42 rfl
      have q_12 : F8 43 = (F0 43) := Eq.trans (hK8.1 43 rfl) (show (F2 43) = (F0 43) by simp only [q_6, i_as])
      have q_13 : F8 44 = 0 := Eq.trans (hK8.1 44 rfl) u2a
      unfold mb_named_138
      exact mrj_named_212 rc r ihK ih (F0 := F0) (R0 := R0) F8 G8 g_9 g_10 ⟨q_13, (by first | with_reducible rfl | (simp only [h43, q_6, q_11, q_12, i_as, fup, Nat.reduceEqDiff, reduceIte, if_false]) | rfl), (hR.trans (by first | with_reducible rfl | (simp only [rh_tail, hx0, hx1, h_5, h43, q_6, q_11, q_12, i_as, fup, i_a0, i0m, i10, eq_self, rb_yes, rb_no, ryes, rno, if_true, if_false, f_tt (p := True), reduceIte, Nat.reduceEqDiff]) | rfl))⟩
    · dsimp only
      have g_14 : G2 4 = K := Eq.trans (hK2.2 4 rfl) g4
      have g_15 : G2 5 = V := Eq.trans (hK2.2 5 rfl) g5
      have h_16 : r 3 (F 42) (F0 43) = some (none) := by
        have q : r 3 (F 42) (F 43) = some (none) := u2
        simp only [h43, i_as] at q; exact q
      unfold mb_named_125
      refine PP.ite (fun _ => ?_) (fun c_17 => absurd (by decide) c_17)
      unfold mb_named_128
      refine PP.ret ?_
      refine Or.inr ⟨rfl, u2a, hR.trans ?_⟩
      first | with_reducible rfl | (simp only [rh_tail, hx0, hx1, h_16, h43, i_as, fup, i_a0, i0m, i10, eq_self, rb_yes, rb_no, ryes, rno, if_true, if_false, f_tt (p := True), reduceIte, Nat.reduceEqDiff]) | rfl
  · skip
    unfold mb_named_115
    refine PP.ite (fun _ => ?_) (fun c_18 => absurd (by decide) c_18)
    unfold mb_named_142
    refine PP.ite (fun c_19 => ?_) (fun c_19 => ?_)
    · skip
      exact mrj_named_172 rc r ihK ih (F0 := F0) (R0 := R0) x2 F G g4 g5 ⟨h44, (by first | with_reducible rfl | (simp only [h43, i_as, fup, Nat.reduceEqDiff, reduceIte, if_false]) | rfl), (hR.trans (by first | with_reducible rfl | (simp only [rh_tail, hx0, hx1, h43, i_as, fup, i_a0, i0m, i10, eq_self, rb_yes, rb_no, ryes, rno, if_true, if_false, f_tt (p := True), reduceIte, Nat.reduceEqDiff]) | rfl))⟩
    · skip
      unfold mb_named_147
      refine PP.ix (fun _ => ?_)
      refine PP.ite (fun c_20 => ?_) (fun c_20 => ?_)
      · skip
        unfold mb_named_156
        refine PP.ix (fun _ => ?_)
        refine PP.bind (mw_step (0 : Int32) (G 20 x2.toNatClampNeg) (0 : Int32) F G) ?_
        intro r21 F21 G21 hK21
        dsimp only
        have g_22 : G21 4 = K := Eq.trans (hK21.2 4 rfl) g4
        have g_23 : G21 5 = V := Eq.trans (hK21.2 5 rfl) g5
        have q_24 : F21 42 = (F 42) := hK21.1 42 rfl
        have q_25 : F21 43 = (F0 43) := Eq.trans (hK21.1 43 rfl) (show (F 43) = (F0 43) by simp only [h43, i_as])
        have q_26 : F21 44 = 0 := Eq.trans (hK21.1 44 rfl) h44
        unfold mb_named_168
        exact mrj_named_212 rc r ihK ih (F0 := F0) (R0 := R0) F21 G21 g_22 g_23 ⟨q_26, (by first | with_reducible rfl | (simp only [h43, q_24, q_25, i_as, fup, Nat.reduceEqDiff, reduceIte, if_false]) | rfl), (hR.trans (by first | with_reducible rfl | (simp only [rh_tail, hx0, hx1, h43, q_24, q_25, i_as, fup, i_a0, i0m, i10, eq_self, rb_yes, rb_no, ryes, rno, if_true, if_false, f_tt (p := True), reduceIte, Nat.reduceEqDiff]) | rfl))⟩
      · skip
        exact mrj_named_172 rc r ihK ih (F0 := F0) (R0 := R0) x2 F G g4 g5 ⟨h44, (by first | with_reducible rfl | (simp only [h43, i_as, fup, Nat.reduceEqDiff, reduceIte, if_false]) | rfl), (hR.trans (by first | with_reducible rfl | (simp only [rh_tail, hx0, hx1, h43, i_as, fup, i_a0, i0m, i10, eq_self, rb_yes, rb_no, ryes, rno, if_true, if_false, f_tt (p := True), reduceIte, Nat.reduceEqDiff]) | rfl))⟩
theorem mrj_named_103 {fu : Nat} {K V : Nat → Int32} (rc : RC) (r : RR) (ihK : mKI1 rc) (ih : mRI1 K V rc r) {F0 : PF} {R0 : OR} (x1 : Int32) (x2 : Int32) (x4 : Int32) (F : PF) (G : PG) (g4 : G 4 = K) (g5 : G 5 = V) (hA : (x4 = 1 ∧ F 44 = 0 ∧ F 43 = F0 43 ∧ R0 = rh_tail K V r (F 42) (F 43) ∧ sgn K V (F 42) (22 : Int32) = false ∧ sgn K V (F 42) (24 : Int32) = true) ∨ (x4 = 0 ∧ F 44 = 0 ∧ F 43 = F0 43 ∧ R0 = rh_tail K V r (F 42) (F 43) ∧ sgn K V (F 42) (22 : Int32) = false ∧ sgn K V (F 42) (24 : Int32) = false)) : PP (mb_named_103 fu rc x1 x2 x4 F G) (fun r' F' _ => ROK R0 F0 r' F') := by
  rcases hA with ⟨rfl, h44, h43, hR, hx0, hx1⟩ | ⟨rfl, h44, h43, hR, hx0, hx1⟩
  · skip
    unfold mb_named_103
    refine PP.ix (fun _ => ?_)
    refine PP.bind (mw_note (6 : Int32) (G 6 x1.toNatClampNeg) F G) ?_
    intro r1 F1 G1 hK1
    dsimp only
    have g_2 : G1 4 = K := Eq.trans (hK1.2 4 rfl) g4
    have g_3 : G1 5 = V := Eq.trans (hK1.2 5 rfl) g5
    have q_4 : F1 42 = (F 42) := hK1.1 42 rfl
    have q_5 : F1 43 = (F0 43) := Eq.trans (hK1.1 43 rfl) (show (F 43) = (F0 43) by simp only [h43, i_as])
    have q_6 : F1 44 = 0 := Eq.trans (hK1.1 44 rfl) h44
    exact mrj_named_115 rc r ihK ih (F0 := F0) (R0 := R0) x2 (1 : Int32) F1 G1 g_2 g_3 (Or.inl ⟨rfl, q_6, (by first | with_reducible rfl | (simp only [h43, q_4, q_5, i_as, fup, Nat.reduceEqDiff, reduceIte, if_false]) | rfl), (hR.trans (by first | with_reducible rfl | (simp only [rh_tail, hx0, hx1, h43, q_4, q_5, i_as, fup, i_a0, i0m, i10, eq_self, rb_yes, rb_no, ryes, rno, if_true, if_false, f_tt (p := True), reduceIte, Nat.reduceEqDiff]) | rfl)), (by first | with_reducible rfl | assumption | (simp only [g_2, g_3, rh_tail, hx0, hx1, h43, q_4, q_5, i_as, fup, i_a0, i0m, i10, eq_self, rb_yes, rb_no, ryes, rno, if_true, if_false, f_tt (p := True), reduceIte, Nat.reduceEqDiff]) | exact sgn_ne (by assumption) (by decide)), (by first | with_reducible rfl | assumption | (simp only [g_2, g_3, rh_tail, hx0, hx1, h43, q_4, q_5, i_as, fup, i_a0, i0m, i10, eq_self, rb_yes, rb_no, ryes, rno, if_true, if_false, f_tt (p := True), reduceIte, Nat.reduceEqDiff]) | exact sgn_ne (by assumption) (by decide))⟩)
  · skip
    unfold mb_named_103
    refine PP.ix (fun _ => ?_)
    refine PP.bind (mw_note (6 : Int32) (G 6 x1.toNatClampNeg) F G) ?_
    intro r7 F7 G7 hK7
    dsimp only
    have g_8 : G7 4 = K := Eq.trans (hK7.2 4 rfl) g4
    have g_9 : G7 5 = V := Eq.trans (hK7.2 5 rfl) g5
    have q_10 : F7 42 = (F 42) := hK7.1 42 rfl
    have q_11 : F7 43 = (F0 43) := Eq.trans (hK7.1 43 rfl) (show (F 43) = (F0 43) by simp only [h43, i_as])
    have q_12 : F7 44 = 0 := Eq.trans (hK7.1 44 rfl) h44
    exact mrj_named_115 rc r ihK ih (F0 := F0) (R0 := R0) x2 (0 : Int32) F7 G7 g_8 g_9 (Or.inr ⟨rfl, q_12, (by first | with_reducible rfl | (simp only [h43, q_10, q_11, i_as, fup, Nat.reduceEqDiff, reduceIte, if_false]) | rfl), (hR.trans (by first | with_reducible rfl | (simp only [rh_tail, hx0, hx1, h43, q_10, q_11, i_as, fup, i_a0, i0m, i10, eq_self, rb_yes, rb_no, ryes, rno, if_true, if_false, f_tt (p := True), reduceIte, Nat.reduceEqDiff]) | rfl)), (by first | with_reducible rfl | assumption | (simp only [g_8, g_9, rh_tail, hx0, hx1, h43, q_10, q_11, i_as, fup, i_a0, i0m, i10, eq_self, rb_yes, rb_no, ryes, rno, if_true, if_false, f_tt (p := True), reduceIte, Nat.reduceEqDiff]) | exact sgn_ne (by assumption) (by decide)), (by first | with_reducible rfl | assumption | (simp only [g_8, g_9, rh_tail, hx0, hx1, h43, q_10, q_11, i_as, fup, i_a0, i0m, i10, eq_self, rb_yes, rb_no, ryes, rno, if_true, if_false, f_tt (p := True), reduceIte, Nat.reduceEqDiff]) | exact sgn_ne (by assumption) (by decide))⟩)
theorem mrj_named_100 {fu : Nat} {K V : Nat → Int32} (rc : RC) (r : RR) (ihK : mKI1 rc) (ih : mRI1 K V rc r) {F0 : PF} {R0 : OR} (x1 : Int32) (x2 : Int32) (x4 : Int32) (z0 : Int32) (z1 : Int32) (F : PF) (G : PG) (g4 : G 4 = K) (g5 : G 5 = V) (hA : (x4 = 1 ∧ F 44 = 0 ∧ F 43 = F0 43 ∧ R0 = rh_tail K V r (F 42) (F 43) ∧ sgn K V (F 42) (22 : Int32) = false ∧ sgn K V (F 42) (24 : Int32) = true) ∨ (x4 = 0 ∧ F 44 = 0 ∧ F 43 = F0 43 ∧ R0 = rh_tail K V r (F 42) (F 43) ∧ sgn K V (F 42) (22 : Int32) = false ∧ sgn K V (F 42) (24 : Int32) = false)) : PP (mb_named_100 fu rc x1 x2 x4 z0 z1 F G) (fun r' F' _ => ROK R0 F0 r' F') := by
  rcases hA with ⟨rfl, h44, h43, hR, hx0, hx1⟩ | ⟨rfl, h44, h43, hR, hx0, hx1⟩
  · skip
    unfold mb_named_100
    refine PP.ite (fun c_1 => ?_) (fun c_1 => ?_)
    · skip
      exact mrj_named_115 rc r ihK ih (F0 := F0) (R0 := R0) x2 (1 : Int32) F G g4 g5 (Or.inl ⟨rfl, h44, (by first | with_reducible rfl | (simp only [h43, i_as, fup, Nat.reduceEqDiff, reduceIte, if_false]) | rfl), (hR.trans (by first | with_reducible rfl | (simp only [rh_tail, hx0, hx1, h43, i_as, fup, i_a0, i0m, i10, eq_self, rb_yes, rb_no, ryes, rno, if_true, if_false, f_tt (p := True), reduceIte, Nat.reduceEqDiff]) | rfl)), (by first | with_reducible rfl | assumption | (simp only [g4, g5, rh_tail, hx0, hx1, h43, i_as, fup, i_a0, i0m, i10, eq_self, rb_yes, rb_no, ryes, rno, if_true, if_false, f_tt (p := True), reduceIte, Nat.reduceEqDiff]) | exact sgn_ne (by assumption) (by decide)), (by first | with_reducible rfl | assumption | (simp only [g4, g5, rh_tail, hx0, hx1, h43, i_as, fup, i_a0, i0m, i10, eq_self, rb_yes, rb_no, ryes, rno, if_true, if_false, f_tt (p := True), reduceIte, Nat.reduceEqDiff]) | exact sgn_ne (by assumption) (by decide))⟩)
    · skip
      exact mrj_named_103 rc r ihK ih (F0 := F0) (R0 := R0) x1 x2 (1 : Int32) F G g4 g5 (Or.inl ⟨rfl, h44, (by first | with_reducible rfl | (simp only [h43, i_as, fup, Nat.reduceEqDiff, reduceIte, if_false]) | rfl), (hR.trans (by first | with_reducible rfl | (simp only [rh_tail, hx0, hx1, h43, i_as, fup, i_a0, i0m, i10, eq_self, rb_yes, rb_no, ryes, rno, if_true, if_false, f_tt (p := True), reduceIte, Nat.reduceEqDiff]) | rfl)), (by first | with_reducible rfl | assumption | (simp only [g4, g5, rh_tail, hx0, hx1, h43, i_as, fup, i_a0, i0m, i10, eq_self, rb_yes, rb_no, ryes, rno, if_true, if_false, f_tt (p := True), reduceIte, Nat.reduceEqDiff]) | exact sgn_ne (by assumption) (by decide)), (by first | with_reducible rfl | assumption | (simp only [g4, g5, rh_tail, hx0, hx1, h43, i_as, fup, i_a0, i0m, i10, eq_self, rb_yes, rb_no, ryes, rno, if_true, if_false, f_tt (p := True), reduceIte, Nat.reduceEqDiff]) | exact sgn_ne (by assumption) (by decide))⟩)
  · skip
    unfold mb_named_100
    refine PP.ite (fun c_2 => ?_) (fun c_2 => ?_)
    · skip
      exact mrj_named_115 rc r ihK ih (F0 := F0) (R0 := R0) x2 (0 : Int32) F G g4 g5 (Or.inr ⟨rfl, h44, (by first | with_reducible rfl | (simp only [h43, i_as, fup, Nat.reduceEqDiff, reduceIte, if_false]) | rfl), (hR.trans (by first | with_reducible rfl | (simp only [rh_tail, hx0, hx1, h43, i_as, fup, i_a0, i0m, i10, eq_self, rb_yes, rb_no, ryes, rno, if_true, if_false, f_tt (p := True), reduceIte, Nat.reduceEqDiff]) | rfl)), (by first | with_reducible rfl | assumption | (simp only [g4, g5, rh_tail, hx0, hx1, h43, i_as, fup, i_a0, i0m, i10, eq_self, rb_yes, rb_no, ryes, rno, if_true, if_false, f_tt (p := True), reduceIte, Nat.reduceEqDiff]) | exact sgn_ne (by assumption) (by decide)), (by first | with_reducible rfl | assumption | (simp only [g4, g5, rh_tail, hx0, hx1, h43, i_as, fup, i_a0, i0m, i10, eq_self, rb_yes, rb_no, ryes, rno, if_true, if_false, f_tt (p := True), reduceIte, Nat.reduceEqDiff]) | exact sgn_ne (by assumption) (by decide))⟩)
    · skip
      exact mrj_named_103 rc r ihK ih (F0 := F0) (R0 := R0) x1 x2 (0 : Int32) F G g4 g5 (Or.inr ⟨rfl, h44, (by first | with_reducible rfl | (simp only [h43, i_as, fup, Nat.reduceEqDiff, reduceIte, if_false]) | rfl), (hR.trans (by first | with_reducible rfl | (simp only [rh_tail, hx0, hx1, h43, i_as, fup, i_a0, i0m, i10, eq_self, rb_yes, rb_no, ryes, rno, if_true, if_false, f_tt (p := True), reduceIte, Nat.reduceEqDiff]) | rfl)), (by first | with_reducible rfl | assumption | (simp only [g4, g5, rh_tail, hx0, hx1, h43, i_as, fup, i_a0, i0m, i10, eq_self, rb_yes, rb_no, ryes, rno, if_true, if_false, f_tt (p := True), reduceIte, Nat.reduceEqDiff]) | exact sgn_ne (by assumption) (by decide)), (by first | with_reducible rfl | assumption | (simp only [g4, g5, rh_tail, hx0, hx1, h43, i_as, fup, i_a0, i0m, i10, eq_self, rb_yes, rb_no, ryes, rno, if_true, if_false, f_tt (p := True), reduceIte, Nat.reduceEqDiff]) | exact sgn_ne (by assumption) (by decide))⟩)
theorem mrj_named_51 {fu : Nat} {K V : Nat → Int32} (rc : RC) (r : RR) (ihK : mKI1 rc) (ih : mRI1 K V rc r) {F0 : PF} {R0 : OR} (x1 : Int32) (x2 : Int32) (z0 : Int32) (F : PF) (G : PG) (g4 : G 4 = K) (g5 : G 5 = V) (hA : (F 44 = 0 ∧ F 43 = F0 43 ∧ R0 = rh_tail K V r (F 42) (F 43) ∧ sgn K V (F 42) (22 : Int32) = false)) : PP (mb_named_51 fu rc x1 x2 z0 F G) (fun r' F' _ => ROK R0 F0 r' F') := by
  rcases hA with ⟨h44, h43, hR, hx0⟩
  · skip
    unfold mb_named_51
    refine PP.bind (mp_isSign (24 : Int32) F G) ?_
    rintro _ _ _ ⟨rfl, rfl, (⟨rfl, u1⟩ | ⟨rfl, u1⟩)⟩
    · dsimp only
      have h_2 : sgn K V (F 42) (24 : Int32) = true := by
        rw [← g4, ← g5]
        have q := u1
        first | exact q | (simp only [h43, i_as] at q; exact q)
      unfold mb_named_58
      refine PP.ite (fun c_3 => ?_) (fun c_3 => ?_)
      · skip
        unfold mb_named_78
        refine PP.ite (fun c_4 => ?_) (fun c_4 => ?_)
        · skip
          exact mrj_named_103 rc r ihK ih (F0 := F0) (R0 := R0) x1 x2 (1 : Int32) F G g4 g5 (Or.inl ⟨rfl, h44, (by first | with_reducible rfl | (simp only [h43, i_as, fup, Nat.reduceEqDiff, reduceIte, if_false]) | rfl), (hR.trans (by first | with_reducible rfl | (simp only [rh_tail, hx0, h_2, h43, i_as, fup, i_a0, i0m, i10, eq_self, rb_yes, rb_no, ryes, rno, if_true, if_false, f_tt (p := True), reduceIte, Nat.reduceEqDiff]) | rfl)), (by first | with_reducible rfl | assumption | (simp only [g4, g5, rh_tail, hx0, h_2, h43, i_as, fup, i_a0, i0m, i10, eq_self, rb_yes, rb_no, ryes, rno, if_true, if_false, f_tt (p := True), reduceIte, Nat.reduceEqDiff]) | exact sgn_ne (by assumption) (by decide)), (by first | with_reducible rfl | assumption | (simp only [g4, g5, rh_tail, hx0, h_2, h43, i_as, fup, i_a0, i0m, i10, eq_self, rb_yes, rb_no, ryes, rno, if_true, if_false, f_tt (p := True), reduceIte, Nat.reduceEqDiff]) | exact sgn_ne (by assumption) (by decide))⟩)
        · skip
          unfold mb_named_83
          refine PP.ix (fun _ => ?_)
          refine PP.ite (fun c_5 => ?_) (fun c_5 => ?_)
          · skip
            unfold mb_named_95
            exact mrj_named_100 rc r ihK ih (F0 := F0) (R0 := R0) x1 x2 (1 : Int32) (1 : Int32) (1 : Int32) F G g4 g5 (Or.inl ⟨rfl, h44, (by first | with_reducible rfl | (simp only [h43, i_as, fup, Nat.reduceEqDiff, reduceIte, if_false]) | rfl), (hR.trans (by first | with_reducible rfl | (simp only [rh_tail, hx0, h_2, h43, i_as, fup, i_a0, i0m, i10, eq_self, rb_yes, rb_no, ryes, rno, if_true, if_false, f_tt (p := True), reduceIte, Nat.reduceEqDiff]) | rfl)), (by first | with_reducible rfl | assumption | (simp only [g4, g5, rh_tail, hx0, h_2, h43, i_as, fup, i_a0, i0m, i10, eq_self, rb_yes, rb_no, ryes, rno, if_true, if_false, f_tt (p := True), reduceIte, Nat.reduceEqDiff]) | exact sgn_ne (by assumption) (by decide)), (by first | with_reducible rfl | assumption | (simp only [g4, g5, rh_tail, hx0, h_2, h43, i_as, fup, i_a0, i0m, i10, eq_self, rb_yes, rb_no, ryes, rno, if_true, if_false, f_tt (p := True), reduceIte, Nat.reduceEqDiff]) | exact sgn_ne (by assumption) (by decide))⟩)
          · skip
            unfold mb_named_99
            exact mrj_named_100 rc r ihK ih (F0 := F0) (R0 := R0) x1 x2 (1 : Int32) (0 : Int32) (1 : Int32) F G g4 g5 (Or.inl ⟨rfl, h44, (by first | with_reducible rfl | (simp only [h43, i_as, fup, Nat.reduceEqDiff, reduceIte, if_false]) | rfl), (hR.trans (by first | with_reducible rfl | (simp only [rh_tail, hx0, h_2, h43, i_as, fup, i_a0, i0m, i10, eq_self, rb_yes, rb_no, ryes, rno, if_true, if_false, f_tt (p := True), reduceIte, Nat.reduceEqDiff]) | rfl)), (by first | with_reducible rfl | assumption | (simp only [g4, g5, rh_tail, hx0, h_2, h43, i_as, fup, i_a0, i0m, i10, eq_self, rb_yes, rb_no, ryes, rno, if_true, if_false, f_tt (p := True), reduceIte, Nat.reduceEqDiff]) | exact sgn_ne (by assumption) (by decide)), (by first | with_reducible rfl | assumption | (simp only [g4, g5, rh_tail, hx0, h_2, h43, i_as, fup, i_a0, i0m, i10, eq_self, rb_yes, rb_no, ryes, rno, if_true, if_false, f_tt (p := True), reduceIte, Nat.reduceEqDiff]) | exact sgn_ne (by assumption) (by decide))⟩)
      · skip
        unfold mb_named_64
        refine PP.ix (fun _ => ?_)
        refine PP.bind (mw_note (4 : Int32) (G 6 x1.toNatClampNeg) F G) ?_
        intro r6 F6 G6 hK6
        dsimp only
        have g_7 : G6 4 = K := Eq.trans (hK6.2 4 rfl) g4
        have g_8 : G6 5 = V := Eq.trans (hK6.2 5 rfl) g5
        have q_9 : F6 42 = (F 42) := hK6.1 42 rfl
        have q_10 : F6 43 = (F0 43) := Eq.trans (hK6.1 43 rfl) (show (F 43) = (F0 43) by simp only [h43, i_as])
        have q_11 : F6 44 = 0 := Eq.trans (hK6.1 44 rfl) h44
        unfold mb_named_75
        exact mrj_named_115 rc r ihK ih (F0 := F0) (R0 := R0) x2 (1 : Int32) F6 G6 g_7 g_8 (Or.inl ⟨rfl, q_11, (by first | with_reducible rfl | (simp only [h43, q_9, q_10, i_as, fup, Nat.reduceEqDiff, reduceIte, if_false]) | rfl), (hR.trans (by first | with_reducible rfl | (simp only [rh_tail, hx0, h_2, h43, q_9, q_10, i_as, fup, i_a0, i0m, i10, eq_self, rb_yes, rb_no, ryes, rno, if_true, if_false, f_tt (p := True), reduceIte, Nat.reduceEqDiff]) | rfl)), (by first | with_reducible rfl | assumption | (simp only [g_7, g_8, rh_tail, hx0, h_2, h43, q_9, q_10, i_as, fup, i_a0, i0m, i10, eq_self, rb_yes, rb_no, ryes, rno, if_true, if_false, f_tt (p := True), reduceIte, Nat.reduceEqDiff]) | exact sgn_ne (by assumption) (by decide)), (by first | with_reducible rfl | assumption | (simp only [g_7, g_8, rh_tail, hx0, h_2, h43, q_9, q_10, i_as, fup, i_a0, i0m, i10, eq_self, rb_yes, rb_no, ryes, rno, if_true, if_false, f_tt (p := True), reduceIte, Nat.reduceEqDiff]) | exact sgn_ne (by assumption) (by decide))⟩)
    · dsimp only
      have h_12 : sgn K V (F 42) (24 : Int32) = false := by
        rw [← g4, ← g5]
        have q := u1
        first | exact q | (simp only [h43, i_as] at q; exact q)
      unfold mb_named_58
      refine PP.ite (fun c_13 => ?_) (fun c_13 => ?_)
      · skip
        unfold mb_named_78
        refine PP.ite (fun c_14 => ?_) (fun c_14 => ?_)
        · skip
          exact mrj_named_103 rc r ihK ih (F0 := F0) (R0 := R0) x1 x2 (0 : Int32) F G g4 g5 (Or.inr ⟨rfl, h44, (by first | with_reducible rfl | (simp only [h43, i_as, fup, Nat.reduceEqDiff, reduceIte, if_false]) | rfl), (hR.trans (by first | with_reducible rfl | (simp only [rh_tail, hx0, h_12, h43, i_as, fup, i_a0, i0m, i10, eq_self, rb_yes, rb_no, ryes, rno, if_true, if_false, f_tt (p := True), reduceIte, Nat.reduceEqDiff]) | rfl)), (by first | with_reducible rfl | assumption | (simp only [g4, g5, rh_tail, hx0, h_12, h43, i_as, fup, i_a0, i0m, i10, eq_self, rb_yes, rb_no, ryes, rno, if_true, if_false, f_tt (p := True), reduceIte, Nat.reduceEqDiff]) | exact sgn_ne (by assumption) (by decide)), (by first | with_reducible rfl | assumption | (simp only [g4, g5, rh_tail, hx0, h_12, h43, i_as, fup, i_a0, i0m, i10, eq_self, rb_yes, rb_no, ryes, rno, if_true, if_false, f_tt (p := True), reduceIte, Nat.reduceEqDiff]) | exact sgn_ne (by assumption) (by decide))⟩)
        · skip
          unfold mb_named_83
          refine PP.ix (fun _ => ?_)
          refine PP.ite (fun c_15 => ?_) (fun c_15 => ?_)
          · skip
            unfold mb_named_95
            exact mrj_named_100 rc r ihK ih (F0 := F0) (R0 := R0) x1 x2 (0 : Int32) (1 : Int32) (0 : Int32) F G g4 g5 (Or.inr ⟨rfl, h44, (by first | with_reducible rfl | (simp only [h43, i_as, fup, Nat.reduceEqDiff, reduceIte, if_false]) | rfl), (hR.trans (by first | with_reducible rfl | (simp only [rh_tail, hx0, h_12, h43, i_as, fup, i_a0, i0m, i10, eq_self, rb_yes, rb_no, ryes, rno, if_true, if_false, f_tt (p := True), reduceIte, Nat.reduceEqDiff]) | rfl)), (by first | with_reducible rfl | assumption | (simp only [g4, g5, rh_tail, hx0, h_12, h43, i_as, fup, i_a0, i0m, i10, eq_self, rb_yes, rb_no, ryes, rno, if_true, if_false, f_tt (p := True), reduceIte, Nat.reduceEqDiff]) | exact sgn_ne (by assumption) (by decide)), (by first | with_reducible rfl | assumption | (simp only [g4, g5, rh_tail, hx0, h_12, h43, i_as, fup, i_a0, i0m, i10, eq_self, rb_yes, rb_no, ryes, rno, if_true, if_false, f_tt (p := True), reduceIte, Nat.reduceEqDiff]) | exact sgn_ne (by assumption) (by decide))⟩)
          · skip
            unfold mb_named_99
            exact mrj_named_100 rc r ihK ih (F0 := F0) (R0 := R0) x1 x2 (0 : Int32) (0 : Int32) (0 : Int32) F G g4 g5 (Or.inr ⟨rfl, h44, (by first | with_reducible rfl | (simp only [h43, i_as, fup, Nat.reduceEqDiff, reduceIte, if_false]) | rfl), (hR.trans (by first | with_reducible rfl | (simp only [rh_tail, hx0, h_12, h43, i_as, fup, i_a0, i0m, i10, eq_self, rb_yes, rb_no, ryes, rno, if_true, if_false, f_tt (p := True), reduceIte, Nat.reduceEqDiff]) | rfl)), (by first | with_reducible rfl | assumption | (simp only [g4, g5, rh_tail, hx0, h_12, h43, i_as, fup, i_a0, i0m, i10, eq_self, rb_yes, rb_no, ryes, rno, if_true, if_false, f_tt (p := True), reduceIte, Nat.reduceEqDiff]) | exact sgn_ne (by assumption) (by decide)), (by first | with_reducible rfl | assumption | (simp only [g4, g5, rh_tail, hx0, h_12, h43, i_as, fup, i_a0, i0m, i10, eq_self, rb_yes, rb_no, ryes, rno, if_true, if_false, f_tt (p := True), reduceIte, Nat.reduceEqDiff]) | exact sgn_ne (by assumption) (by decide))⟩)
      · skip
        unfold mb_named_64
        refine PP.ix (fun _ => ?_)
        refine PP.bind (mw_note (4 : Int32) (G 6 x1.toNatClampNeg) F G) ?_
        intro r16 F16 G16 hK16
        dsimp only
        have g_17 : G16 4 = K := Eq.trans (hK16.2 4 rfl) g4
        have g_18 : G16 5 = V := Eq.trans (hK16.2 5 rfl) g5
        have q_19 : F16 42 = (F 42) := hK16.1 42 rfl
        have q_20 : F16 43 = (F0 43) := Eq.trans (hK16.1 43 rfl) (show (F 43) = (F0 43) by simp only [h43, i_as])
        have q_21 : F16 44 = 0 := Eq.trans (hK16.1 44 rfl) h44
        unfold mb_named_75
        exact mrj_named_115 rc r ihK ih (F0 := F0) (R0 := R0) x2 (0 : Int32) F16 G16 g_17 g_18 (Or.inr ⟨rfl, q_21, (by first | with_reducible rfl | (simp only [h43, q_19, q_20, i_as, fup, Nat.reduceEqDiff, reduceIte, if_false]) | rfl), (hR.trans (by first | with_reducible rfl | (simp only [rh_tail, hx0, h_12, h43, q_19, q_20, i_as, fup, i_a0, i0m, i10, eq_self, rb_yes, rb_no, ryes, rno, if_true, if_false, f_tt (p := True), reduceIte, Nat.reduceEqDiff]) | rfl)), (by first | with_reducible rfl | assumption | (simp only [g_17, g_18, rh_tail, hx0, h_12, h43, q_19, q_20, i_as, fup, i_a0, i0m, i10, eq_self, rb_yes, rb_no, ryes, rno, if_true, if_false, f_tt (p := True), reduceIte, Nat.reduceEqDiff]) | exact sgn_ne (by assumption) (by decide)), (by first | with_reducible rfl | assumption | (simp only [g_17, g_18, rh_tail, hx0, h_12, h43, q_19, q_20, i_as, fup, i_a0, i0m, i10, eq_self, rb_yes, rb_no, ryes, rno, if_true, if_false, f_tt (p := True), reduceIte, Nat.reduceEqDiff]) | exact sgn_ne (by assumption) (by decide))⟩)
theorem mrj_named_50 {fu : Nat} {K V : Nat → Int32} (rc : RC) (r : RR) (ihK : mKI1 rc) (ih : mRI1 K V rc r) {F0 : PF} {R0 : OR} (x1 : Int32) (x2 : Int32) (F : PF) (G : PG) (g4 : G 4 = K) (g5 : G 5 = V) (hA : (F 44 = 0 ∧ F 43 = F0 43 ∧ R0 = rh_tail K V r (F 42) (F 43) ∧ sgn K V (F 42) (22 : Int32) = false)) : PP (mb_named_50 fu rc x1 x2 F G) (fun r' F' _ => ROK R0 F0 r' F') := by
  rcases hA with ⟨h44, h43, hR, hx0⟩
  · skip
    unfold mb_named_50
    exact mrj_named_51 rc r ihK ih (F0 := F0) (R0 := R0) x1 x2 (0 : Int32) F G g4 g5 ⟨h44, (by first | with_reducible rfl | (simp only [h43, i_as, fup, Nat.reduceEqDiff, reduceIte, if_false]) | rfl), (hR.trans (by first | with_reducible rfl | (simp only [rh_tail, hx0, h43, i_as, fup, i_a0, i0m, i10, eq_self, rb_yes, rb_no, ryes, rno, if_true, if_false, f_tt (p := True), reduceIte, Nat.reduceEqDiff]) | rfl)), (by first | with_reducible rfl | assumption | (simp only [g4, g5, rh_tail, hx0, h43, i_as, fup, i_a0, i0m, i10, eq_self, rb_yes, rb_no, ryes, rno, if_true, if_false, f_tt (p := True), reduceIte, Nat.reduceEqDiff]) | exact sgn_ne (by assumption) (by decide))⟩
theorem mrj_named_32 {fu : Nat} {K V : Nat → Int32} (rc : RC) (r : RR) (ihK : mKI1 rc) (ih : mRI1 K V rc r) {F0 : PF} {R0 : OR} (x1 : Int32) (z0 : Int32) (F : PF) (G : PG) (g4 : G 4 = K) (g5 : G 5 = V) (hA : (F 44 = 0 ∧ F 43 = F0 43 ∧ R0 = rh_tail K V r (F 42) (F 43) ∧ sgn K V (F 42) (22 : Int32) = false)) : PP (mb_named_32 fu rc x1 z0 F G) (fun r' F' _ => ROK R0 F0 r' F') := by
  rcases hA with ⟨h44, h43, hR, hx0⟩
  · skip
    unfold mb_named_32
    refine PP.ite (fun c_1 => ?_) (fun c_1 => ?_)
    · skip
      unfold mb_named_38
      refine PP.ite (fun c_2 => ?_) (fun c_2 => ?_)
      · skip
        unfold mb_named_46
        exact mrj_named_51 rc r ihK ih (F0 := F0) (R0 := R0) x1 z0 (1 : Int32) F G g4 g5 ⟨h44, (by first | with_reducible rfl | (simp only [h43, i_as, fup, Nat.reduceEqDiff, reduceIte, if_false]) | rfl), (hR.trans (by first | with_reducible rfl | (simp only [rh_tail, hx0, h43, i_as, fup, i_a0, i0m, i10, eq_self, rb_yes, rb_no, ryes, rno, if_true, if_false, f_tt (p := True), reduceIte, Nat.reduceEqDiff]) | rfl)), (by first | with_reducible rfl | assumption | (simp only [g4, g5, rh_tail, hx0, h43, i_as, fup, i_a0, i0m, i10, eq_self, rb_yes, rb_no, ryes, rno, if_true, if_false, f_tt (p := True), reduceIte, Nat.reduceEqDiff]) | exact sgn_ne (by assumption) (by decide))⟩
      · skip
        exact mrj_named_50 rc r ihK ih (F0 := F0) (R0 := R0) x1 z0 F G g4 g5 ⟨h44, (by first | with_reducible rfl | (simp only [h43, i_as, fup, Nat.reduceEqDiff, reduceIte, if_false]) | rfl), (hR.trans (by first | with_reducible rfl | (simp only [rh_tail, hx0, h43, i_as, fup, i_a0, i0m, i10, eq_self, rb_yes, rb_no, ryes, rno, if_true, if_false, f_tt (p := True), reduceIte, Nat.reduceEqDiff]) | rfl)), (by first | with_reducible rfl | assumption | (simp only [g4, g5, rh_tail, hx0, h43, i_as, fup, i_a0, i0m, i10, eq_self, rb_yes, rb_no, ryes, rno, if_true, if_false, f_tt (p := True), reduceIte, Nat.reduceEqDiff]) | exact sgn_ne (by assumption) (by decide))⟩
    · skip
      exact mrj_named_50 rc r ihK ih (F0 := F0) (R0 := R0) x1 z0 F G g4 g5 ⟨h44, (by first | with_reducible rfl | (simp only [h43, i_as, fup, Nat.reduceEqDiff, reduceIte, if_false]) | rfl), (hR.trans (by first | with_reducible rfl | (simp only [rh_tail, hx0, h43, i_as, fup, i_a0, i0m, i10, eq_self, rb_yes, rb_no, ryes, rno, if_true, if_false, f_tt (p := True), reduceIte, Nat.reduceEqDiff]) | rfl)), (by first | with_reducible rfl | assumption | (simp only [g4, g5, rh_tail, hx0, h43, i_as, fup, i_a0, i0m, i10, eq_self, rb_yes, rb_no, ryes, rno, if_true, if_false, f_tt (p := True), reduceIte, Nat.reduceEqDiff]) | exact sgn_ne (by assumption) (by decide))⟩
theorem mrt_named {fu : Nat} {K V : Nat → Int32} (rc : RC) (r : RR) (ihK : mKI1 rc) (ih : mRI1 K V rc r) (x1 : Int32) (F : PF) (G : PG) (g4 : G 4 = K) (g5 : G 5 = V) (h44 : F 44 = 0) : PP (mh_named fu rc x1 F G) (fun r' F' _ => ROK (rh_tail K V r (F 42) (F 43)) F r' F') := by
  unfold mh_named
  unfold mb_named_0
  refine PP.bind (mp_isSign (22 : Int32) F G) ?_
  rintro _ _ _ ⟨rfl, rfl, (⟨rfl, u1⟩ | ⟨rfl, u1⟩)⟩
  · dsimp only
    have h_2 : sgn K V (F 42) (22 : Int32) = true := by
      rw [← g4, ← g5]
      have q := u1
      first | exact q | (simp only [i_as] at q; exact q)
    unfold mb_named_6
    refine PP.ite (fun c_3 => absurd c_3 (by decide)) (fun _ => ?_)
    unfold mb_named_9
    refine PP.bind (PP.and (ihK 1 x1 (1 : Int32) F G) (ih.2.2.2 1 x1 (1 : Int32) F G g4 g5 (show F 44 = 0 from h44) (fun e => absurd e (by decide)))) ?_
    rintro r4 F4 G4 ⟨hK4, (⟨rfl, u4a, u4b, u4⟩ | ⟨rfl, u4a, u4⟩)⟩
    · dsimp only
      have g_5 : G4 4 = K := Eq.trans (hK4.2 4 rfl) g4
      have g_6 : G4 5 = V := Eq.trans (hK4.2 5 rfl) g5
      have h_7 : r 1 (F 42) (F 43) = some (some (F4 42)) := u4
      have q_8 : F4 43 = (F 43) := (show F4 43 = (F 43) from u4b)
      unfold mb_named_15
      refine PP.ret ?_
      refine Or.inl ⟨rfl, u4a, ?_, (rfl : (rh_tail K V r (F 42) (F 43)) = _).trans ?_⟩
      · show (F4 43) = F 43
        first | with_reducible rfl | (simp only [q_8, i_as, fup, Nat.reduceEqDiff, reduceIte, if_false]) | rfl
      · show _ = some (some (F4 42))
        first | with_reducible rfl | (simp only [rh_tail, h_2, h_7, q_8, i_as, fup, i_a0, i0m, i10, eq_self, rb_yes, rb_no, ryes, rno, if_true, if_false, f_tt (p := True), reduceIte, Nat.reduceEqDiff]) | rfl
    · dsimp only
      have g_9 : G4 4 = K := Eq.trans (hK4.2 4 rfl) g4
      have g_10 : G4 5 = V := Eq.trans (hK4.2 5 rfl) g5
      have h_11 : r 1 (F 42) (F 43) = some (none) := u4
      unfold mb_named_15
      refine PP.ret ?_
      refine Or.inr ⟨rfl, u4a, (rfl : (rh_tail K V r (F 42) (F 43)) = _).trans ?_⟩
      first | with_reducible rfl | (simp only [rh_tail, h_2, h_11, i_as, fup, i_a0, i0m, i10, eq_self, rb_yes, rb_no, ryes, rno, if_true, if_false, f_tt (p := True), reduceIte, Nat.reduceEqDiff]) | rfl
  · dsimp only
    have h_12 : sgn K V (F 42) (22 : Int32) = false := by
      rw [← g4, ← g5]
      have q := u1
      first | exact q | (simp only [i_as] at q; exact q)
    unfold mb_named_6
    refine PP.ite (fun _ => ?_) (fun c_13 => absurd (by decide) c_13)
    unfold mb_named_16
    refine PP.ite (fun c_14 => ?_) (fun c_14 => ?_)
    · skip
      unfold mb_named_23
      exact mrj_named_32 rc r ihK ih (F0 := F) (R0 := (rh_tail K V r (F 42) (F 43))) x1 (-1 : Int32) F G g4 g5 ⟨h44, (by first | with_reducible rfl | (simp only [i_as, fup, Nat.reduceEqDiff, reduceIte, if_false]) | rfl), ((rfl : (rh_tail K V r (F 42) (F 43)) = _).trans (by first | with_reducible rfl | (simp only [rh_tail, h_12, i_as, fup, i_a0, i0m, i10, eq_self, rb_yes, rb_no, ryes, rno, if_true, if_false, f_tt (p := True), reduceIte, Nat.reduceEqDiff]) | rfl)), (by first | with_reducible rfl | assumption | (simp only [g4, g5, rh_tail, h_12, i_as, fup, i_a0, i0m, i10, eq_self, rb_yes, rb_no, ryes, rno, if_true, if_false, f_tt (p := True), reduceIte, Nat.reduceEqDiff]) | exact sgn_ne (by assumption) (by decide))⟩
    · skip
      unfold mb_named_27
      refine PP.bind (mw_meaning x1 F G) ?_
      intro r15 F15 G15 hK15
      dsimp only
      have g_16 : G15 4 = K := Eq.trans (hK15.2 4 rfl) g4
      have g_17 : G15 5 = V := Eq.trans (hK15.2 5 rfl) g5
      have q_18 : F15 42 = (F 42) := hK15.1 42 rfl
      have q_19 : F15 43 = (F 43) := hK15.1 43 rfl
      have q_20 : F15 44 = 0 := Eq.trans (hK15.1 44 rfl) h44
      exact mrj_named_32 rc r ihK ih (F0 := F) (R0 := (rh_tail K V r (F 42) (F 43))) x1 r15 F15 G15 g_16 g_17 ⟨q_20, (by first | with_reducible rfl | (simp only [q_18, q_19, i_as, fup, Nat.reduceEqDiff, reduceIte, if_false]) | rfl), ((rfl : (rh_tail K V r (F 42) (F 43)) = _).trans (by first | with_reducible rfl | (simp only [rh_tail, h_12, q_18, q_19, i_as, fup, i_a0, i0m, i10, eq_self, rb_yes, rb_no, ryes, rno, if_true, if_false, f_tt (p := True), reduceIte, Nat.reduceEqDiff]) | rfl)), (by first | with_reducible rfl | assumption | (simp only [g_16, g_17, rh_tail, h_12, q_18, q_19, i_as, fup, i_a0, i0m, i10, eq_self, rb_yes, rb_no, ryes, rno, if_true, if_false, f_tt (p := True), reduceIte, Nat.reduceEqDiff]) | exact sgn_ne (by assumption) (by decide))⟩
theorem mrz_operand_63 {fu : Nat} {K V : Nat → Int32} (rc : RC) (r : RR) (ihK : mKI1 rc) (ih : mRI1 K V rc r) {F0 : PF} {R0 : OR} : ∀ (n : Nat) (x1 : Int32) (x3 : Int32) (F : PF) (G : PG) (g4 : G 4 = K) (g5 : G 5 = V) (hA : (F 44 = 0 ∧ F 43 = F0 43 ∧ R0 = ryes (F 42))), PP (ml_operand_63 fu rc n x1 x3 F G) (fun r' F' _ => ROK R0 F0 r' F') := by
  intro n
  induction n with
  | zero =>
    intro x1 x3 F G g4 g5 hA
    exact PP.no
  | succ n ihn =>
    intro x1 x3 F G g4 g5 hA
    show PP (mb_operand_63 fu rc (ml_operand_63 fu rc n) x1 x3 F G) _
    rcases hA with ⟨h44, h43, hR⟩
    · skip
      unfold mb_operand_63
      refine PP.ite (fun c_1 => ?_) (fun c_1 => ?_)
      · skip
        unfold mb_operand_88
        refine PP.ret ?_
        refine Or.inl ⟨rfl, h44, ?_, hR.trans ?_⟩
        · show (F 43) = F0 43
          first | with_reducible rfl | (simp only [h43, i_as, fup, Nat.reduceEqDiff, reduceIte, if_false]) | rfl
        · show _ = some (some (F 42))
          first | with_reducible rfl | (simp only [rh_operand, rl_un, h43, i_as, fup, i_a0, i0m, i10, eq_self, rb_yes, rb_no, ryes, rno, if_true, if_false, f_tt (p := True), reduceIte, Nat.reduceEqDiff]) | rfl
      · skip
        unfold mb_operand_68
        refine PP.ix (fun _ => ?_)
        refine PP.bind (mw_step (11 : Int32) (G 5 x3.toNatClampNeg) (0 : Int32) F G) ?_
        intro r2 F2 G2 hK2
        dsimp only
        have g_3 : G2 4 = K := Eq.trans (hK2.2 4 rfl) g4
        have g_4 : G2 5 = V := Eq.trans (hK2.2 5 rfl) g5
        have q_5 : F2 42 = (F 42) := hK2.1 42 rfl
        have q_6 : F2 43 = (F0 43) := Eq.trans (hK2.1 43 rfl) (show (F 43) = (F0 43) by simp only [h43, i_as])
        have q_7 : F2 44 = 0 := Eq.trans (hK2.1 44 rfl) h44
        unfold mb_operand_81
        exact ihn x1 (x3 + (-1 : Int32)) F2 G2 g_3 g_4 ⟨q_7, (by first | with_reducible rfl | (simp only [h43, q_5, q_6, i_as, fup, Nat.reduceEqDiff, reduceIte, if_false]) | rfl), (hR.trans (by first | with_reducible rfl | (simp only [rh_operand, rl_un, h43, q_5, q_6, i_as, fup, i_a0, i0m, i10, eq_self, rb_yes, rb_no, ryes, rno, if_true, if_false, f_tt (p := True), reduceIte, Nat.reduceEqDiff]) | rfl))⟩
theorem mrz_operand_5 {fu : Nat} {K V : Nat → Int32} (rc : RC) (r : RR) (ihK : mKI1 rc) (ih : mRI1 K V rc r) {F0 : PF} {R0 : OR} : ∀ (n : Nat) (x1 : Int32) (F : PF) (G : PG) (g4 : G 4 = K) (g5 : G 5 = V) (hA : (F 44 = 0 ∧ F 43 = F0 43 ∧ R0 = rl_un K V r (F 43) n (F 42))), PP (ml_operand_5 fu rc n x1 F G) (fun r' F' _ => ROK R0 F0 r' F') := by
  intro n
  induction n with
  | zero =>
    intro x1 F G g4 g5 hA
    exact PP.no
  | succ n ihn =>
    intro x1 F G g4 g5 hA
    show PP (mb_operand_5 fu rc (ml_operand_5 fu rc n) x1 F G) _
    rcases hA with ⟨h44, h43, hR⟩
    · skip
      unfold mb_operand_5
      refine PP.bind (mp_isSign (39 : Int32) F G) ?_
      rintro _ _ _ ⟨rfl, rfl, (⟨rfl, u1⟩ | ⟨rfl, u1⟩)⟩
      · dsimp only
        have h_2 : sgn K V (F 42) (39 : Int32) = true := by
          rw [← g4, ← g5]
          have q := u1
          first | exact q | (simp only [h43, i_as] at q; exact q)
        unfold mb_operand_11
        refine PP.ite (fun c_3 => absurd c_3 (by decide)) (fun _ => ?_)
        unfold mb_operand_32
        unfold mb_operand_42
        exact ihn x1 (fup F 42 ((F 42) + (1 : Int32))) G g4 g5 ⟨h44, (by first | with_reducible rfl | (simp only [h43, i_as, fup, Nat.reduceEqDiff, reduceIte, if_false]) | rfl), (hR.trans (by first | with_reducible rfl | (simp only [rh_operand, rl_un, h_2, h43, i_as, fup, i_a0, i0m, i10, eq_self, rb_yes, rb_no, ryes, rno, if_true, if_false, f_tt (p := True), reduceIte, Nat.reduceEqDiff]) | rfl))⟩
      · dsimp only
        have h_4 : sgn K V (F 42) (39 : Int32) = false := by
          rw [← g4, ← g5]
          have q := u1
          first | exact q | (simp only [h43, i_as] at q; exact q)
        unfold mb_operand_11
        refine PP.ite (fun _ => ?_) (fun c_5 => absurd (by decide) c_5)
        unfold mb_operand_14
        refine PP.bind (mp_isSign (43 : Int32) F G) ?_
        rintro _ _ _ ⟨rfl, rfl, (⟨rfl, u6⟩ | ⟨rfl, u6⟩)⟩
        · dsimp only
          have h_7 : sgn K V (F 42) (43 : Int32) = true := by
            rw [← g4, ← g5]
            have q := u6
            first | exact q | (simp only [h43, i_as] at q; exact q)
          unfold mb_operand_20
          refine PP.ite (fun c_8 => absurd c_8 (by decide)) (fun _ => ?_)
          unfold mb_operand_32
          unfold mb_operand_42
          exact ihn x1 (fup F 42 ((F 42) + (1 : Int32))) G g4 g5 ⟨h44, (by first | with_reducible rfl | (simp only [h43, i_as, fup, Nat.reduceEqDiff, reduceIte, if_false]) | rfl), (hR.trans (by first | with_reducible rfl | (simp only [rh_operand, rl_un, h_4, h_7, h43, i_as, fup, i_a0, i0m, i10, eq_self, rb_yes, rb_no, ryes, rno, if_true, if_false, f_tt (p := True), reduceIte, Nat.reduceEqDiff]) | rfl))⟩
        · dsimp only
          have h_9 : sgn K V (F 42) (43 : Int32) = false := by
            rw [← g4, ← g5]
            have q := u6
            first | exact q | (simp only [h43, i_as] at q; exact q)
          unfold mb_operand_20
          refine PP.ite (fun _ => ?_) (fun c_10 => absurd (by decide) c_10)
          unfold mb_operand_23
          refine PP.bind (mp_isSign (44 : Int32) F G) ?_
          rintro _ _ _ ⟨rfl, rfl, (⟨rfl, u11⟩ | ⟨rfl, u11⟩)⟩
          · dsimp only
            have h_12 : sgn K V (F 42) (44 : Int32) = true := by
              rw [← g4, ← g5]
              have q := u11
              first | exact q | (simp only [h43, i_as] at q; exact q)
            unfold mb_operand_29
            refine PP.ite (fun c_13 => absurd c_13 (by decide)) (fun _ => ?_)
            unfold mb_operand_32
            unfold mb_operand_42
            exact ihn x1 (fup F 42 ((F 42) + (1 : Int32))) G g4 g5 ⟨h44, (by first | with_reducible rfl | (simp only [h43, i_as, fup, Nat.reduceEqDiff, reduceIte, if_false]) | rfl), (hR.trans (by first | with_reducible rfl | (simp only [rh_operand, rl_un, h_4, h_9, h_12, h43, i_as, fup, i_a0, i0m, i10, eq_self, rb_yes, rb_no, ryes, rno, if_true, if_false, f_tt (p := True), reduceIte, Nat.reduceEqDiff]) | rfl))⟩
          · dsimp only
            have h_14 : sgn K V (F 42) (44 : Int32) = false := by
              rw [← g4, ← g5]
              have q := u11
              first | exact q | (simp only [h43, i_as] at q; exact q)
            unfold mb_operand_29
            refine PP.ite (fun _ => ?_) (fun c_15 => absurd (by decide) c_15)
            unfold mb_operand_45
            refine PP.bind (PP.and (ihK 8 0 0 F G) (ih.2.2.2 8 0 0 F G g4 g5 (show F 44 = 0 from h44) (fun e => absurd e (by decide)))) ?_
            rintro r16 F16 G16 ⟨hK16, (⟨rfl, u16a, u16b, u16⟩ | ⟨rfl, u16a, u16⟩)⟩
            · dsimp only
              have g_17 : G16 4 = K := Eq.trans (hK16.2 4 rfl) g4
              have g_18 : G16 5 = V := Eq.trans (hK16.2 5 rfl) g5
              have h_19 : r 8 (F 42) (F0 43) = some (some (F16 42)) := by
                have q : r 8 (F 42) (F 43) = some (some (F16 42)) := u16
                simp only [h43, i_as] at q; exact q
              have q_20 : F16 43 = (F0 43) := by
                have q := (show F16 43 = (F 43) from u16b)
                simp only [h43, i_as] at q; exact q
              unfold mb_operand_54
              refine PP.ite (fun c_21 => absurd c_21 (by decide)) (fun _ => ?_)
              unfold mb_operand_59
              exact mrz_operand_63 rc r ihK ih (F0 := F0) (R0 := R0) fu x1 ((F 42) - (1 : Int32)) F16 G16 g_17 g_18 ⟨u16a, (by first | with_reducible rfl | (simp only [h43, q_20, i_as, fup, Nat.reduceEqDiff, reduceIte, if_false]) | rfl), (hR.trans (by first | with_reducible rfl | (simp only [rh_operand, rl_un, h_4, h_9, h_14, h_19, h43, q_20, i_as, fup, i_a0, i0m, i10, eq_self, rb_yes, rb_no, ryes, rno, if_true, if_false, f_tt (p := True), reduceIte, Nat.reduceEqDiff]) | rfl))⟩
            · dsimp only
              have g_22 : G16 4 = K := Eq.trans (hK16.2 4 rfl) g4
              have g_23 : G16 5 = V := Eq.trans (hK16.2 5 rfl) g5
              have h_24 : r 8 (F 42) (F0 43) = some (none) := by
                have q : r 8 (F 42) (F 43) = some (none) := u16
                simp only [h43, i_as] at q; exact q
              unfold mb_operand_54
              refine PP.ite (fun _ => ?_) (fun c_25 => absurd (by decide) c_25)
              unfold mb_operand_57
              refine PP.ret ?_
              refine Or.inr ⟨rfl, u16a, hR.trans ?_⟩
              first | with_reducible rfl | (simp only [rh_operand, rl_un, h_4, h_9, h_14, h_24, h43, i_as, fup, i_a0, i0m, i10, eq_self, rb_yes, rb_no, ryes, rno, if_true, if_false, f_tt (p := True), reduceIte, Nat.reduceEqDiff]) | rfl
theorem mrt_operand {fu : Nat} {K V : Nat → Int32} (rc : RC) (r : RR) (ihK : mKI1 rc) (ih : mRI1 K V rc r) (F : PF) (G : PG) (g4 : G 4 = K) (g5 : G 5 = V) (h44 : F 44 = 0) : PP (mh_operand fu rc F G) (fun r' F' _ => ROK (rh_operand K V fu r (F 42) (F 43)) F r' F') := by
  unfold mh_operand
  unfold mb_operand_0
  exact mrz_operand_5 rc r ihK ih (F0 := F) (R0 := (rh_operand K V fu r (F 42) (F 43))) fu (F 42) F G g4 g5 ⟨h44, (by first | with_reducible rfl | (simp only [i_as, fup, Nat.reduceEqDiff, reduceIte, if_false]) | rfl), ((rfl : (rh_operand K V fu r (F 42) (F 43)) = _).trans (by first | with_reducible rfl | (simp only [rh_operand, rl_un, i_as, fup, i_a0, i0m, i10, eq_self, rb_yes, rb_no, ryes, rno, if_true, if_false, f_tt (p := True), reduceIte, Nat.reduceEqDiff]) | rfl))⟩
theorem mrt_plain {fu : Nat} {K V : Nat → Int32} (rc : RC) (r : RR) (ihK : mKI1 rc) (ih : mRI1 K V rc r) (F : PF) (G : PG) (g4 : G 4 = K) (g5 : G 5 = V) (h44 : F 44 = 0) : PP (mh_plain fu rc F G) (fun r' F' _ => ROK (rh_plain K V r (F 42) (F 43)) F r' F') := by
  unfold mh_plain
  unfold mb_plain_0
  refine PP.ix (fun _ => ?_)
  refine PP.ite (fun c_1 => ?_) (fun c_1 => ?_)
  · skip
    have h_2 : K (F 42).toNatClampNeg = (3 : Int32) := by
      rw [← g4]
      have q := c_1
      first | exact q | (simp only [i_as] at q; exact q)
    have h_3 := eq_true h_2
    unfold mb_plain_13
    refine PP.ix (fun _ => ?_)
    refine PP.bind (mw_step (0 : Int32) (G 5 (F 42).toNatClampNeg) (0 : Int32) F G) ?_
    intro r4 F4 G4 hK4
    dsimp only
    have g_5 : G4 4 = K := Eq.trans (hK4.2 4 rfl) g4
    have g_6 : G4 5 = V := Eq.trans (hK4.2 5 rfl) g5
    have q_7 : F4 42 = (F 42) := hK4.1 42 rfl
    have q_8 : F4 43 = (F 43) := hK4.1 43 rfl
    have q_9 : F4 44 = 0 := Eq.trans (hK4.1 44 rfl) h44
    unfold mb_plain_28
    unfold mb_plain_39
    refine PP.ret ?_
    refine Or.inl ⟨rfl, q_9, ?_, (rfl : (rh_plain K V r (F 42) (F 43)) = _).trans ?_⟩
    · show (F4 43) = F 43
      first | with_reducible rfl | (simp only [q_7, q_8, i_as, fup, Nat.reduceEqDiff, reduceIte, if_false]) | rfl
    · show _ = some (some ((F4 42) + (1 : Int32)))
      first | with_reducible rfl | (simp only [rh_plain, rclose, h_3, q_7, q_8, i_as, fup, i_a0, i0m, i10, eq_self, rb_yes, rb_no, ryes, rno, if_true, if_false, f_tt (p := True), reduceIte, Nat.reduceEqDiff]) | rfl
  · skip
    have h_10 : ¬ K (F 42).toNatClampNeg = (3 : Int32) := by
      rw [← g4]
      have q := c_1
      first | exact q | (simp only [i_as] at q; exact q)
    unfold mb_plain_41
    refine PP.bind (mp_isSign (22 : Int32) F G) ?_
    rintro _ _ _ ⟨rfl, rfl, (⟨rfl, u11⟩ | ⟨rfl, u11⟩)⟩
    · dsimp only
      have h_12 : sgn K V (F 42) (22 : Int32) = true := by
        rw [← g4, ← g5]
        have q := u11
        first | exact q | (simp only [i_as] at q; exact q)
      unfold mb_plain_47
      refine PP.ite (fun c_13 => absurd c_13 (by decide)) (fun _ => ?_)
      unfold mb_plain_50
      refine PP.bind (mp_opens F G) ?_
      rintro r14 F14 G14 (⟨rfl, rfl, rfl, u14⟩ | ⟨rfl, u14, u14b⟩)
      · dsimp only
        have h_15 : ¬ (F 43) = 40 := by
          have q : ¬ (F 43) = 40 := u14
          first | exact q | (simp only [i_as] at q; exact q)
        unfold mb_plain_54
        refine PP.ite (fun c_16 => absurd c_16 (by decide)) (fun _ => ?_)
        unfold mb_plain_57
        refine PP.bind (PP.and (ihK 4 0 0 (fup (fup F 43 ((F 43) + (1 : Int32))) 42 ((F 42) + (1 : Int32))) G) (ih.2.2.2 4 0 0 (fup (fup F 43 ((F 43) + (1 : Int32))) 42 ((F 42) + (1 : Int32))) G g4 g5 (show (fup (fup F 43 ((F 43) + (1 : Int32))) 42 ((F 42) + (1 : Int32))) 44 = 0 from h44) (fun e => absurd e (by decide)))) ?_
        rintro r17 F17 G17 ⟨hK17, (⟨rfl, u17a, u17b, u17⟩ | ⟨rfl, u17a, u17⟩)⟩
        · dsimp only
          have g_18 : G17 4 = K := Eq.trans (hK17.2 4 rfl) g4
          have g_19 : G17 5 = V := Eq.trans (hK17.2 5 rfl) g5
          have h_20 : r 4 ((F 42) + (1 : Int32)) ((F 43) + (1 : Int32)) = some (some (F17 42)) := u17
          have q_21 : F17 43 = ((F 43) + (1 : Int32)) := (show F17 43 = ((F 43) + (1 : Int32)) from u17b)
          unfold mb_plain_61
          refine PP.ite (fun c_22 => absurd c_22 (by decide)) (fun _ => ?_)
          unfold mb_plain_64
          refine PP.bind (mp_closeSign (23 : Int32) F17 G17) ?_
          rintro r23 F23 G23 (⟨rfl, rfl, rfl, u23⟩ | ⟨rfl, u23, u23b⟩)
          · dsimp only
            have h_24 : sgn K V (F17 42) (23 : Int32) = true := by
              rw [← g_18, ← g_19]
              have q := u23.1
              first | exact q | (simp only [q_21, i_as] at q; exact q)
            unfold mb_plain_70
            refine PP.ite (fun c_25 => absurd c_25 (by decide)) (fun _ => ?_)
            unfold mb_plain_73
            unfold mb_plain_78
            refine PP.ret ?_
            refine Or.inl ⟨rfl, u17a, ?_, (rfl : (rh_plain K V r (F 42) (F 43)) = _).trans ?_⟩
            · show ((F17 43) - (1 : Int32)) = F 43
              first | with_reducible rfl | (simp only [q_21, i_as, fup, Nat.reduceEqDiff, reduceIte, if_false]) | rfl
            · show _ = some (some ((F17 42) + (1 : Int32)))
              first | with_reducible rfl | (simp only [rh_plain, rclose, h_10, h_12, h_15, h_20, h_24, q_21, i_as, fup, i_a0, i0m, i10, eq_self, rb_yes, rb_no, ryes, rno, if_true, if_false, f_tt (p := True), reduceIte, Nat.reduceEqDiff]) | rfl
          · dsimp only
            have g_26 : G23 4 = K := Eq.trans (u23.2.2.2 4 rfl) g_18
            have g_27 : G23 5 = V := Eq.trans (u23.2.2.2 5 rfl) g_19
            have q_28 : F23 42 = (F17 42) := u23.2.2.1 42 rfl
            have q_29 : F23 43 = ((F 43) + (1 : Int32)) := Eq.trans (u23.2.2.1 43 rfl) (show (F17 43) = ((F 43) + (1 : Int32)) by simp only [q_21, i_as])
            rcases u23b with q | q
            · exact absurd q (show ¬ 0 < (F17 44).toInt by rw [u17a]; decide)
            · skip
              have h_30 : sgn K V (F17 42) (23 : Int32) = false := by
                rw [← g_18, ← g_19]
                have q := q
                first | exact q | (simp only [q_21, i_as] at q; exact q)
              unfold mb_plain_70
              refine PP.ite (fun _ => ?_) (fun c_31 => absurd (by decide) c_31)
              unfold mb_plain_77
              unfold mb_plain_78
              refine PP.ret ?_
              refine Or.inr ⟨rfl, u23.1, (rfl : (rh_plain K V r (F 42) (F 43)) = _).trans ?_⟩
              first | with_reducible rfl | (simp only [rh_plain, rclose, h_10, h_12, h_15, h_20, h_30, q_21, q_28, q_29, i_as, fup, i_a0, i0m, i10, eq_self, rb_yes, rb_no, ryes, rno, if_true, if_false, f_tt (p := True), reduceIte, Nat.reduceEqDiff]) | rfl
        · dsimp only
          have g_32 : G17 4 = K := Eq.trans (hK17.2 4 rfl) g4
          have g_33 : G17 5 = V := Eq.trans (hK17.2 5 rfl) g5
          have h_34 : r 4 ((F 42) + (1 : Int32)) ((F 43) + (1 : Int32)) = some (none) := u17
          unfold mb_plain_61
          refine PP.ite (fun _ => ?_) (fun c_35 => absurd (by decide) c_35)
          unfold mb_plain_77
          unfold mb_plain_78
          refine PP.ret ?_
          refine Or.inr ⟨rfl, u17a, (rfl : (rh_plain K V r (F 42) (F 43)) = _).trans ?_⟩
          first | with_reducible rfl | (simp only [rh_plain, rclose, h_10, h_12, h_15, h_34, i_as, fup, i_a0, i0m, i10, eq_self, rb_yes, rb_no, ryes, rno, if_true, if_false, f_tt (p := True), reduceIte, Nat.reduceEqDiff]) | rfl
      · dsimp only
        have g_36 : G14 4 = K := Eq.trans (u14.2.2.2 4 rfl) g4
        have g_37 : G14 5 = V := Eq.trans (u14.2.2.2 5 rfl) g5
        have q_38 : F14 42 = (F 42) := u14.2.2.1 42 rfl
        have q_39 : F14 43 = (F 43) := u14.2.2.1 43 rfl
        have h_40 : ((F 43) = 40) = True := by
          have q : (F 43) = 40 := u14b
          first | exact eq_true q | (simp only [i_as] at q; exact eq_true q)
        unfold mb_plain_54
        refine PP.ite (fun _ => ?_) (fun c_41 => absurd (by decide) c_41)
        unfold mb_plain_77
        unfold mb_plain_78
        refine PP.ret ?_
        refine Or.inr ⟨rfl, u14.1, (rfl : (rh_plain K V r (F 42) (F 43)) = _).trans ?_⟩
        first | with_reducible rfl | (simp only [rh_plain, rclose, h_10, h_12, h_40, q_38, q_39, i_as, fup, i_a0, i0m, i10, eq_self, rb_yes, rb_no, ryes, rno, if_true, if_false, f_tt (p := True), reduceIte, Nat.reduceEqDiff]) | rfl
    · dsimp only
      have h_42 : sgn K V (F 42) (22 : Int32) = false := by
        rw [← g4, ← g5]
        have q := u11
        first | exact q | (simp only [i_as] at q; exact q)
      unfold mb_plain_47
      refine PP.ite (fun _ => ?_) (fun c_43 => absurd (by decide) c_43)
      unfold mb_plain_79
      refine PP.bind (mp_isWord (13 : Int32) F G) ?_
      rintro _ _ _ ⟨rfl, rfl, (⟨rfl, u44⟩ | ⟨rfl, u44⟩)⟩
      · dsimp only
        have h_45 : wdn K V (F 42) (13 : Int32) = true := by
          rw [← g4, ← g5]
          have q := u44
          first | exact q | (simp only [i_as] at q; exact q)
        unfold mb_plain_85
        refine PP.ite (fun c_46 => absurd c_46 (by decide)) (fun _ => ?_)
        unfold mb_plain_88
        refine PP.ite (fun c_47 => ?_) (fun c_47 => ?_)
        · skip
          unfold mb_plain_115
          unfold mb_plain_125
          refine PP.bind (mp_openSign (22 : Int32) (fup F 42 ((F 42) + (1 : Int32))) G) ?_
          rintro r48 F48 G48 (⟨rfl, rfl, rfl, u48⟩ | ⟨rfl, u48, u48b⟩)
          · dsimp only
            have h_49 : sgn K V ((F 42) + (1 : Int32)) (22 : Int32) = true := by
              rw [← g4, ← g5]
              have q := u48.1
              first | exact q | (simp only [i_as] at q; exact q)
            have h_50 : ¬ (F 43) = 40 := by
              have q : ¬ (F 43) = 40 := u48.2.1
              first | exact q | (simp only [i_as] at q; exact q)
            unfold mb_plain_131
            refine PP.ite (fun c_51 => absurd c_51 (by decide)) (fun _ => ?_)
            unfold mb_plain_134
            refine PP.bind (mp_closeSign (23 : Int32) (fup (fup (fup F 42 ((F 42) + (1 : Int32))) 43 ((F 43) + (1 : Int32))) 42 (((F 42) + (1 : Int32)) + (1 : Int32))) G) ?_
            rintro r52 F52 G52 (⟨rfl, rfl, rfl, u52⟩ | ⟨rfl, u52, u52b⟩)
            · dsimp only
              have h_53 : sgn K V (((F 42) + (1 : Int32)) + (1 : Int32)) (23 : Int32) = true := by
                rw [← g4, ← g5]
                have q := u52.1
                first | exact q | (simp only [i_as] at q; exact q)
              unfold mb_plain_140
              refine PP.ite (fun c_54 => absurd c_54 (by decide)) (fun _ => ?_)
              unfold mb_plain_145
              refine PP.bind (mw_step (21 : Int32) (0 : Int32) (0 : Int32) (fup (fup (fup (fup (fup F 42 ((F 42) + (1 : Int32))) 43 ((F 43) + (1 : Int32))) 42 (((F 42) + (1 : Int32)) + (1 : Int32))) 42 ((((F 42) + (1 : Int32)) + (1 : Int32)) + (1 : Int32))) 43 (((F 43) + (1 : Int32)) - (1 : Int32))) G) ?_
              intro r55 F55 G55 hK55
              dsimp only
              have g_56 : G55 4 = K := Eq.trans (hK55.2 4 rfl) g4
              have g_57 : G55 5 = V := Eq.trans (hK55.2 5 rfl) g5
              have q_58 : F55 42 = ((((F 42) + (1 : Int32)) + (1 : Int32)) + (1 : Int32)) := hK55.1 42 rfl
              have q_59 : F55 43 = (F 43) := Eq.trans (hK55.1 43 rfl) (show (((F 43) + (1 : Int32)) - (1 : Int32)) = (F 43) by simp only [i_as])
              have q_60 : F55 44 = 0 := Eq.trans (hK55.1 44 rfl) h44
              unfold mb_plain_153
              refine PP.ret ?_
              refine Or.inl ⟨rfl, q_60, ?_, (rfl : (rh_plain K V r (F 42) (F 43)) = _).trans ?_⟩
              · show (F55 43) = F 43
                first | with_reducible rfl | (simp only [q_58, q_59, i_as, fup, Nat.reduceEqDiff, reduceIte, if_false]) | rfl
              · show _ = some (some (F55 42))
                first | with_reducible rfl | (simp only [rh_plain, rclose, h_10, h_42, h_45, h_49, h_50, h_53, q_58, q_59, i_as, fup, i_a0, i0m, i10, eq_self, rb_yes, rb_no, ryes, rno, if_true, if_false, f_tt (p := True), reduceIte, Nat.reduceEqDiff]) | rfl
            · dsimp only
              have g_61 : G52 4 = K := Eq.trans (u52.2.2.2 4 rfl) g4
              have g_62 : G52 5 = V := Eq.trans (u52.2.2.2 5 rfl) g5
              have q_63 : F52 42 = (((F 42) + (1 : Int32)) + (1 : Int32)) := u52.2.2.1 42 rfl
              have q_64 : F52 43 = ((F 43) + (1 : Int32)) := u52.2.2.1 43 rfl
              rcases u52b with q | q
              · exact absurd q (show ¬ 0 < (F 44).toInt by rw [h44]; decide)
              · skip
                have h_65 : sgn K V (((F 42) + (1 : Int32)) + (1 : Int32)) (23 : Int32) = false := by
                  rw [← g4, ← g5]
                  have q := q
                  first | exact q | (simp only [i_as] at q; exact q)
                unfold mb_plain_140
                refine PP.ite (fun _ => ?_) (fun c_66 => absurd (by decide) c_66)
                unfold mb_plain_143
                refine PP.ret ?_
                refine Or.inr ⟨rfl, u52.1, (rfl : (rh_plain K V r (F 42) (F 43)) = _).trans ?_⟩
                first | with_reducible rfl | (simp only [rh_plain, rclose, h_10, h_42, h_45, h_49, h_50, h_65, q_63, q_64, i_as, fup, i_a0, i0m, i10, eq_self, rb_yes, rb_no, ryes, rno, if_true, if_false, f_tt (p := True), reduceIte, Nat.reduceEqDiff]) | rfl
          · dsimp only
            have g_67 : G48 4 = K := Eq.trans (u48.2.2.2 4 rfl) g4
            have g_68 : G48 5 = V := Eq.trans (u48.2.2.2 5 rfl) g5
            have q_69 : F48 42 = ((F 42) + (1 : Int32)) := u48.2.2.1 42 rfl
            have q_70 : F48 43 = (F 43) := u48.2.2.1 43 rfl
            rcases u48b with q | q | ⟨q, q1⟩
            · exact absurd q (show ¬ 0 < (F 44).toInt by rw [h44]; decide)
            · skip
              have h_71 : sgn K V ((F 42) + (1 : Int32)) (22 : Int32) = false := by
                rw [← g4, ← g5]
                have q := q
                first | exact q | (simp only [i_as] at q; exact q)
              unfold mb_plain_131
              refine PP.ite (fun _ => ?_) (fun c_72 => absurd (by decide) c_72)
              unfold mb_plain_143
              refine PP.ret ?_
              refine Or.inr ⟨rfl, u48.1, (rfl : (rh_plain K V r (F 42) (F 43)) = _).trans ?_⟩
              first | with_reducible rfl | (simp only [rh_plain, rclose, h_10, h_42, h_45, h_71, q_69, q_70, i_as, fup, i_a0, i0m, i10, eq_self, rb_yes, rb_no, ryes, rno, if_true, if_false, f_tt (p := True), reduceIte, Nat.reduceEqDiff]) | rfl
            · skip
              have h_73 : sgn K V ((F 42) + (1 : Int32)) (22 : Int32) = true := by
                rw [← g4, ← g5]
                have q := q
                first | exact q | (simp only [i_as] at q; exact q)
              have h_74 : ((F 43) = 40) = True := by
                have q : (F 43) = 40 := q1
                first | exact eq_true q | (simp only [i_as] at q; exact eq_true q)
              unfold mb_plain_131
              refine PP.ite (fun _ => ?_) (fun c_75 => absurd (by decide) c_75)
              unfold mb_plain_143
              refine PP.ret ?_
              refine Or.inr ⟨rfl, u48.1, (rfl : (rh_plain K V r (F 42) (F 43)) = _).trans ?_⟩
              first | with_reducible rfl | (simp only [rh_plain, rclose, h_10, h_42, h_45, h_73, h_74, q_69, q_70, i_as, fup, i_a0, i0m, i10, eq_self, rb_yes, rb_no, ryes, rno, if_true, if_false, f_tt (p := True), reduceIte, Nat.reduceEqDiff]) | rfl
        · skip
          unfold mb_plain_95
          refine PP.ix (fun _ => ?_)
          refine PP.bind (mw_note (10 : Int32) (G 6 (F 42).toNatClampNeg) F G) ?_
          intro r76 F76 G76 hK76
          dsimp only
          have g_77 : G76 4 = K := Eq.trans (hK76.2 4 rfl) g4
          have g_78 : G76 5 = V := Eq.trans (hK76.2 5 rfl) g5
          have q_79 : F76 42 = (F 42) := hK76.1 42 rfl
          have q_80 : F76 43 = (F 43) := hK76.1 43 rfl
          have q_81 : F76 44 = 0 := Eq.trans (hK76.1 44 rfl) h44
          unfold mb_plain_110
          unfold mb_plain_115
          unfold mb_plain_125
          refine PP.bind (mp_openSign (22 : Int32) (fup (fup F76 55 (1 : Int32)) 42 ((F76 42) + (1 : Int32))) G76) ?_
          rintro r82 F82 G82 (⟨rfl, rfl, rfl, u82⟩ | ⟨rfl, u82, u82b⟩)
          · dsimp only
            have h_83 : sgn K V ((F 42) + (1 : Int32)) (22 : Int32) = true := by
              rw [← g_77, ← g_78]
              have q := u82.1
              first | exact q | (simp only [q_79, q_80, i_as] at q; exact q) | (simp only [q_79, q_80, i_as, fup, Nat.reduceEqDiff, reduceIte, if_false] at q; exact q)
            have h_84 : ¬ (F 43) = 40 := by
              have q : ¬ (F76 43) = 40 := u82.2.1
              first | exact q | (simp only [q_79, q_80, i_as] at q; exact q)
            unfold mb_plain_131
            refine PP.ite (fun c_85 => absurd c_85 (by decide)) (fun _ => ?_)
            unfold mb_plain_134
            refine PP.bind (mp_closeSign (23 : Int32) (fup (fup (fup (fup F76 55 (1 : Int32)) 42 ((F76 42) + (1 : Int32))) 43 ((F76 43) + (1 : Int32))) 42 (((F76 42) + (1 : Int32)) + (1 : Int32))) G76) ?_
            rintro r86 F86 G86 (⟨rfl, rfl, rfl, u86⟩ | ⟨rfl, u86, u86b⟩)
            · dsimp only
              have h_87 : sgn K V (((F 42) + (1 : Int32)) + (1 : Int32)) (23 : Int32) = true := by
                rw [← g_77, ← g_78]
                have q := u86.1
                first | exact q | (simp only [q_79, q_80, i_as] at q; exact q) | (simp only [q_79, q_80, i_as, fup, Nat.reduceEqDiff, reduceIte, if_false] at q; exact q)
              unfold mb_plain_140
              refine PP.ite (fun c_88 => absurd c_88 (by decide)) (fun _ => ?_)
              unfold mb_plain_145
              refine PP.bind (mw_step (21 : Int32) (0 : Int32) (0 : Int32) (fup (fup (fup (fup (fup (fup F76 55 (1 : Int32)) 42 ((F76 42) + (1 : Int32))) 43 ((F76 43) + (1 : Int32))) 42 (((F76 42) + (1 : Int32)) + (1 : Int32))) 42 ((((F76 42) + (1 : Int32)) + (1 : Int32)) + (1 : Int32))) 43 (((F76 43) + (1 : Int32)) - (1 : Int32))) G76) ?_
              intro r89 F89 G89 hK89
              dsimp only
              have g_90 : G89 4 = K := Eq.trans (hK89.2 4 rfl) g_77
              have g_91 : G89 5 = V := Eq.trans (hK89.2 5 rfl) g_78
              have q_92 : F89 42 = ((((F 42) + (1 : Int32)) + (1 : Int32)) + (1 : Int32)) := Eq.trans (hK89.1 42 rfl) (show ((((F76 42) + (1 : Int32)) + (1 : Int32)) + (1 : Int32)) = ((((F 42) + (1 : Int32)) + (1 : Int32)) + (1 : Int32)) by simp only [q_79, q_80, i_as])
              have q_93 : F89 43 = (F 43) := Eq.trans (hK89.1 43 rfl) (show (((F76 43) + (1 : Int32)) - (1 : Int32)) = (F 43) by simp only [q_79, q_80, i_as])
              have q_94 : F89 44 = 0 := Eq.trans (hK89.1 44 rfl) q_81
              unfold mb_plain_153
              refine PP.ret ?_
              refine Or.inl ⟨rfl, q_94, ?_, (rfl : (rh_plain K V r (F 42) (F 43)) = _).trans ?_⟩
              · show (F89 43) = F 43
                first | with_reducible rfl | (simp only [q_79, q_80, q_92, q_93, i_as, fup, Nat.reduceEqDiff, reduceIte, if_false]) | rfl
              · show _ = some (some (F89 42))
                first | with_reducible rfl | (simp only [rh_plain, rclose, h_10, h_42, h_45, h_83, h_84, h_87, q_79, q_80, q_92, q_93, i_as, fup, i_a0, i0m, i10, eq_self, rb_yes, rb_no, ryes, rno, if_true, if_false, f_tt (p := True), reduceIte, Nat.reduceEqDiff]) | rfl
            · dsimp only
              have g_95 : G86 4 = K := Eq.trans (u86.2.2.2 4 rfl) g_77
              have g_96 : G86 5 = V := Eq.trans (u86.2.2.2 5 rfl) g_78
              have q_97 : F86 42 = (((F 42) + (1 : Int32)) + (1 : Int32)) := Eq.trans (u86.2.2.1 42 rfl) (show (((F76 42) + (1 : Int32)) + (1 : Int32)) = (((F 42) + (1 : Int32)) + (1 : Int32)) by simp only [q_79, q_80, i_as])
              have q_98 : F86 43 = ((F 43) + (1 : Int32)) := Eq.trans (u86.2.2.1 43 rfl) (show ((F76 43) + (1 : Int32)) = ((F 43) + (1 : Int32)) by simp only [q_79, q_80, i_as])
              rcases u86b with q | q
              · exact absurd q (show ¬ 0 < (F76 44).toInt by rw [q_81]; decide)
              · skip
                have h_99 : sgn K V (((F 42) + (1 : Int32)) + (1 : Int32)) (23 : Int32) = false := by
                  rw [← g_77, ← g_78]
                  have q := q
                  first | exact q | (simp only [q_79, q_80, i_as] at q; exact q) | (simp only [q_79, q_80, i_as, fup, Nat.reduceEqDiff, reduceIte, if_false] at q; exact q)
                unfold mb_plain_140
                refine PP.ite (fun _ => ?_) (fun c_100 => absurd (by decide) c_100)
                unfold mb_plain_143
                refine PP.ret ?_
                refine Or.inr ⟨rfl, u86.1, (rfl : (rh_plain K V r (F 42) (F 43)) = _).trans ?_⟩
                first | with_reducible rfl | (simp only [rh_plain, rclose, h_10, h_42, h_45, h_83, h_84, h_99, q_79, q_80, q_97, q_98, i_as, fup, i_a0, i0m, i10, eq_self, rb_yes, rb_no, ryes, rno, if_true, if_false, f_tt (p := True), reduceIte, Nat.reduceEqDiff]) | rfl
          · dsimp only
            have g_101 : G82 4 = K := Eq.trans (u82.2.2.2 4 rfl) g_77
            have g_102 : G82 5 = V := Eq.trans (u82.2.2.2 5 rfl) g_78
            have q_103 : F82 42 = ((F 42) + (1 : Int32)) := Eq.trans (u82.2.2.1 42 rfl) (show ((F76 42) + (1 : Int32)) = ((F 42) + (1 : Int32)) by simp only [q_79, q_80, i_as])
            have q_104 : F82 43 = (F 43) := Eq.trans (u82.2.2.1 43 rfl) (show (F76 43) = (F 43) by simp only [q_79, q_80, i_as])
            rcases u82b with q | q | ⟨q, q1⟩
            · exact absurd q (show ¬ 0 < (F76 44).toInt by rw [q_81]; decide)
            · skip
              have h_105 : sgn K V ((F 42) + (1 : Int32)) (22 : Int32) = false := by
                rw [← g_77, ← g_78]
                have q := q
                first | exact q | (simp only [q_79, q_80, i_as] at q; exact q) | (simp only [q_79, q_80, i_as, fup, Nat.reduceEqDiff, reduceIte, if_false] at q; exact q)
              unfold mb_plain_131
              refine PP.ite (fun _ => ?_) (fun c_106 => absurd (by decide) c_106)
              unfold mb_plain_143
              refine PP.ret ?_
              refine Or.inr ⟨rfl, u82.1, (rfl : (rh_plain K V r (F 42) (F 43)) = _).trans ?_⟩
              first | with_reducible rfl | (simp only [rh_plain, rclose, h_10, h_42, h_45, h_105, q_79, q_80, q_103, q_104, i_as, fup, i_a0, i0m, i10, eq_self, rb_yes, rb_no, ryes, rno, if_true, if_false, f_tt (p := True), reduceIte, Nat.reduceEqDiff]) | rfl
            · skip
              have h_107 : sgn K V ((F 42) + (1 : Int32)) (22 : Int32) = true := by
                rw [← g_77, ← g_78]
                have q := q
                first | exact q | (simp only [q_79, q_80, i_as] at q; exact q) | (simp only [q_79, q_80, i_as, fup, Nat.reduceEqDiff, reduceIte, if_false] at q; exact q)
              have h_108 : ((F 43) = 40) = True := by
                have q : (F76 43) = 40 := q1
                first | exact eq_true q | (simp only [q_79, q_80, i_as] at q; exact eq_true q)
              unfold mb_plain_131
              refine PP.ite (fun _ => ?_) (fun c_109 => absurd (by decide) c_109)
              unfold mb_plain_143
              refine PP.ret ?_
              refine Or.inr ⟨rfl, u82.1, (rfl : (rh_plain K V r (F 42) (F 43)) = _).trans ?_⟩
              first | with_reducible rfl | (simp only [rh_plain, rclose, h_10, h_42, h_45, h_107, h_108, q_79, q_80, q_103, q_104, i_as, fup, i_a0, i0m, i10, eq_self, rb_yes, rb_no, ryes, rno, if_true, if_false, f_tt (p := True), reduceIte, Nat.reduceEqDiff]) | rfl
      · dsimp only
        have h_110 : wdn K V (F 42) (13 : Int32) = false := by
          rw [← g4, ← g5]
          have q := u44
          first | exact q | (simp only [i_as] at q; exact q)
        unfold mb_plain_85
        refine PP.ite (fun _ => ?_) (fun c_111 => absurd (by decide) c_111)
        unfold mb_plain_156
        refine PP.ix (fun _ => ?_)
        refine PP.ite (fun c_112 => ?_) (fun c_112 => ?_)
        · skip
          have h_113 : K (F 42).toNatClampNeg = (1 : Int32) := by
            rw [← g4]
            have q := c_112
            first | exact q | (simp only [i_as] at q; exact q)
          have h_114 := eq_true h_113
          unfold mb_plain_175
          unfold mb_plain_190
          refine PP.ite (fun c_115 => ?_) (fun c_115 => ?_)
          · skip
            unfold mb_plain_205
            refine PP.bind (PP.and (ihK 6 (F 42) 0 (fup F 42 ((F 42) + (1 : Int32))) G) (ih.2.2.2 6 (F 42) 0 (fup F 42 ((F 42) + (1 : Int32))) G g4 g5 (show (fup F 42 ((F 42) + (1 : Int32))) 44 = 0 from h44) (fun e => absurd e (by decide)))) ?_
            rintro r116 F116 G116 ⟨hK116, (⟨rfl, u116a, u116b, u116⟩ | ⟨rfl, u116a, u116⟩)⟩
            · dsimp only
              have g_117 : G116 4 = K := Eq.trans (hK116.2 4 rfl) g4
              have g_118 : G116 5 = V := Eq.trans (hK116.2 5 rfl) g5
              have h_119 : r 6 ((F 42) + (1 : Int32)) (F 43) = some (some (F116 42)) := u116
              have q_120 : F116 43 = (F 43) := (show F116 43 = (F 43) from u116b)
              unfold mb_plain_210
              refine PP.ret ?_
              refine Or.inl ⟨rfl, u116a, ?_, (rfl : (rh_plain K V r (F 42) (F 43)) = _).trans ?_⟩
              · show (F116 43) = F 43
                first | with_reducible rfl | (simp only [q_120, i_as, fup, Nat.reduceEqDiff, reduceIte, if_false]) | rfl
              · show _ = some (some (F116 42))
                first | with_reducible rfl | (simp only [rh_plain, rclose, h_10, h_42, h_110, h_114, h_119, q_120, i_as, fup, i_a0, i0m, i10, eq_self, rb_yes, rb_no, ryes, rno, if_true, if_false, f_tt (p := True), reduceIte, Nat.reduceEqDiff]) | rfl
            · dsimp only
              have g_121 : G116 4 = K := Eq.trans (hK116.2 4 rfl) g4
              have g_122 : G116 5 = V := Eq.trans (hK116.2 5 rfl) g5
              have h_123 : r 6 ((F 42) + (1 : Int32)) (F 43) = some (none) := u116
              unfold mb_plain_210
              refine PP.ret ?_
              refine Or.inr ⟨rfl, u116a, (rfl : (rh_plain K V r (F 42) (F 43)) = _).trans ?_⟩
              first | with_reducible rfl | (simp only [rh_plain, rclose, h_10, h_42, h_110, h_114, h_123, i_as, fup, i_a0, i0m, i10, eq_self, rb_yes, rb_no, ryes, rno, if_true, if_false, f_tt (p := True), reduceIte, Nat.reduceEqDiff]) | rfl
          · skip
            unfold mb_plain_197
            refine PP.bind (PP.and (ihK 5 (F 42) 0 (fup F 42 ((F 42) + (1 : Int32))) G) (ih.2.2.2 5 (F 42) 0 (fup F 42 ((F 42) + (1 : Int32))) G g4 g5 (show (fup F 42 ((F 42) + (1 : Int32))) 44 = 0 from h44) (fun _ => (by show K (((F 42) + (1 : Int32)) - 1).toNatClampNeg = 1; rw [i_as]; assumption)))) ?_
            rintro r124 F124 G124 ⟨hK124, (⟨rfl, u124a, u124b, u124⟩ | ⟨rfl, u124a, u124⟩)⟩
            · dsimp only
              have g_125 : G124 4 = K := Eq.trans (hK124.2 4 rfl) g4
              have g_126 : G124 5 = V := Eq.trans (hK124.2 5 rfl) g5
              have h_127 : r 6 ((F 42) + (1 : Int32)) (F 43) = some (some (F124 42)) := ((ih.1 _ _).symm.trans u124)
              have q_128 : F124 43 = (F 43) := (show F124 43 = (F 43) from u124b)
              unfold mb_plain_202
              unfold mb_plain_210
              refine PP.ret ?_
              refine Or.inl ⟨rfl, u124a, ?_, (rfl : (rh_plain K V r (F 42) (F 43)) = _).trans ?_⟩
              · show (F124 43) = F 43
                first | with_reducible rfl | (simp only [q_128, i_as, fup, Nat.reduceEqDiff, reduceIte, if_false]) | rfl
              · show _ = some (some (F124 42))
                first | with_reducible rfl | (simp only [rh_plain, rclose, h_10, h_42, h_110, h_114, h_127, q_128, i_as, fup, i_a0, i0m, i10, eq_self, rb_yes, rb_no, ryes, rno, if_true, if_false, f_tt (p := True), reduceIte, Nat.reduceEqDiff]) | rfl
            · dsimp only
              have g_129 : G124 4 = K := Eq.trans (hK124.2 4 rfl) g4
              have g_130 : G124 5 = V := Eq.trans (hK124.2 5 rfl) g5
              have h_131 : r 6 ((F 42) + (1 : Int32)) (F 43) = some (none) := ((ih.1 _ _).symm.trans u124)
              unfold mb_plain_202
              unfold mb_plain_210
              refine PP.ret ?_
              refine Or.inr ⟨rfl, u124a, (rfl : (rh_plain K V r (F 42) (F 43)) = _).trans ?_⟩
              first | with_reducible rfl | (simp only [rh_plain, rclose, h_10, h_42, h_110, h_114, h_131, i_as, fup, i_a0, i0m, i10, eq_self, rb_yes, rb_no, ryes, rno, if_true, if_false, f_tt (p := True), reduceIte, Nat.reduceEqDiff]) | rfl
        · skip
          have h_132 : ¬ K (F 42).toNatClampNeg = (1 : Int32) := by
            rw [← g4]
            have q := c_112
            first | exact q | (simp only [i_as] at q; exact q)
          unfold mb_plain_169
          refine PP.bind (mp_fails (2 : Int32) (by decide) F G) ?_
          rintro r133 F133 G133 ⟨rfl, u133⟩
          dsimp only
          have g_134 : G133 4 = K := Eq.trans (u133.2.2.2 4 rfl) g4
          have g_135 : G133 5 = V := Eq.trans (u133.2.2.2 5 rfl) g5
          have q_136 : F133 42 = (F 42) := u133.2.2.1 42 rfl
          have q_137 : F133 43 = (F 43) := u133.2.2.1 43 rfl
          unfold mb_plain_174
          refine PP.ret ?_
          refine Or.inr ⟨rfl, u133.1, (rfl : (rh_plain K V r (F 42) (F 43)) = _).trans ?_⟩
          first | with_reducible rfl | (simp only [rh_plain, rclose, h_10, h_42, h_110, h_132, q_136, q_137, i_as, fup, i_a0, i0m, i10, eq_self, rb_yes, rb_no, ryes, rno, if_true, if_false, f_tt (p := True), reduceIte, Nat.reduceEqDiff]) | rfl
