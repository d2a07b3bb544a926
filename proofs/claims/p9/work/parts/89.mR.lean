theorem mrj_simple_211 {fu : Nat} {K V : Nat → Int32} {F0 : PF} {R0 : OR} (x2 : Int32) (x4 : Int32) (x6 : Int32) (F : PF) (G : PG) (g4 : G 4 = K) (g5 : G 5 = V) (hA : (x4 = 1 ∧ F 44 = 0 ∧ F 43 = F0 43 ∧ R0 = rsimple1 K V fu (F 42) (F 43) ∧ sgn K V (F 42) (24 : Int32) = true) ∨ (x4 = 0 ∧ F 44 = 0 ∧ F 43 = F0 43 ∧ R0 = rsimple1 K V fu (F 42) (F 43) ∧ sgn K V (F 42) (24 : Int32) = false)) : PP (mb_simple_211 fu x2 x4 x6 F G) (fun r' F' _ => ROK R0 F0 r' F') := by
  rcases hA with ⟨rfl, h44, h43, hR, hx0⟩ | ⟨rfl, h44, h43, hR, hx0⟩
  · skip
    unfold mb_simple_211
    exact mrj_simple_212 (F0 := F0) (R0 := R0) x2 (1 : Int32) x6 (0 : Int32) F G g4 g5 (Or.inl ⟨rfl, h44, (by first | with_reducible rfl | (simp only [h43, i_as, fup, Nat.reduceEqDiff, reduceIte, if_false]) | rfl), (hR.trans (by first | with_reducible rfl | (simp only [rsimple, rsimple1, rsimple3, rsig, hx0, h43, i_as, fup, i_a0, i0m, i10, eq_self, rb_yes, rb_no, ryes, rno, if_true, if_false, f_tt (p := True), reduceIte, Nat.reduceEqDiff]) | rfl)), (by first | with_reducible rfl | assumption | (simp only [g4, g5, rsimple, rsimple1, rsimple3, rsig, hx0, h43, i_as, fup, i_a0, i0m, i10, eq_self, rb_yes, rb_no, ryes, rno, if_true, if_false, f_tt (p := True), reduceIte, Nat.reduceEqDiff]) | exact sgn_ne (by assumption) (by decide))⟩)
  · skip
    unfold mb_simple_211
    exact mrj_simple_212 (F0 := F0) (R0 := R0) x2 (0 : Int32) x6 (0 : Int32) F G g4 g5 (Or.inr ⟨rfl, h44, (by first | with_reducible rfl | (simp only [h43, i_as, fup, Nat.reduceEqDiff, reduceIte, if_false]) | rfl), (hR.trans (by first | with_reducible rfl | (simp only [rsimple, rsimple1, rsimple3, rsig, hx0, h43, i_as, fup, i_a0, i0m, i10, eq_self, rb_yes, rb_no, ryes, rno, if_true, if_false, f_tt (p := True), reduceIte, Nat.reduceEqDiff]) | rfl)), (by first | with_reducible rfl | assumption | (simp only [g4, g5, rsimple, rsimple1, rsimple3, rsig, hx0, h43, i_as, fup, i_a0, i0m, i10, eq_self, rb_yes, rb_no, ryes, rno, if_true, if_false, f_tt (p := True), reduceIte, Nat.reduceEqDiff]) | exact sgn_ne (by assumption) (by decide))⟩)
theorem mrj_simple_191 {fu : Nat} {K V : Nat → Int32} {F0 : PF} {R0 : OR} (x2 : Int32) (x4 : Int32) (z0 : Int32) (F : PF) (G : PG) (g4 : G 4 = K) (g5 : G 5 = V) (hA : (x4 = 1 ∧ F 44 = 0 ∧ F 43 = F0 43 ∧ R0 = rsimple1 K V fu (F 42) (F 43) ∧ sgn K V (F 42) (24 : Int32) = true) ∨ (x4 = 0 ∧ F 44 = 0 ∧ F 43 = F0 43 ∧ R0 = rsimple1 K V fu (F 42) (F 43) ∧ sgn K V (F 42) (24 : Int32) = false)) : PP (mb_simple_191 fu x2 x4 z0 F G) (fun r' F' _ => ROK R0 F0 r' F') := by
  rcases hA with ⟨rfl, h44, h43, hR, hx0⟩ | ⟨rfl, h44, h43, hR, hx0⟩
  · skip
    unfold mb_simple_191
    refine PP.ite (fun c_1 => ?_) (fun c_1 => ?_)
    · skip
      exact mrj_simple_211 (F0 := F0) (R0 := R0) x2 (1 : Int32) z0 F G g4 g5 (Or.inl ⟨rfl, h44, (by first | with_reducible rfl | (simp only [h43, i_as, fup, Nat.reduceEqDiff, reduceIte, if_false]) | rfl), (hR.trans (by first | with_reducible rfl | (simp only [rsimple, rsimple1, rsimple3, rsig, hx0, h43, i_as, fup, i_a0, i0m, i10, eq_self, rb_yes, rb_no, ryes, rno, if_true, if_false, f_tt (p := True), reduceIte, Nat.reduceEqDiff]) | rfl)), (by first | with_reducible rfl | assumption | (simp only [g4, g5, rsimple, rsimple1, rsimple3, rsig, hx0, h43, i_as, fup, i_a0, i0m, i10, eq_self, rb_yes, rb_no, ryes, rno, if_true, if_false, f_tt (p := True), reduceIte, Nat.reduceEqDiff]) | exact sgn_ne (by assumption) (by decide))⟩)
    · skip
      unfold mb_simple_198
      refine PP.ix (fun _ => ?_)
      refine PP.ite (fun c_2 => ?_) (fun c_2 => ?_)
      · skip
        exact mrj_simple_211 (F0 := F0) (R0 := R0) x2 (1 : Int32) z0 F G g4 g5 (Or.inl ⟨rfl, h44, (by first | with_reducible rfl | (simp only [h43, i_as, fup, Nat.reduceEqDiff, reduceIte, if_false]) | rfl), (hR.trans (by first | with_reducible rfl | (simp only [rsimple, rsimple1, rsimple3, rsig, hx0, h43, i_as, fup, i_a0, i0m, i10, eq_self, rb_yes, rb_no, ryes, rno, if_true, if_false, f_tt (p := True), reduceIte, Nat.reduceEqDiff]) | rfl)), (by first | with_reducible rfl | assumption | (simp only [g4, g5, rsimple, rsimple1, rsimple3, rsig, hx0, h43, i_as, fup, i_a0, i0m, i10, eq_self, rb_yes, rb_no, ryes, rno, if_true, if_false, f_tt (p := True), reduceIte, Nat.reduceEqDiff]) | exact sgn_ne (by assumption) (by decide))⟩)
      · skip
        unfold mb_simple_207
        exact mrj_simple_212 (F0 := F0) (R0 := R0) x2 (1 : Int32) z0 (1 : Int32) F G g4 g5 (Or.inl ⟨rfl, h44, (by first | with_reducible rfl | (simp only [h43, i_as, fup, Nat.reduceEqDiff, reduceIte, if_false]) | rfl), (hR.trans (by first | with_reducible rfl | (simp only [rsimple, rsimple1, rsimple3, rsig, hx0, h43, i_as, fup, i_a0, i0m, i10, eq_self, rb_yes, rb_no, ryes, rno, if_true, if_false, f_tt (p := True), reduceIte, Nat.reduceEqDiff]) | rfl)), (by first | with_reducible rfl | assumption | (simp only [g4, g5, rsimple, rsimple1, rsimple3, rsig, hx0, h43, i_as, fup, i_a0, i0m, i10, eq_self, rb_yes, rb_no, ryes, rno, if_true, if_false, f_tt (p := True), reduceIte, Nat.reduceEqDiff]) | exact sgn_ne (by assumption) (by decide))⟩)
  · skip
    unfold mb_simple_191
    refine PP.ite (fun c_3 => ?_) (fun c_3 => ?_)
    · skip
      exact mrj_simple_211 (F0 := F0) (R0 := R0) x2 (0 : Int32) z0 F G g4 g5 (Or.inr ⟨rfl, h44, (by first | with_reducible rfl | (simp only [h43, i_as, fup, Nat.reduceEqDiff, reduceIte, if_false]) | rfl), (hR.trans (by first | with_reducible rfl | (simp only [rsimple, rsimple1, rsimple3, rsig, hx0, h43, i_as, fup, i_a0, i0m, i10, eq_self, rb_yes, rb_no, ryes, rno, if_true, if_false, f_tt (p := True), reduceIte, Nat.reduceEqDiff]) | rfl)), (by first | with_reducible rfl | assumption | (simp only [g4, g5, rsimple, rsimple1, rsimple3, rsig, hx0, h43, i_as, fup, i_a0, i0m, i10, eq_self, rb_yes, rb_no, ryes, rno, if_true, if_false, f_tt (p := True), reduceIte, Nat.reduceEqDiff]) | exact sgn_ne (by assumption) (by decide))⟩)
    · skip
      unfold mb_simple_198
      refine PP.ix (fun _ => ?_)
      refine PP.ite (fun c_4 => ?_) (fun c_4 => ?_)
      · skip
        exact mrj_simple_211 (F0 := F0) (R0 := R0) x2 (0 : Int32) z0 F G g4 g5 (Or.inr ⟨rfl, h44, (by first | with_reducible rfl | (simp only [h43, i_as, fup, Nat.reduceEqDiff, reduceIte, if_false]) | rfl), (hR.trans (by first | with_reducible rfl | (simp only [rsimple, rsimple1, rsimple3, rsig, hx0, h43, i_as, fup, i_a0, i0m, i10, eq_self, rb_yes, rb_no, ryes, rno, if_true, if_false, f_tt (p := True), reduceIte, Nat.reduceEqDiff]) | rfl)), (by first | with_reducible rfl | assumption | (simp only [g4, g5, rsimple, rsimple1, rsimple3, rsig, hx0, h43, i_as, fup, i_a0, i0m, i10, eq_self, rb_yes, rb_no, ryes, rno, if_true, if_false, f_tt (p := True), reduceIte, Nat.reduceEqDiff]) | exact sgn_ne (by assumption) (by decide))⟩)
      · skip
        unfold mb_simple_207
        exact mrj_simple_212 (F0 := F0) (R0 := R0) x2 (0 : Int32) z0 (1 : Int32) F G g4 g5 (Or.inr ⟨rfl, h44, (by first | with_reducible rfl | (simp only [h43, i_as, fup, Nat.reduceEqDiff, reduceIte, if_false]) | rfl), (hR.trans (by first | with_reducible rfl | (simp only [rsimple, rsimple1, rsimple3, rsig, hx0, h43, i_as, fup, i_a0, i0m, i10, eq_self, rb_yes, rb_no, ryes, rno, if_true, if_false, f_tt (p := True), reduceIte, Nat.reduceEqDiff]) | rfl)), (by first | with_reducible rfl | assumption | (simp only [g4, g5, rsimple, rsimple1, rsimple3, rsig, hx0, h43, i_as, fup, i_a0, i0m, i10, eq_self, rb_yes, rb_no, ryes, rno, if_true, if_false, f_tt (p := True), reduceIte, Nat.reduceEqDiff]) | exact sgn_ne (by assumption) (by decide))⟩)
theorem mrj_simple_190 {fu : Nat} {K V : Nat → Int32} {F0 : PF} {R0 : OR} (x2 : Int32) (x4 : Int32) (F : PF) (G : PG) (g4 : G 4 = K) (g5 : G 5 = V) (hA : (x4 = 1 ∧ F 44 = 0 ∧ F 43 = F0 43 ∧ R0 = rsimple1 K V fu (F 42) (F 43) ∧ sgn K V (F 42) (24 : Int32) = true) ∨ (x4 = 0 ∧ F 44 = 0 ∧ F 43 = F0 43 ∧ R0 = rsimple1 K V fu (F 42) (F 43) ∧ sgn K V (F 42) (24 : Int32) = false)) : PP (mb_simple_190 fu x2 x4 F G) (fun r' F' _ => ROK R0 F0 r' F') := by
  rcases hA with ⟨rfl, h44, h43, hR, hx0⟩ | ⟨rfl, h44, h43, hR, hx0⟩
  · skip
    unfold mb_simple_190
    exact mrj_simple_191 (F0 := F0) (R0 := R0) x2 (1 : Int32) (0 : Int32) F G g4 g5 (Or.inl ⟨rfl, h44, (by first | with_reducible rfl | (simp only [h43, i_as, fup, Nat.reduceEqDiff, reduceIte, if_false]) | rfl), (hR.trans (by first | with_reducible rfl | (simp only [rsimple, rsimple1, rsimple3, rsig, hx0, h43, i_as, fup, i_a0, i0m, i10, eq_self, rb_yes, rb_no, ryes, rno, if_true, if_false, f_tt (p := True), reduceIte, Nat.reduceEqDiff]) | rfl)), (by first | with_reducible rfl | assumption | (simp only [g4, g5, rsimple, rsimple1, rsimple3, rsig, hx0, h43, i_as, fup, i_a0, i0m, i10, eq_self, rb_yes, rb_no, ryes, rno, if_true, if_false, f_tt (p := True), reduceIte, Nat.reduceEqDiff]) | exact sgn_ne (by assumption) (by decide))⟩)
  · skip
    unfold mb_simple_190
    exact mrj_simple_191 (F0 := F0) (R0 := R0) x2 (0 : Int32) (0 : Int32) F G g4 g5 (Or.inr ⟨rfl, h44, (by first | with_reducible rfl | (simp only [h43, i_as, fup, Nat.reduceEqDiff, reduceIte, if_false]) | rfl), (hR.trans (by first | with_reducible rfl | (simp only [rsimple, rsimple1, rsimple3, rsig, hx0, h43, i_as, fup, i_a0, i0m, i10, eq_self, rb_yes, rb_no, ryes, rno, if_true, if_false, f_tt (p := True), reduceIte, Nat.reduceEqDiff]) | rfl)), (by first | with_reducible rfl | assumption | (simp only [g4, g5, rsimple, rsimple1, rsimple3, rsig, hx0, h43, i_as, fup, i_a0, i0m, i10, eq_self, rb_yes, rb_no, ryes, rno, if_true, if_false, f_tt (p := True), reduceIte, Nat.reduceEqDiff]) | exact sgn_ne (by assumption) (by decide))⟩)
theorem mrj_simple_172 {fu : Nat} {K V : Nat → Int32} {F0 : PF} {R0 : OR} (x2 : Int32) (x4 : Int32) (F : PF) (G : PG) (g4 : G 4 = K) (g5 : G 5 = V) (hA : (x4 = 1 ∧ F 44 = 0 ∧ F 43 = F0 43 ∧ R0 = rsimple1 K V fu (F 42) (F 43) ∧ sgn K V (F 42) (24 : Int32) = true) ∨ (x4 = 0 ∧ F 44 = 0 ∧ F 43 = F0 43 ∧ R0 = rsimple1 K V fu (F 42) (F 43) ∧ sgn K V (F 42) (24 : Int32) = false)) : PP (mb_simple_172 fu x2 x4 F G) (fun r' F' _ => ROK R0 F0 r' F') := by
  rcases hA with ⟨rfl, h44, h43, hR, hx0⟩ | ⟨rfl, h44, h43, hR, hx0⟩
  · skip
    unfold mb_simple_172
    refine PP.ite (fun c_1 => ?_) (fun c_1 => ?_)
    · skip
      exact mrj_simple_190 (F0 := F0) (R0 := R0) x2 (1 : Int32) F G g4 g5 (Or.inl ⟨rfl, h44, (by first | with_reducible rfl | (simp only [h43, i_as, fup, Nat.reduceEqDiff, reduceIte, if_false]) | rfl), (hR.trans (by first | with_reducible rfl | (simp only [rsimple, rsimple1, rsimple3, rsig, hx0, h43, i_as, fup, i_a0, i0m, i10, eq_self, rb_yes, rb_no, ryes, rno, if_true, if_false, f_tt (p := True), reduceIte, Nat.reduceEqDiff]) | rfl)), (by first | with_reducible rfl | assumption | (simp only [g4, g5, rsimple, rsimple1, rsimple3, rsig, hx0, h43, i_as, fup, i_a0, i0m, i10, eq_self, rb_yes, rb_no, ryes, rno, if_true, if_false, f_tt (p := True), reduceIte, Nat.reduceEqDiff]) | exact sgn_ne (by assumption) (by decide))⟩)
    · skip
      unfold mb_simple_177
      refine PP.ix (fun _ => ?_)
      refine PP.ite (fun c_2 => ?_) (fun c_2 => ?_)
      · skip
        exact mrj_simple_190 (F0 := F0) (R0 := R0) x2 (1 : Int32) F G g4 g5 (Or.inl ⟨rfl, h44, (by first | with_reducible rfl | (simp only [h43, i_as, fup, Nat.reduceEqDiff, reduceIte, if_false]) | rfl), (hR.trans (by first | with_reducible rfl | (simp only [rsimple, rsimple1, rsimple3, rsig, hx0, h43, i_as, fup, i_a0, i0m, i10, eq_self, rb_yes, rb_no, ryes, rno, if_true, if_false, f_tt (p := True), reduceIte, Nat.reduceEqDiff]) | rfl)), (by first | with_reducible rfl | assumption | (simp only [g4, g5, rsimple, rsimple1, rsimple3, rsig, hx0, h43, i_as, fup, i_a0, i0m, i10, eq_self, rb_yes, rb_no, ryes, rno, if_true, if_false, f_tt (p := True), reduceIte, Nat.reduceEqDiff]) | exact sgn_ne (by assumption) (by decide))⟩)
      · skip
        unfold mb_simple_186
        exact mrj_simple_191 (F0 := F0) (R0 := R0) x2 (1 : Int32) (1 : Int32) F G g4 g5 (Or.inl ⟨rfl, h44, (by first | with_reducible rfl | (simp only [h43, i_as, fup, Nat.reduceEqDiff, reduceIte, if_false]) | rfl), (hR.trans (by first | with_reducible rfl | (simp only [rsimple, rsimple1, rsimple3, rsig, hx0, h43, i_as, fup, i_a0, i0m, i10, eq_self, rb_yes, rb_no, ryes, rno, if_true, if_false, f_tt (p := True), reduceIte, Nat.reduceEqDiff]) | rfl)), (by first | with_reducible rfl | assumption | (simp only [g4, g5, rsimple, rsimple1, rsimple3, rsig, hx0, h43, i_as, fup, i_a0, i0m, i10, eq_self, rb_yes, rb_no, ryes, rno, if_true, if_false, f_tt (p := True), reduceIte, Nat.reduceEqDiff]) | exact sgn_ne (by assumption) (by decide))⟩)
  · skip
    unfold mb_simple_172
    refine PP.ite (fun c_3 => ?_) (fun c_3 => ?_)
    · skip
      exact mrj_simple_190 (F0 := F0) (R0 := R0) x2 (0 : Int32) F G g4 g5 (Or.inr ⟨rfl, h44, (by first | with_reducible rfl | (simp only [h43, i_as, fup, Nat.reduceEqDiff, reduceIte, if_false]) | rfl), (hR.trans (by first | with_reducible rfl | (simp only [rsimple, rsimple1, rsimple3, rsig, hx0, h43, i_as, fup, i_a0, i0m, i10, eq_self, rb_yes, rb_no, ryes, rno, if_true, if_false, f_tt (p := True), reduceIte, Nat.reduceEqDiff]) | rfl)), (by first | with_reducible rfl | assumption | (simp only [g4, g5, rsimple, rsimple1, rsimple3, rsig, hx0, h43, i_as, fup, i_a0, i0m, i10, eq_self, rb_yes, rb_no, ryes, rno, if_true, if_false, f_tt (p := True), reduceIte, Nat.reduceEqDiff]) | exact sgn_ne (by assumption) (by decide))⟩)
    · skip
      unfold mb_simple_177
      refine PP.ix (fun _ => ?_)
      refine PP.ite (fun c_4 => ?_) (fun c_4 => ?_)
      · skip
        exact mrj_simple_190 (F0 := F0) (R0 := R0) x2 (0 : Int32) F G g4 g5 (Or.inr ⟨rfl, h44, (by first | with_reducible rfl | (simp only [h43, i_as, fup, Nat.reduceEqDiff, reduceIte, if_false]) | rfl), (hR.trans (by first | with_reducible rfl | (simp only [rsimple, rsimple1, rsimple3, rsig, hx0, h43, i_as, fup, i_a0, i0m, i10, eq_self, rb_yes, rb_no, ryes, rno, if_true, if_false, f_tt (p := True), reduceIte, Nat.reduceEqDiff]) | rfl)), (by first | with_reducible rfl | assumption | (simp only [g4, g5, rsimple, rsimple1, rsimple3, rsig, hx0, h43, i_as, fup, i_a0, i0m, i10, eq_self, rb_yes, rb_no, ryes, rno, if_true, if_false, f_tt (p := True), reduceIte, Nat.reduceEqDiff]) | exact sgn_ne (by assumption) (by decide))⟩)
      · skip
        unfold mb_simple_186
        exact mrj_simple_191 (F0 := F0) (R0 := R0) x2 (0 : Int32) (1 : Int32) F G g4 g5 (Or.inr ⟨rfl, h44, (by first | with_reducible rfl | (simp only [h43, i_as, fup, Nat.reduceEqDiff, reduceIte, if_false]) | rfl), (hR.trans (by first | with_reducible rfl | (simp only [rsimple, rsimple1, rsimple3, rsig, hx0, h43, i_as, fup, i_a0, i0m, i10, eq_self, rb_yes, rb_no, ryes, rno, if_true, if_false, f_tt (p := True), reduceIte, Nat.reduceEqDiff]) | rfl)), (by first | with_reducible rfl | assumption | (simp only [g4, g5, rsimple, rsimple1, rsimple3, rsig, hx0, h43, i_as, fup, i_a0, i0m, i10, eq_self, rb_yes, rb_no, ryes, rno, if_true, if_false, f_tt (p := True), reduceIte, Nat.reduceEqDiff]) | exact sgn_ne (by assumption) (by decide))⟩)
theorem mrj_simple_149 {fu : Nat} {K V : Nat → Int32} {F0 : PF} {R0 : OR} (x1 : Int32) (x2 : Int32) (x3 : Int32) (x4 : Int32) (z0 : Int32) (F : PF) (G : PG) (g4 : G 4 = K) (g5 : G 5 = V) (hA : (x4 = 1 ∧ F 44 = 0 ∧ F 43 = F0 43 ∧ R0 = rsimple1 K V fu (F 42) (F 43) ∧ sgn K V (F 42) (24 : Int32) = true) ∨ (x4 = 0 ∧ F 44 = 0 ∧ F 43 = F0 43 ∧ R0 = rsimple1 K V fu (F 42) (F 43) ∧ sgn K V (F 42) (24 : Int32) = false)) : PP (mb_simple_149 fu x1 x2 x3 x4 z0 F G) (fun r' F' _ => ROK R0 F0 r' F') := by
  rcases hA with ⟨rfl, h44, h43, hR, hx0⟩ | ⟨rfl, h44, h43, hR, hx0⟩
  · skip
    unfold mb_simple_149
    refine PP.ite (fun c_1 => ?_) (fun c_1 => ?_)
    · skip
      unfold mb_simple_155
      refine PP.ite (fun c_2 => ?_) (fun c_2 => ?_)
      · skip
        have h_3 : z0 = (0 : Int32) := c_2
        have h_4 := eq_true h_3
        have w_5 : z0.toInt = 0 := i_eq.mp c_2
        unfold mb_simple_160
        refine PP.ix (fun _ => ?_)
        refine PP.bind (mw_note (6 : Int32) (G 6 x1.toNatClampNeg) F G) ?_
        intro r6 F6 G6 hK6
        dsimp only
        have g_7 : G6 4 = K := Eq.trans (hK6.2 4 rfl) g4
        have g_8 : G6 5 = V := Eq.trans (hK6.2 5 rfl) g5
        have q_9 : F6 42 = (F 42) := hK6.1 42 rfl
        have q_10 : F6 43 = (F0 43) := Eq.trans (hK6.1 43 rfl) (show (F 43) = (F0 43) by simp only [h43, i_as])
        have q_11 : F6 44 = 0 := Eq.trans (hK6.1 44 rfl) h44
        exact mrj_simple_172 (F0 := F0) (R0 := R0) x2 (1 : Int32) F6 G6 g_7 g_8 (Or.inl ⟨rfl, q_11, (by first | with_reducible rfl | (simp only [h43, q_9, q_10, i_as, fup, Nat.reduceEqDiff, reduceIte, if_false]) | rfl), (hR.trans (by first | with_reducible rfl | (simp only [rsimple, rsimple1, rsimple3, rsig, hx0, h_4, h43, q_9, q_10, i_as, fup, i_a0, i0m, i10, eq_self, rb_yes, rb_no, ryes, rno, if_true, if_false, f_tt (p := True), reduceIte, Nat.reduceEqDiff]) | rfl)), (by first | with_reducible rfl | assumption | (simp only [g_7, g_8, rsimple, rsimple1, rsimple3, rsig, hx0, h_4, h43, q_9, q_10, i_as, fup, i_a0, i0m, i10, eq_self, rb_yes, rb_no, ryes, rno, if_true, if_false, f_tt (p := True), reduceIte, Nat.reduceEqDiff]) | exact sgn_ne (by assumption) (by decide))⟩)
      · skip
        have h_12 : ¬ z0 = (0 : Int32) := c_2
        have w_13 : ¬ (z0.toInt = 0) := fun q => c_2 (i_eq.mpr q)
        exact mrj_simple_172 (F0 := F0) (R0 := R0) x2 (1 : Int32) F G g4 g5 (Or.inl ⟨rfl, h44, (by first | with_reducible rfl | (simp only [h43, i_as, fup, Nat.reduceEqDiff, reduceIte, if_false]) | rfl), (hR.trans (by first | with_reducible rfl | (simp only [rsimple, rsimple1, rsimple3, rsig, hx0, h_12, h43, i_as, fup, i_a0, i0m, i10, eq_self, rb_yes, rb_no, ryes, rno, if_true, if_false, f_tt (p := True), reduceIte, Nat.reduceEqDiff]) | rfl)), (by first | with_reducible rfl | assumption | (simp only [g4, g5, rsimple, rsimple1, rsimple3, rsig, hx0, h_12, h43, i_as, fup, i_a0, i0m, i10, eq_self, rb_yes, rb_no, ryes, rno, if_true, if_false, f_tt (p := True), reduceIte, Nat.reduceEqDiff]) | exact sgn_ne (by assumption) (by decide))⟩)
    · skip
      exact mrj_simple_172 (F0 := F0) (R0 := R0) x2 (1 : Int32) F G g4 g5 (Or.inl ⟨rfl, h44, (by first | with_reducible rfl | (simp only [h43, i_as, fup, Nat.reduceEqDiff, reduceIte, if_false]) | rfl), (hR.trans (by first | with_reducible rfl | (simp only [rsimple, rsimple1, rsimple3, rsig, hx0, h43, i_as, fup, i_a0, i0m, i10, eq_self, rb_yes, rb_no, ryes, rno, if_true, if_false, f_tt (p := True), reduceIte, Nat.reduceEqDiff]) | rfl)), (by first | with_reducible rfl | assumption | (simp only [g4, g5, rsimple, rsimple1, rsimple3, rsig, hx0, h43, i_as, fup, i_a0, i0m, i10, eq_self, rb_yes, rb_no, ryes, rno, if_true, if_false, f_tt (p := True), reduceIte, Nat.reduceEqDiff]) | exact sgn_ne (by assumption) (by decide))⟩)
  · skip
    unfold mb_simple_149
    refine PP.ite (fun c_14 => ?_) (fun c_14 => ?_)
    · skip
      unfold mb_simple_155
      refine PP.ite (fun c_15 => ?_) (fun c_15 => ?_)
      · skip
        have h_16 : z0 = (0 : Int32) := c_15
        have h_17 := eq_true h_16
        have w_18 : z0.toInt = 0 := i_eq.mp c_15
        unfold mb_simple_160
        refine PP.ix (fun _ => ?_)
        refine PP.bind (mw_note (6 : Int32) (G 6 x1.toNatClampNeg) F G) ?_
        intro r19 F19 G19 hK19
        dsimp only
        have g_20 : G19 4 = K := Eq.trans (hK19.2 4 rfl) g4
        have g_21 : G19 5 = V := Eq.trans (hK19.2 5 rfl) g5
        have q_22 : F19 42 = (F 42) := hK19.1 42 rfl
        have q_23 : F19 43 = (F0 43) := Eq.trans (hK19.1 43 rfl) (show (F 43) = (F0 43) by simp only [h43, i_as])
        have q_24 : F19 44 = 0 := Eq.trans (hK19.1 44 rfl) h44
        exact mrj_simple_172 (F0 := F0) (R0 := R0) x2 (0 : Int32) F19 G19 g_20 g_21 (Or.inr ⟨rfl, q_24, (by first | with_reducible rfl | (simp only [h43, q_22, q_23, i_as, fup, Nat.reduceEqDiff, reduceIte, if_false]) | rfl), (hR.trans (by first | with_reducible rfl | (simp only [rsimple, rsimple1, rsimple3, rsig, hx0, h_17, h43, q_22, q_23, i_as, fup, i_a0, i0m, i10, eq_self, rb_yes, rb_no, ryes, rno, if_true, if_false, f_tt (p := True), reduceIte, Nat.reduceEqDiff]) | rfl)), (by first | with_reducible rfl | assumption | (simp only [g_20, g_21, rsimple, rsimple1, rsimple3, rsig, hx0, h_17, h43, q_22, q_23, i_as, fup, i_a0, i0m, i10, eq_self, rb_yes, rb_no, ryes, rno, if_true, if_false, f_tt (p := True), reduceIte, Nat.reduceEqDiff]) | exact sgn_ne (by assumption) (by decide))⟩)
      · skip
        have h_25 : ¬ z0 = (0 : Int32) := c_15
        have w_26 : ¬ (z0.toInt = 0) := fun q => c_15 (i_eq.mpr q)
        exact mrj_simple_172 (F0 := F0) (R0 := R0) x2 (0 : Int32) F G g4 g5 (Or.inr ⟨rfl, h44, (by first | with_reducible rfl | (simp only [h43, i_as, fup, Nat.reduceEqDiff, reduceIte, if_false]) | rfl), (hR.trans (by first | with_reducible rfl | (simp only [rsimple, rsimple1, rsimple3, rsig, hx0, h_25, h43, i_as, fup, i_a0, i0m, i10, eq_self, rb_yes, rb_no, ryes, rno, if_true, if_false, f_tt (p := True), reduceIte, Nat.reduceEqDiff]) | rfl)), (by first | with_reducible rfl | assumption | (simp only [g4, g5, rsimple, rsimple1, rsimple3, rsig, hx0, h_25, h43, i_as, fup, i_a0, i0m, i10, eq_self, rb_yes, rb_no, ryes, rno, if_true, if_false, f_tt (p := True), reduceIte, Nat.reduceEqDiff]) | exact sgn_ne (by assumption) (by decide))⟩)
    · skip
      exact mrj_simple_172 (F0 := F0) (R0 := R0) x2 (0 : Int32) F G g4 g5 (Or.inr ⟨rfl, h44, (by first | with_reducible rfl | (simp only [h43, i_as, fup, Nat.reduceEqDiff, reduceIte, if_false]) | rfl), (hR.trans (by first | with_reducible rfl | (simp only [rsimple, rsimple1, rsimple3, rsig, hx0, h43, i_as, fup, i_a0, i0m, i10, eq_self, rb_yes, rb_no, ryes, rno, if_true, if_false, f_tt (p := True), reduceIte, Nat.reduceEqDiff]) | rfl)), (by first | with_reducible rfl | assumption | (simp only [g4, g5, rsimple, rsimple1, rsimple3, rsig, hx0, h43, i_as, fup, i_a0, i0m, i10, eq_self, rb_yes, rb_no, ryes, rno, if_true, if_false, f_tt (p := True), reduceIte, Nat.reduceEqDiff]) | exact sgn_ne (by assumption) (by decide))⟩)
theorem mrj_simple_148 {fu : Nat} {K V : Nat → Int32} {F0 : PF} {R0 : OR} (x1 : Int32) (x2 : Int32) (x3 : Int32) (x4 : Int32) (F : PF) (G : PG) (g4 : G 4 = K) (g5 : G 5 = V) (hA : (x4 = 1 ∧ F 44 = 0 ∧ F 43 = F0 43 ∧ R0 = rsimple1 K V fu (F 42) (F 43) ∧ sgn K V (F 42) (24 : Int32) = true) ∨ (x4 = 0 ∧ F 44 = 0 ∧ F 43 = F0 43 ∧ R0 = rsimple1 K V fu (F 42) (F 43) ∧ sgn K V (F 42) (24 : Int32) = false)) : PP (mb_simple_148 fu x1 x2 x3 x4 F G) (fun r' F' _ => ROK R0 F0 r' F') := by
  rcases hA with ⟨rfl, h44, h43, hR, hx0⟩ | ⟨rfl, h44, h43, hR, hx0⟩
  · skip
    unfold mb_simple_148
    exact mrj_simple_149 (F0 := F0) (R0 := R0) x1 x2 x3 (1 : Int32) (0 : Int32) F G g4 g5 (Or.inl ⟨rfl, h44, (by first | with_reducible rfl | (simp only [h43, i_as, fup, Nat.reduceEqDiff, reduceIte, if_false]) | rfl), (hR.trans (by first | with_reducible rfl | (simp only [rsimple, rsimple1, rsimple3, rsig, hx0, h43, i_as, fup, i_a0, i0m, i10, eq_self, rb_yes, rb_no, ryes, rno, if_true, if_false, f_tt (p := True), reduceIte, Nat.reduceEqDiff]) | rfl)), (by first | with_reducible rfl | assumption | (simp only [g4, g5, rsimple, rsimple1, rsimple3, rsig, hx0, h43, i_as, fup, i_a0, i0m, i10, eq_self, rb_yes, rb_no, ryes, rno, if_true, if_false, f_tt (p := True), reduceIte, Nat.reduceEqDiff]) | exact sgn_ne (by assumption) (by decide))⟩)
  · skip
    unfold mb_simple_148
    exact mrj_simple_149 (F0 := F0) (R0 := R0) x1 x2 x3 (0 : Int32) (0 : Int32) F G g4 g5 (Or.inr ⟨rfl, h44, (by first | with_reducible rfl | (simp only [h43, i_as, fup, Nat.reduceEqDiff, reduceIte, if_false]) | rfl), (hR.trans (by first | with_reducible rfl | (simp only [rsimple, rsimple1, rsimple3, rsig, hx0, h43, i_as, fup, i_a0, i0m, i10, eq_self, rb_yes, rb_no, ryes, rno, if_true, if_false, f_tt (p := True), reduceIte, Nat.reduceEqDiff]) | rfl)), (by first | with_reducible rfl | assumption | (simp only [g4, g5, rsimple, rsimple1, rsimple3, rsig, hx0, h43, i_as, fup, i_a0, i0m, i10, eq_self, rb_yes, rb_no, ryes, rno, if_true, if_false, f_tt (p := True), reduceIte, Nat.reduceEqDiff]) | exact sgn_ne (by assumption) (by decide))⟩)
theorem mrj_simple_144 {fu : Nat} {K V : Nat → Int32} {F0 : PF} {R0 : OR} (x1 : Int32) (x2 : Int32) (x3 : Int32) (x4 : Int32) (F : PF) (G : PG) (g4 : G 4 = K) (g5 : G 5 = V) (hA : (x4 = 1 ∧ F 44 = 0 ∧ F 43 = F0 43 ∧ R0 = rsimple1 K V fu (F 42) (F 43) ∧ sgn K V (F 42) (24 : Int32) = true) ∨ (x4 = 0 ∧ F 44 = 0 ∧ F 43 = F0 43 ∧ R0 = rsimple1 K V fu (F 42) (F 43) ∧ sgn K V (F 42) (24 : Int32) = false)) : PP (mb_simple_144 fu x1 x2 x3 x4 F G) (fun r' F' _ => ROK R0 F0 r' F') := by
  rcases hA with ⟨rfl, h44, h43, hR, hx0⟩ | ⟨rfl, h44, h43, hR, hx0⟩
  · skip
    unfold mb_simple_144
    exact mrj_simple_149 (F0 := F0) (R0 := R0) x1 x2 x3 (1 : Int32) (1 : Int32) F G g4 g5 (Or.inl ⟨rfl, h44, (by first | with_reducible rfl | (simp only [h43, i_as, fup, Nat.reduceEqDiff, reduceIte, if_false]) | rfl), (hR.trans (by first | with_reducible rfl | (simp only [rsimple, rsimple1, rsimple3, rsig, hx0, h43, i_as, fup, i_a0, i0m, i10, eq_self, rb_yes, rb_no, ryes, rno, if_true, if_false, f_tt (p := True), reduceIte, Nat.reduceEqDiff]) | rfl)), (by first | with_reducible rfl | assumption | (simp only [g4, g5, rsimple, rsimple1, rsimple3, rsig, hx0, h43, i_as, fup, i_a0, i0m, i10, eq_self, rb_yes, rb_no, ryes, rno, if_true, if_false, f_tt (p := True), reduceIte, Nat.reduceEqDiff]) | exact sgn_ne (by assumption) (by decide))⟩)
  · skip
    unfold mb_simple_144
    exact mrj_simple_149 (F0 := F0) (R0 := R0) x1 x2 x3 (0 : Int32) (1 : Int32) F G g4 g5 (Or.inr ⟨rfl, h44, (by first | with_reducible rfl | (simp only [h43, i_as, fup, Nat.reduceEqDiff, reduceIte, if_false]) | rfl), (hR.trans (by first | with_reducible rfl | (simp only [rsimple, rsimple1, rsimple3, rsig, hx0, h43, i_as, fup, i_a0, i0m, i10, eq_self, rb_yes, rb_no, ryes, rno, if_true, if_false, f_tt (p := True), reduceIte, Nat.reduceEqDiff]) | rfl)), (by first | with_reducible rfl | assumption | (simp only [g4, g5, rsimple, rsimple1, rsimple3, rsig, hx0, h43, i_as, fup, i_a0, i0m, i10, eq_self, rb_yes, rb_no, ryes, rno, if_true, if_false, f_tt (p := True), reduceIte, Nat.reduceEqDiff]) | exact sgn_ne (by assumption) (by decide))⟩)
theorem mrj_simple_111 {fu : Nat} {K V : Nat → Int32} {F0 : PF} {R0 : OR} (x1 : Int32) (x2 : Int32) (x3 : Int32) (x4 : Int32) (F : PF) (G : PG) (g4 : G 4 = K) (g5 : G 5 = V) (hA : (x4 = 1 ∧ F 44 = 0 ∧ F 43 = F0 43 ∧ R0 = rsimple1 K V fu (F 42) (F 43) ∧ sgn K V (F 42) (24 : Int32) = true) ∨ (x4 = 0 ∧ F 44 = 0 ∧ F 43 = F0 43 ∧ R0 = rsimple1 K V fu (F 42) (F 43) ∧ sgn K V (F 42) (24 : Int32) = false)) : PP (mb_simple_111 fu x1 x2 x3 x4 F G) (fun r' F' _ => ROK R0 F0 r' F') := by
  rcases hA with ⟨rfl, h44, h43, hR, hx0⟩ | ⟨rfl, h44, h43, hR, hx0⟩
  · skip
    unfold mb_simple_111
    refine PP.ite (fun c_1 => ?_) (fun c_1 => ?_)
    · skip
      exact mrj_simple_148 (F0 := F0) (R0 := R0) x1 x2 x3 (1 : Int32) F G g4 g5 (Or.inl ⟨rfl, h44, (by first | with_reducible rfl | (simp only [h43, i_as, fup, Nat.reduceEqDiff, reduceIte, if_false]) | rfl), (hR.trans (by first | with_reducible rfl | (simp only [rsimple, rsimple1, rsimple3, rsig, hx0, h43, i_as, fup, i_a0, i0m, i10, eq_self, rb_yes, rb_no, ryes, rno, if_true, if_false, f_tt (p := True), reduceIte, Nat.reduceEqDiff]) | rfl)), (by first | with_reducible rfl | assumption | (simp only [g4, g5, rsimple, rsimple1, rsimple3, rsig, hx0, h43, i_as, fup, i_a0, i0m, i10, eq_self, rb_yes, rb_no, ryes, rno, if_true, if_false, f_tt (p := True), reduceIte, Nat.reduceEqDiff]) | exact sgn_ne (by assumption) (by decide))⟩)
    · skip
      unfold mb_simple_116
      refine PP.ite (fun c_2 => absurd c_2 (by decide)) (fun _ => ?_)
      unfold mb_simple_121
      refine PP.ix (fun _ => ?_)
      refine PP.ite (fun c_3 => ?_) (fun c_3 => ?_)
      · skip
        unfold mb_simple_131
        exact mrj_simple_144 (F0 := F0) (R0 := R0) x1 x2 x3 (1 : Int32) F G g4 g5 (Or.inl ⟨rfl, h44, (by first | with_reducible rfl | (simp only [h43, i_as, fup, Nat.reduceEqDiff, reduceIte, if_false]) | rfl), (hR.trans (by first | with_reducible rfl | (simp only [rsimple, rsimple1, rsimple3, rsig, hx0, h43, i_as, fup, i_a0, i0m, i10, eq_self, rb_yes, rb_no, ryes, rno, if_true, if_false, f_tt (p := True), reduceIte, Nat.reduceEqDiff]) | rfl)), (by first | with_reducible rfl | assumption | (simp only [g4, g5, rsimple, rsimple1, rsimple3, rsig, hx0, h43, i_as, fup, i_a0, i0m, i10, eq_self, rb_yes, rb_no, ryes, rno, if_true, if_false, f_tt (p := True), reduceIte, Nat.reduceEqDiff]) | exact sgn_ne (by assumption) (by decide))⟩)
      · skip
        exact mrj_simple_148 (F0 := F0) (R0 := R0) x1 x2 x3 (1 : Int32) F G g4 g5 (Or.inl ⟨rfl, h44, (by first | with_reducible rfl | (simp only [h43, i_as, fup, Nat.reduceEqDiff, reduceIte, if_false]) | rfl), (hR.trans (by first | with_reducible rfl | (simp only [rsimple, rsimple1, rsimple3, rsig, hx0, h43, i_as, fup, i_a0, i0m, i10, eq_self, rb_yes, rb_no, ryes, rno, if_true, if_false, f_tt (p := True), reduceIte, Nat.reduceEqDiff]) | rfl)), (by first | with_reducible rfl | assumption | (simp only [g4, g5, rsimple, rsimple1, rsimple3, rsig, hx0, h43, i_as, fup, i_a0, i0m, i10, eq_self, rb_yes, rb_no, ryes, rno, if_true, if_false, f_tt (p := True), reduceIte, Nat.reduceEqDiff]) | exact sgn_ne (by assumption) (by decide))⟩)
  · skip
    unfold mb_simple_111
    refine PP.ite (fun c_4 => ?_) (fun c_4 => ?_)
    · skip
      exact mrj_simple_148 (F0 := F0) (R0 := R0) x1 x2 x3 (0 : Int32) F G g4 g5 (Or.inr ⟨rfl, h44, (by first | with_reducible rfl | (simp only [h43, i_as, fup, Nat.reduceEqDiff, reduceIte, if_false]) | rfl), (hR.trans (by first | with_reducible rfl | (simp only [rsimple, rsimple1, rsimple3, rsig, hx0, h43, i_as, fup, i_a0, i0m, i10, eq_self, rb_yes, rb_no, ryes, rno, if_true, if_false, f_tt (p := True), reduceIte, Nat.reduceEqDiff]) | rfl)), (by first | with_reducible rfl | assumption | (simp only [g4, g5, rsimple, rsimple1, rsimple3, rsig, hx0, h43, i_as, fup, i_a0, i0m, i10, eq_self, rb_yes, rb_no, ryes, rno, if_true, if_false, f_tt (p := True), reduceIte, Nat.reduceEqDiff]) | exact sgn_ne (by assumption) (by decide))⟩)
    · skip
      unfold mb_simple_116
      refine PP.ite (fun _ => ?_) (fun c_5 => absurd (by decide) c_5)
      unfold mb_simple_134
      refine PP.ix (fun _ => ?_)
      refine PP.ite (fun c_6 => ?_) (fun c_6 => ?_)
      · skip
        exact mrj_simple_144 (F0 := F0) (R0 := R0) x1 x2 x3 (0 : Int32) F G g4 g5 (Or.inr ⟨rfl, h44, (by first | with_reducible rfl | (simp only [h43, i_as, fup, Nat.reduceEqDiff, reduceIte, if_false]) | rfl), (hR.trans (by first | with_reducible rfl | (simp only [rsimple, rsimple1, rsimple3, rsig, hx0, h43, i_as, fup, i_a0, i0m, i10, eq_self, rb_yes, rb_no, ryes, rno, if_true, if_false, f_tt (p := True), reduceIte, Nat.reduceEqDiff]) | rfl)), (by first | with_reducible rfl | assumption | (simp only [g4, g5, rsimple, rsimple1, rsimple3, rsig, hx0, h43, i_as, fup, i_a0, i0m, i10, eq_self, rb_yes, rb_no, ryes, rno, if_true, if_false, f_tt (p := True), reduceIte, Nat.reduceEqDiff]) | exact sgn_ne (by assumption) (by decide))⟩)
      · skip
        exact mrj_simple_148 (F0 := F0) (R0 := R0) x1 x2 x3 (0 : Int32) F G g4 g5 (Or.inr ⟨rfl, h44, (by first | with_reducible rfl | (simp only [h43, i_as, fup, Nat.reduceEqDiff, reduceIte, if_false]) | rfl), (hR.trans (by first | with_reducible rfl | (simp only [rsimple, rsimple1, rsimple3, rsig, hx0, h43, i_as, fup, i_a0, i0m, i10, eq_self, rb_yes, rb_no, ryes, rno, if_true, if_false, f_tt (p := True), reduceIte, Nat.reduceEqDiff]) | rfl)), (by first | with_reducible rfl | assumption | (simp only [g4, g5, rsimple, rsimple1, rsimple3, rsig, hx0, h43, i_as, fup, i_a0, i0m, i10, eq_self, rb_yes, rb_no, ryes, rno, if_true, if_false, f_tt (p := True), reduceIte, Nat.reduceEqDiff]) | exact sgn_ne (by assumption) (by decide))⟩)
theorem mrj_simple_87 {fu : Nat} {K V : Nat → Int32} {F0 : PF} {R0 : OR} (x1 : Int32) (x2 : Int32) (z0 : Int32) (F : PF) (G : PG) (g4 : G 4 = K) (g5 : G 5 = V) (hA : (F 44 = 0 ∧ F 43 = F0 43 ∧ R0 = rsimple1 K V fu (F 42) (F 43))) : PP (mb_simple_87 fu x1 x2 z0 F G) (fun r' F' _ => ROK R0 F0 r' F') := by
  rcases hA with ⟨h44, h43, hR⟩
  · skip
    unfold mb_simple_87
    refine PP.bind (mp_isSign (24 : Int32) F G) ?_
    rintro _ _ _ ⟨rfl, rfl, (⟨rfl, u1⟩ | ⟨rfl, u1⟩)⟩
    · dsimp only
      have h_2 : sgn K V (F 42) (24 : Int32) = true := by
        rw [← g4, ← g5]
        have q := u1
        first | exact q | (simp only [h43, i_as] at q; exact q)
      unfold mb_simple_94
      refine PP.ite (fun c_3 => ?_) (fun c_3 => ?_)
      · skip
        have h_4 : z0 = (0 : Int32) := c_3
        have h_5 := eq_true h_4
        have w_6 : z0.toInt = 0 := i_eq.mp c_3
        exact mrj_simple_111 (F0 := F0) (R0 := R0) x1 x2 z0 (1 : Int32) F G g4 g5 (Or.inl ⟨rfl, h44, (by first | with_reducible rfl | (simp only [h43, i_as, fup, Nat.reduceEqDiff, reduceIte, if_false]) | rfl), (hR.trans (by first | with_reducible rfl | (simp only [rsimple, rsimple1, rsimple3, rsig, h_2, h_5, h43, i_as, fup, i_a0, i0m, i10, eq_self, rb_yes, rb_no, ryes, rno, if_true, if_false, f_tt (p := True), reduceIte, Nat.reduceEqDiff]) | rfl)), (by first | with_reducible rfl | assumption | (simp only [g4, g5, rsimple, rsimple1, rsimple3, rsig, h_2, h_5, h43, i_as, fup, i_a0, i0m, i10, eq_self, rb_yes, rb_no, ryes, rno, if_true, if_false, f_tt (p := True), reduceIte, Nat.reduceEqDiff]) | exact sgn_ne (by assumption) (by decide))⟩)
      · skip
        have h_7 : ¬ z0 = (0 : Int32) := c_3
        have w_8 : ¬ (z0.toInt = 0) := fun q => c_3 (i_eq.mpr q)
        unfold mb_simple_100
        refine PP.ix (fun _ => ?_)
        refine PP.bind (mw_note (4 : Int32) (G 6 x1.toNatClampNeg) F G) ?_
        intro r9 F9 G9 hK9
        dsimp only
        have g_10 : G9 4 = K := Eq.trans (hK9.2 4 rfl) g4
        have g_11 : G9 5 = V := Eq.trans (hK9.2 5 rfl) g5
        have q_12 : F9 42 = (F 42) := hK9.1 42 rfl
        have q_13 : F9 43 = (F0 43) := Eq.trans (hK9.1 43 rfl) (show (F 43) = (F0 43) by simp only [h43, i_as])
        have q_14 : F9 44 = 0 := Eq.trans (hK9.1 44 rfl) h44
        exact mrj_simple_111 (F0 := F0) (R0 := R0) x1 x2 z0 (1 : Int32) F9 G9 g_10 g_11 (Or.inl ⟨rfl, q_14, (by first | with_reducible rfl | (simp only [h43, q_12, q_13, i_as, fup, Nat.reduceEqDiff, reduceIte, if_false]) | rfl), (hR.trans (by first | with_reducible rfl | (simp only [rsimple, rsimple1, rsimple3, rsig, h_2, h_7, h43, q_12, q_13, i_as, fup, i_a0, i0m, i10, eq_self, rb_yes, rb_no, ryes, rno, if_true, if_false, f_tt (p := True), reduceIte, Nat.reduceEqDiff]) | rfl)), (by first | with_reducible rfl | assumption | (simp only [g_10, g_11, rsimple, rsimple1, rsimple3, rsig, h_2, h_7, h43, q_12, q_13, i_as, fup, i_a0, i0m, i10, eq_self, rb_yes, rb_no, ryes, rno, if_true, if_false, f_tt (p := True), reduceIte, Nat.reduceEqDiff]) | exact sgn_ne (by assumption) (by decide))⟩)
    · dsimp only
      have h_15 : sgn K V (F 42) (24 : Int32) = false := by
        rw [← g4, ← g5]
        have q := u1
        first | exact q | (simp only [h43, i_as] at q; exact q)
      unfold mb_simple_94
      refine PP.ite (fun c_16 => ?_) (fun c_16 => ?_)
      · skip
        have h_17 : z0 = (0 : Int32) := c_16
        have h_18 := eq_true h_17
        have w_19 : z0.toInt = 0 := i_eq.mp c_16
        exact mrj_simple_111 (F0 := F0) (R0 := R0) x1 x2 z0 (0 : Int32) F G g4 g5 (Or.inr ⟨rfl, h44, (by first | with_reducible rfl | (simp only [h43, i_as, fup, Nat.reduceEqDiff, reduceIte, if_false]) | rfl), (hR.trans (by first | with_reducible rfl | (simp only [rsimple, rsimple1, rsimple3, rsig, h_15, h_18, h43, i_as, fup, i_a0, i0m, i10, eq_self, rb_yes, rb_no, ryes, rno, if_true, if_false, f_tt (p := True), reduceIte, Nat.reduceEqDiff]) | rfl)), (by first | with_reducible rfl | assumption | (simp only [g4, g5, rsimple, rsimple1, rsimple3, rsig, h_15, h_18, h43, i_as, fup, i_a0, i0m, i10, eq_self, rb_yes, rb_no, ryes, rno, if_true, if_false, f_tt (p := True), reduceIte, Nat.reduceEqDiff]) | exact sgn_ne (by assumption) (by decide))⟩)
      · skip
        have h_20 : ¬ z0 = (0 : Int32) := c_16
        have w_21 : ¬ (z0.toInt = 0) := fun q => c_16 (i_eq.mpr q)
        unfold mb_simple_100
        refine PP.ix (fun _ => ?_)
        refine PP.bind (mw_note (4 : Int32) (G 6 x1.toNatClampNeg) F G) ?_
        intro r22 F22 G22 hK22
        dsimp only
        have g_23 : G22 4 = K := Eq.trans (hK22.2 4 rfl) g4
        have g_24 : G22 5 = V := Eq.trans (hK22.2 5 rfl) g5
        have q_25 : F22 42 = (F 42) := hK22.1 42 rfl
        have q_26 : F22 43 = (F0 43) := Eq.trans (hK22.1 43 rfl) (show (F 43) = (F0 43) by simp only [h43, i_as])
        have q_27 : F22 44 = 0 := Eq.trans (hK22.1 44 rfl) h44
        exact mrj_simple_111 (F0 := F0) (R0 := R0) x1 x2 z0 (0 : Int32) F22 G22 g_23 g_24 (Or.inr ⟨rfl, q_27, (by first | with_reducible rfl | (simp only [h43, q_25, q_26, i_as, fup, Nat.reduceEqDiff, reduceIte, if_false]) | rfl), (hR.trans (by first | with_reducible rfl | (simp only [rsimple, rsimple1, rsimple3, rsig, h_15, h_20, h43, q_25, q_26, i_as, fup, i_a0, i0m, i10, eq_self, rb_yes, rb_no, ryes, rno, if_true, if_false, f_tt (p := True), reduceIte, Nat.reduceEqDiff]) | rfl)), (by first | with_reducible rfl | assumption | (simp only [g_23, g_24, rsimple, rsimple1, rsimple3, rsig, h_15, h_20, h43, q_25, q_26, i_as, fup, i_a0, i0m, i10, eq_self, rb_yes, rb_no, ryes, rno, if_true, if_false, f_tt (p := True), reduceIte, Nat.reduceEqDiff]) | exact sgn_ne (by assumption) (by decide))⟩)
theorem mrj_simple_86 {fu : Nat} {K V : Nat → Int32} {F0 : PF} {R0 : OR} (x1 : Int32) (x2 : Int32) (F : PF) (G : PG) (g4 : G 4 = K) (g5 : G 5 = V) (hA : (F 44 = 0 ∧ F 43 = F0 43 ∧ R0 = rsimple1 K V fu (F 42) (F 43))) : PP (mb_simple_86 fu x1 x2 F G) (fun r' F' _ => ROK R0 F0 r' F') := by
  rcases hA with ⟨h44, h43, hR⟩
  · skip
    unfold mb_simple_86
    exact mrj_simple_87 (F0 := F0) (R0 := R0) x1 x2 (0 : Int32) F G g4 g5 ⟨h44, (by first | with_reducible rfl | (simp only [h43, i_as, fup, Nat.reduceEqDiff, reduceIte, if_false]) | rfl), (hR.trans (by first | with_reducible rfl | (simp only [rsimple, rsimple1, rsimple3, rsig, h43, i_as, fup, i_a0, i0m, i10, eq_self, rb_yes, rb_no, ryes, rno, if_true, if_false, f_tt (p := True), reduceIte, Nat.reduceEqDiff]) | rfl))⟩
theorem mrj_simple_61 {fu : Nat} {K V : Nat → Int32} {F0 : PF} {R0 : OR} (x1 : Int32) (z0 : Int32) (F : PF) (G : PG) (g4 : G 4 = K) (g5 : G 5 = V) (hA : (F 44 = 0 ∧ F 43 = F0 43 ∧ R0 = rsimple1 K V fu (F 42) (F 43))) : PP (mb_simple_61 fu x1 z0 F G) (fun r' F' _ => ROK R0 F0 r' F') := by
  rcases hA with ⟨h44, h43, hR⟩
  · skip
    unfold mb_simple_61
    refine PP.ite (fun c_1 => ?_) (fun c_1 => ?_)
    · skip
      exact mrj_simple_86 (F0 := F0) (R0 := R0) x1 z0 F G g4 g5 ⟨h44, (by first | with_reducible rfl | (simp only [h43, i_as, fup, Nat.reduceEqDiff, reduceIte, if_false]) | rfl), (hR.trans (by first | with_reducible rfl | (simp only [rsimple, rsimple1, rsimple3, rsig, h43, i_as, fup, i_a0, i0m, i10, eq_self, rb_yes, rb_no, ryes, rno, if_true, if_false, f_tt (p := True), reduceIte, Nat.reduceEqDiff]) | rfl))⟩
    · skip
      unfold mb_simple_69
      refine PP.ite (fun c_2 => ?_) (fun c_2 => ?_)
      · skip
        have h_3 : z0 = (-1 : Int32) := c_2
        have h_4 := eq_true h_3
        have w_5 : z0.toInt = -1 := i_eq.mp c_2
        unfold mb_simple_74
        refine PP.ite (fun c_6 => ?_) (fun c_6 => ?_)
        · skip
          unfold mb_simple_82
          exact mrj_simple_87 (F0 := F0) (R0 := R0) x1 z0 (1 : Int32) F G g4 g5 ⟨h44, (by first | with_reducible rfl | (simp only [h43, i_as, fup, Nat.reduceEqDiff, reduceIte, if_false]) | rfl), (hR.trans (by first | with_reducible rfl | (simp only [rsimple, rsimple1, rsimple3, rsig, h_4, h43, i_as, fup, i_a0, i0m, i10, eq_self, rb_yes, rb_no, ryes, rno, if_true, if_false, f_tt (p := True), reduceIte, Nat.reduceEqDiff]) | rfl))⟩
        · skip
          exact mrj_simple_86 (F0 := F0) (R0 := R0) x1 z0 F G g4 g5 ⟨h44, (by first | with_reducible rfl | (simp only [h43, i_as, fup, Nat.reduceEqDiff, reduceIte, if_false]) | rfl), (hR.trans (by first | with_reducible rfl | (simp only [rsimple, rsimple1, rsimple3, rsig, h_4, h43, i_as, fup, i_a0, i0m, i10, eq_self, rb_yes, rb_no, ryes, rno, if_true, if_false, f_tt (p := True), reduceIte, Nat.reduceEqDiff]) | rfl))⟩
      · skip
        have h_7 : ¬ z0 = (-1 : Int32) := c_2
        have w_8 : ¬ (z0.toInt = -1) := fun q => c_2 (i_eq.mpr q)
        exact mrj_simple_86 (F0 := F0) (R0 := R0) x1 z0 F G g4 g5 ⟨h44, (by first | with_reducible rfl | (simp only [h43, i_as, fup, Nat.reduceEqDiff, reduceIte, if_false]) | rfl), (hR.trans (by first | with_reducible rfl | (simp only [rsimple, rsimple1, rsimple3, rsig, h_7, h43, i_as, fup, i_a0, i0m, i10, eq_self, rb_yes, rb_no, ryes, rno, if_true, if_false, f_tt (p := True), reduceIte, Nat.reduceEqDiff]) | rfl))⟩
theorem mr_simple {fu : Nat} {K V : Nat → Int32} (F : PF) (G : PG) (g4 : G 4 = K) (g5 : G 5 = V) (h44 : F 44 = 0) : PP (mf_simple fu F G) (fun r' F' _ => ROK (rsimple K V fu (F 42) (F 43)) F r' F') := by
  unfold mf_simple
  unfold mb_simple_0
  refine PP.bind (mp_name F G) ?_
  rintro r1 F1 G1 (⟨rfl, rfl, rfl, u1⟩ | ⟨rfl, u1, u1b⟩)
  · dsimp only
    have h_2 : K (F 42).toNatClampNeg = 1 := by
      rw [← g4]
      have q := u1.1
      first | exact q | (simp only [i_as] at q; exact q)
    have h_3 := eq_true h_2
    unfold mb_simple_4
    refine PP.ite (fun c_4 => ?_) (fun c_4 => ?_)
    · skip
      unfold mb_simple_14
      refine PP.bind (mp_isSign (22 : Int32) (fup F 42 ((F 42) + (1 : Int32))) G) ?_
      rintro _ _ _ ⟨rfl, rfl, (⟨rfl, u5⟩ | ⟨rfl, u5⟩)⟩
      · dsimp only
        have h_6 : sgn K V ((F 42) + (1 : Int32)) (22 : Int32) = true := by
          rw [← g4, ← g5]
          have q := u5
          first | exact q | (simp only [i_as] at q; exact q)
        unfold mb_simple_20
        refine PP.ite (fun c_7 => absurd c_7 (by decide)) (fun _ => ?_)
        unfold mb_simple_23
        refine PP.bind (PP.and (mw_call (((F 42) + (1 : Int32)) - (1 : Int32)) (0 : Int32) (fup F 42 ((F 42) + (1 : Int32))) G) (mr_call (((F 42) + (1 : Int32)) - (1 : Int32)) (0 : Int32) (fup F 42 ((F 42) + (1 : Int32))) G g4 g5 (show (fup F 42 ((F 42) + (1 : Int32))) 44 = 0 from h44))) ?_
        rintro r8 F8 G8 ⟨hK8, (⟨rfl, u8a, u8b, u8⟩ | ⟨rfl, u8a, u8⟩)⟩
        · dsimp only
          have g_9 : G8 4 = K := Eq.trans (hK8.2 4 rfl) g4
          have g_10 : G8 5 = V := Eq.trans (hK8.2 5 rfl) g5
          have h_11 : rS1 K V fu 300 1 ((F 42) + (1 : Int32)) (F 43) = some (some (F8 42)) := u8
          have q_12 : F8 43 = (F 43) := (show F8 43 = (F 43) from u8b)
          unfold mb_simple_29
          refine PP.ite (fun c_13 => absurd c_13 (by decide)) (fun _ => ?_)
          unfold mb_simple_34
          refine PP.bind (mw_step (18 : Int32) (0 : Int32) (0 : Int32) F8 G8) ?_
          intro r14 F14 G14 hK14
          dsimp only
          have g_15 : G14 4 = K := Eq.trans (hK14.2 4 rfl) g_9
          have g_16 : G14 5 = V := Eq.trans (hK14.2 5 rfl) g_10
          have q_17 : F14 42 = (F8 42) := hK14.1 42 rfl
          have q_18 : F14 43 = (F 43) := Eq.trans (hK14.1 43 rfl) (show (F8 43) = (F 43) by simp only [q_12, i_as])
          have q_19 : F14 44 = 0 := Eq.trans (hK14.1 44 rfl) u8a
          unfold mb_simple_42
          refine PP.ret ?_
          refine Or.inl ⟨rfl, q_19, ?_, (rfl : (rsimple K V fu (F 42) (F 43)) = _).trans ?_⟩
          · show (F14 43) = F 43
            first | with_reducible rfl | (simp only [q_12, q_17, q_18, i_as, fup, Nat.reduceEqDiff, reduceIte, if_false]) | rfl
          · show _ = some (some (F14 42))
            first | with_reducible rfl | (simp only [rsimple, rsimple1, rsimple3, rsig, h_3, h_6, h_11, q_12, q_17, q_18, i_as, fup, i_a0, i0m, i10, eq_self, rb_yes, rb_no, ryes, rno, if_true, if_false, f_tt (p := True), reduceIte, Nat.reduceEqDiff]) | rfl
        · dsimp only
          have g_20 : G8 4 = K := Eq.trans (hK8.2 4 rfl) g4
          have g_21 : G8 5 = V := Eq.trans (hK8.2 5 rfl) g5
          have h_22 : rS1 K V fu 300 1 ((F 42) + (1 : Int32)) (F 43) = some (none) := u8
          unfold mb_simple_29
          refine PP.ite (fun _ => ?_) (fun c_23 => absurd (by decide) c_23)
          unfold mb_simple_32
          refine PP.ret ?_
          refine Or.inr ⟨rfl, u8a, (rfl : (rsimple K V fu (F 42) (F 43)) = _).trans ?_⟩
          first | with_reducible rfl | (simp only [rsimple, rsimple1, rsimple3, rsig, h_3, h_6, h_22, i_as, fup, i_a0, i0m, i10, eq_self, rb_yes, rb_no, ryes, rno, if_true, if_false, f_tt (p := True), reduceIte, Nat.reduceEqDiff]) | rfl
      · dsimp only
        have h_24 : sgn K V ((F 42) + (1 : Int32)) (22 : Int32) = false := by
          rw [← g4, ← g5]
          have q := u5
          first | exact q | (simp only [i_as] at q; exact q)
        unfold mb_simple_20
        refine PP.ite (fun _ => ?_) (fun c_25 => absurd (by decide) c_25)
        unfold mb_simple_45
        refine PP.ite (fun c_26 => ?_) (fun c_26 => ?_)
        · skip
          unfold mb_simple_52
          exact mrj_simple_61 (F0 := F) (R0 := (rsimple K V fu (F 42) (F 43))) (((F 42) + (1 : Int32)) - (1 : Int32)) (-1 : Int32) (fup F 42 ((F 42) + (1 : Int32))) G g4 g5 ⟨h44, (by first | with_reducible rfl | (simp only [i_as, fup, Nat.reduceEqDiff, reduceIte, if_false]) | rfl), ((rfl : (rsimple K V fu (F 42) (F 43)) = _).trans (by first | with_reducible rfl | (simp only [rsimple, rsimple1, rsimple3, rsig, h_3, h_24, i_as, fup, i_a0, i0m, i10, eq_self, rb_yes, rb_no, ryes, rno, if_true, if_false, f_tt (p := True), reduceIte, Nat.reduceEqDiff]) | rfl))⟩
        · skip
          unfold mb_simple_56
          refine PP.bind (mw_meaning (((F 42) + (1 : Int32)) - (1 : Int32)) (fup F 42 ((F 42) + (1 : Int32))) G) ?_
          intro r27 F27 G27 hK27
          dsimp only
          have g_28 : G27 4 = K := Eq.trans (hK27.2 4 rfl) g4
          have g_29 : G27 5 = V := Eq.trans (hK27.2 5 rfl) g5
          have q_30 : F27 42 = ((F 42) + (1 : Int32)) := hK27.1 42 rfl
          have q_31 : F27 43 = (F 43) := hK27.1 43 rfl
          have q_32 : F27 44 = 0 := Eq.trans (hK27.1 44 rfl) h44
          exact mrj_simple_61 (F0 := F) (R0 := (rsimple K V fu (F 42) (F 43))) (((F 42) + (1 : Int32)) - (1 : Int32)) r27 F27 G27 g_28 g_29 ⟨q_32, (by first | with_reducible rfl | (simp only [q_30, q_31, i_as, fup, Nat.reduceEqDiff, reduceIte, if_false]) | rfl), ((rfl : (rsimple K V fu (F 42) (F 43)) = _).trans (by first | with_reducible rfl | (simp only [rsimple, rsimple1, rsimple3, rsig, h_3, h_24, q_30, q_31, i_as, fup, i_a0, i0m, i10, eq_self, rb_yes, rb_no, ryes, rno, if_true, if_false, f_tt (p := True), reduceIte, Nat.reduceEqDiff]) | rfl))⟩
    · skip
      exact absurd (i_npos (show ¬ ((F 44) ≤ (0 : Int32)) from c_4)) (by rw [h44]; decide)
  · dsimp only
    have g_33 : G1 4 = K := Eq.trans (u1.2.2.2 4 rfl) g4
    have g_34 : G1 5 = V := Eq.trans (u1.2.2.2 5 rfl) g5
    have q_35 : F1 42 = (F 42) := u1.2.2.1 42 rfl
    have q_36 : F1 43 = (F 43) := u1.2.2.1 43 rfl
    rcases u1b with q | q
    · exact absurd q (show ¬ 0 < (F 44).toInt by rw [h44]; decide)
    · skip
      have h_37 : ¬ K (F 42).toNatClampNeg = 1 := by
        rw [← g4]
        have q := q
        first | exact q | (simp only [i_as] at q; exact q)
      unfold mb_simple_4
      refine PP.ite (fun c_38 => ?_) (fun c_38 => ?_)
      · skip
        exact absurd (i_le.mp (show (F1 44) ≤ (0 : Int32) from c_38)) (by have := u1.1; have l0 : (0 : Int32).toInt = 0 := rfl; omega)
      · skip
        unfold mb_simple_12
        refine PP.ret ?_
        refine Or.inr ⟨rfl, u1.1, (rfl : (rsimple K V fu (F 42) (F 43)) = _).trans ?_⟩
        first | with_reducible rfl | (simp only [rsimple, rsimple1, rsimple3, rsig, h_37, q_35, q_36, i_as, fup, i_a0, i0m, i10, eq_self, rb_yes, rb_no, ryes, rno, if_true, if_false, f_tt (p := True), reduceIte, Nat.reduceEqDiff]) | rfl
theorem mrj_tellHere_326 {fu : Nat} {K V : Nat → Int32} {F0 : PF} {R0 : OR} (x3 : Int32) (x4 : Int32) (F : PF) (G : PG) (g4 : G 4 = K) (g5 : G 5 = V) (hA : (F 44 = 0 ∧ F 43 = F0 43 ∧ R0 = ryes (F 42))) : PP (mb_tellHere_326 fu x3 x4 F G) (fun r' F' _ => ROK R0 F0 r' F') := by
  rcases hA with ⟨h44, h43, hR⟩
  · skip
    unfold mb_tellHere_326
    refine PP.bind (mw_step (2 : Int32) x4 (0 : Int32) F G) ?_
    intro r1 F1 G1 hK1
    dsimp only
    have g_2 : G1 4 = K := Eq.trans (hK1.2 4 rfl) g4
    have g_3 : G1 5 = V := Eq.trans (hK1.2 5 rfl) g5
    have q_4 : F1 42 = (F 42) := hK1.1 42 rfl
    have q_5 : F1 43 = (F0 43) := Eq.trans (hK1.1 43 rfl) (show (F 43) = (F0 43) by simp only [h43, i_as])
    have q_6 : F1 44 = 0 := Eq.trans (hK1.1 44 rfl) h44
    unfold mb_tellHere_334
    refine PP.bind (mw_declare x3 (1 : Int32) (0 : Int32) x4 (1 : Int32) (1 : Int32) F1 G1) ?_
    intro r7 F7 G7 hK7
    dsimp only
    have g_8 : G7 4 = K := Eq.trans (hK7.2 4 rfl) g_2
    have g_9 : G7 5 = V := Eq.trans (hK7.2 5 rfl) g_3
    have q_10 : F7 42 = (F 42) := Eq.trans (hK7.1 42 rfl) (show (F1 42) = (F 42) by simp only [q_4, q_5, i_as])
    have q_11 : F7 43 = (F0 43) := Eq.trans (hK7.1 43 rfl) (show (F1 43) = (F0 43) by simp only [q_4, q_5, i_as])
    have q_12 : F7 44 = 0 := Eq.trans (hK7.1 44 rfl) q_6
    unfold mb_tellHere_346
    refine PP.ret ?_
    refine Or.inl ⟨rfl, q_12, ?_, hR.trans ?_⟩
    · show (F7 43) = F0 43
      first | with_reducible rfl | (simp only [h43, q_4, q_5, q_10, q_11, i_as, fup, Nat.reduceEqDiff, reduceIte, if_false]) | rfl
    · show _ = some (some (F7 42))
      first | with_reducible rfl | (simp only [rtell, rsize, rtell2, rclose, h43, q_4, q_5, q_10, q_11, i_as, fup, i_a0, i0m, i10, eq_self, rb_yes, rb_no, ryes, rno, if_true, if_false, f_tt (p := True), reduceIte, Nat.reduceEqDiff]) | rfl
theorem mrj_tellHere_273 {fu : Nat} {K V : Nat → Int32} {F0 : PF} {R0 : OR} (x1 : Int32) (x3 : Int32) (x4 : Int32) (z0 : Int32) (z1 : Int32) (F : PF) (G : PG) (g4 : G 4 = K) (g5 : G 5 = V) (hA : (F 44 = 0 ∧ F 43 = F0 43 ∧ R0 = rtell2 K V fu x1 (F 42) (F 43))) : PP (mb_tellHere_273 fu x1 x3 x4 z0 z1 F G) (fun r' F' _ => ROK R0 F0 r' F') := by
  rcases hA with ⟨h44, h43, hR⟩
  · skip
    unfold mb_tellHere_273
    unfold mb_tellHere_277
    refine PP.bind (mp_isSign (32 : Int32) (fup F 53 (z1 + z0)) G) ?_
    rintro _ _ _ ⟨rfl, rfl, (⟨rfl, u1⟩ | ⟨rfl, u1⟩)⟩
    · dsimp only
      have h_2 : sgn K V (F 42) (32 : Int32) = true := by
        rw [← g4, ← g5]
        have q := u1
        first | exact q | (simp only [h43, i_as] at q; exact q) | (simp only [h43, i_as, fup, Nat.reduceEqDiff, reduceIte, if_false] at q; exact q)
      unfold mb_tellHere_283
      refine PP.ite (fun c_3 => absurd c_3 (by decide)) (fun _ => ?_)
      unfold mb_tellHere_286
      unfold mb_tellHere_296
      refine PP.bind (PP.and (mw_expression (fup (fup F 53 (z1 + z0)) 42 ((F 42) + (1 : Int32))) G) (mr_expression (fup (fup F 53 (z1 + z0)) 42 ((F 42) + (1 : Int32))) G g4 g5 (show (fup (fup F 53 (z1 + z0)) 42 ((F 42) + (1 : Int32))) 44 = 0 from h44))) ?_
      rintro r4 F4 G4 ⟨hK4, (⟨rfl, u4a, u4b, u4⟩ | ⟨rfl, u4a, u4⟩)⟩
      · dsimp only
        have g_5 : G4 4 = K := Eq.trans (hK4.2 4 rfl) g4
        have g_6 : G4 5 = V := Eq.trans (hK4.2 5 rfl) g5
        have h_7 : rS1 K V fu 300 4 ((F 42) + (1 : Int32)) (F0 43) = some (some (F4 42)) := by
          have q : rS1 K V fu 300 4 ((F 42) + (1 : Int32)) (F 43) = some (some (F4 42)) := u4
          simp only [h43, i_as] at q; exact q
        have q_8 : F4 43 = (F0 43) := by
          have q := (show F4 43 = (F 43) from u4b)
          simp only [h43, i_as] at q; exact q
        unfold mb_tellHere_300
        refine PP.ite (fun c_9 => absurd c_9 (by decide)) (fun _ => ?_)
        exact mrj_tellHere_326 (F0 := F0) (R0 := R0) x3 x4 F4 G4 g_5 g_6 ⟨u4a, (by first | with_reducible rfl | (simp only [h43, q_8, i_as, fup, Nat.reduceEqDiff, reduceIte, if_false]) | rfl), (hR.trans (by first | with_reducible rfl | (simp only [rtell, rsize, rtell2, rclose, h_2, h_7, h43, q_8, i_as, fup, i_a0, i0m, i10, eq_self, rb_yes, rb_no, ryes, rno, if_true, if_false, f_tt (p := True), reduceIte, Nat.reduceEqDiff]) | rfl))⟩
      · dsimp only
        have g_10 : G4 4 = K := Eq.trans (hK4.2 4 rfl) g4
        have g_11 : G4 5 = V := Eq.trans (hK4.2 5 rfl) g5
        have h_12 : rS1 K V fu 300 4 ((F 42) + (1 : Int32)) (F0 43) = some (none) := by
          have q : rS1 K V fu 300 4 ((F 42) + (1 : Int32)) (F 43) = some (none) := u4
          simp only [h43, i_as] at q; exact q
        unfold mb_tellHere_300
        refine PP.ite (fun _ => ?_) (fun c_13 => absurd (by decide) c_13)
        unfold mb_tellHere_303
        refine PP.ret ?_
        refine Or.inr ⟨rfl, u4a, hR.trans ?_⟩
        first | with_reducible rfl | (simp only [rtell, rsize, rtell2, rclose, h_2, h_12, h43, i_as, fup, i_a0, i0m, i10, eq_self, rb_yes, rb_no, ryes, rno, if_true, if_false, f_tt (p := True), reduceIte, Nat.reduceEqDiff]) | rfl
    · dsimp only
      have h_14 : sgn K V (F 42) (32 : Int32) = false := by
        rw [← g4, ← g5]
        have q := u1
        first | exact q | (simp only [h43, i_as] at q; exact q) | (simp only [h43, i_as, fup, Nat.reduceEqDiff, reduceIte, if_false] at q; exact q)
      unfold mb_tellHere_283
      refine PP.ite (fun _ => ?_) (fun c_15 => absurd (by decide) c_15)
      unfold mb_tellHere_305
      refine PP.ite (fun c_16 => ?_) (fun c_16 => ?_)
      · skip
        have h_17 : x1 = (0 : Int32) := c_16
        have h_18 := eq_true h_17
        have w_19 : x1.toInt = 0 := i_eq.mp c_16
        unfold mb_tellHere_320
        refine PP.bind (mp_fails (2 : Int32) (by decide) (fup F 53 (z1 + z0)) G) ?_
        rintro r20 F20 G20 ⟨rfl, u20⟩
        dsimp only
        have g_21 : G20 4 = K := Eq.trans (u20.2.2.2 4 rfl) g4
        have g_22 : G20 5 = V := Eq.trans (u20.2.2.2 5 rfl) g5
        have q_23 : F20 42 = (F 42) := u20.2.2.1 42 rfl
        have q_24 : F20 43 = (F0 43) := Eq.trans (u20.2.2.1 43 rfl) (show (F 43) = (F0 43) by simp only [h43, i_as])
        unfold mb_tellHere_325
        refine PP.ret ?_
        refine Or.inr ⟨rfl, u20.1, hR.trans ?_⟩
        first | with_reducible rfl | (simp only [rtell, rsize, rtell2, rclose, h_14, h_18, h43, q_23, q_24, i_as, fup, i_a0, i0m, i10, eq_self, rb_yes, rb_no, ryes, rno, if_true, if_false, f_tt (p := True), reduceIte, Nat.reduceEqDiff]) | rfl
      · skip
        have h_25 : ¬ x1 = (0 : Int32) := c_16
        have w_26 : ¬ (x1.toInt = 0) := fun q => c_16 (i_eq.mpr q)
        unfold mb_tellHere_309
        refine PP.bind (mw_step (0 : Int32) (0 : Int32) (0 : Int32) (fup F 53 (z1 + z0)) G) ?_
        intro r27 F27 G27 hK27
        dsimp only
        have g_28 : G27 4 = K := Eq.trans (hK27.2 4 rfl) g4
        have g_29 : G27 5 = V := Eq.trans (hK27.2 5 rfl) g5
        have q_30 : F27 42 = (F 42) := hK27.1 42 rfl
        have q_31 : F27 43 = (F0 43) := Eq.trans (hK27.1 43 rfl) (show (F 43) = (F0 43) by simp only [h43, i_as])
        have q_32 : F27 44 = 0 := Eq.trans (hK27.1 44 rfl) h44
        unfold mb_tellHere_316
        exact mrj_tellHere_326 (F0 := F0) (R0 := R0) x3 x4 F27 G27 g_28 g_29 ⟨q_32, (by first | with_reducible rfl | (simp only [h43, q_30, q_31, i_as, fup, Nat.reduceEqDiff, reduceIte, if_false]) | rfl), (hR.trans (by first | with_reducible rfl | (simp only [rtell, rsize, rtell2, rclose, h_14, h_25, h43, q_30, q_31, i_as, fup, i_a0, i0m, i10, eq_self, rb_yes, rb_no, ryes, rno, if_true, if_false, f_tt (p := True), reduceIte, Nat.reduceEqDiff]) | rfl))⟩
theorem mrj_tellHere_247 {fu : Nat} {K V : Nat → Int32} {F0 : PF} {R0 : OR} (x1 : Int32) (x3 : Int32) (F : PF) (G : PG) (g4 : G 4 = K) (g5 : G 5 = V) (hA : (F 44 = 0 ∧ F 43 = F0 43 ∧ R0 = rtell2 K V fu x1 (F 42) (F 43))) : PP (mb_tellHere_247 fu x1 x3 F G) (fun r' F' _ => ROK R0 F0 r' F') := by
  rcases hA with ⟨h44, h43, hR⟩
  · skip
    unfold mb_tellHere_247
    refine PP.ite (fun c_1 => ?_) (fun c_1 => ?_)
    · skip
      unfold mb_tellHere_272
      exact mrj_tellHere_273 (F0 := F0) (R0 := R0) x1 x3 (F 53) (1 : Int32) (F 53) F G g4 g5 ⟨h44, (by first | with_reducible rfl | (simp only [h43, i_as, fup, Nat.reduceEqDiff, reduceIte, if_false]) | rfl), (hR.trans (by first | with_reducible rfl | (simp only [rtell, rsize, rtell2, rclose, h43, i_as, fup, i_a0, i0m, i10, eq_self, rb_yes, rb_no, ryes, rno, if_true, if_false, f_tt (p := True), reduceIte, Nat.reduceEqDiff]) | rfl))⟩
    · skip
      unfold mb_tellHere_268
      exact mrj_tellHere_273 (F0 := F0) (R0 := R0) x1 x3 (F 53) (0 : Int32) (F 53) F G g4 g5 ⟨h44, (by first | with_reducible rfl | (simp only [h43, i_as, fup, Nat.reduceEqDiff, reduceIte, if_false]) | rfl), (hR.trans (by first | with_reducible rfl | (simp only [rtell, rsize, rtell2, rclose, h43, i_as, fup, i_a0, i0m, i10, eq_self, rb_yes, rb_no, ryes, rno, if_true, if_false, f_tt (p := True), reduceIte, Nat.reduceEqDiff]) | rfl))⟩
theorem mrj_tellHere_210 {fu : Nat} {K V : Nat → Int32} {F0 : PF} {R0 : OR} (x1 : Int32) (x3 : Int32) (F : PF) (G : PG) (g4 : G 4 = K) (g5 : G 5 = V) (hA : (F 44 = 0 ∧ F 43 = F0 43 ∧ R0 = rtell2 K V fu x1 (F 42) (F 43))) : PP (mb_tellHere_210 fu x1 x3 F G) (fun r' F' _ => ROK R0 F0 r' F') := by
  rcases hA with ⟨h44, h43, hR⟩
  · skip
    unfold mb_tellHere_210
    refine PP.bind (mw_twice x3 F G) ?_
    intro r1 F1 G1 hK1
    dsimp only
    have g_2 : G1 4 = K := Eq.trans (hK1.2 4 rfl) g4
    have g_3 : G1 5 = V := Eq.trans (hK1.2 5 rfl) g5
    have q_4 : F1 42 = (F 42) := hK1.1 42 rfl
    have q_5 : F1 43 = (F0 43) := Eq.trans (hK1.1 43 rfl) (show (F 43) = (F0 43) by simp only [h43, i_as])
    have q_6 : F1 44 = 0 := Eq.trans (hK1.1 44 rfl) h44
    unfold mb_tellHere_215
    unfold mb_tellHere_225
    refine PP.ite (fun c_7 => ?_) (fun c_7 => ?_)
    · skip
      exact mrj_tellHere_247 (F0 := F0) (R0 := R0) x1 x3 (fup F1 52 ((F1 52) + (1 : Int32))) G1 g_2 g_3 ⟨q_6, (by first | with_reducible rfl | (simp only [h43, q_4, q_5, i_as, fup, Nat.reduceEqDiff, reduceIte, if_false]) | rfl), (hR.trans (by first | with_reducible rfl | (simp only [rtell, rsize, rtell2, rclose, h43, q_4, q_5, i_as, fup, i_a0, i0m, i10, eq_self, rb_yes, rb_no, ryes, rno, if_true, if_false, f_tt (p := True), reduceIte, Nat.reduceEqDiff]) | rfl))⟩
    · skip
      unfold mb_tellHere_235
      refine PP.ix (fun _ => ?_)
      refine PP.bind (mw_note (11 : Int32) (G1 6 x3.toNatClampNeg) (fup F1 52 ((F1 52) + (1 : Int32))) G1) ?_
      intro r8 F8 G8 hK8
      dsimp only
      have g_9 : G8 4 = K := Eq.trans (hK8.2 4 rfl) g_2
      have g_10 : G8 5 = V := Eq.trans (hK8.2 5 rfl) g_3
      have q_11 : F8 42 = (F 42) := Eq.trans (hK8.1 42 rfl) (show (F1 42) = (F 42) by simp only [q_4, q_5, i_as])
      have q_12 : F8 43 = (F0 43) := Eq.trans (hK8.1 43 rfl) (show (F1 43) = (F0 43) by simp only [q_4, q_5, i_as])
      have q_13 : F8 44 = 0 := Eq.trans (hK8.1 44 rfl) q_6
      exact mrj_tellHere_247 (F0 := F0) (R0 := R0) x1 x3 F8 G8 g_9 g_10 ⟨q_13, (by first | with_reducible rfl | (simp only [h43, q_4, q_5, q_11, q_12, i_as, fup, Nat.reduceEqDiff, reduceIte, if_false]) | rfl), (hR.trans (by first | with_reducible rfl | (simp only [rtell, rsize, rtell2, rclose, h43, q_4, q_5, q_11, q_12, i_as, fup, i_a0, i0m, i10, eq_self, rb_yes, rb_no, ryes, rno, if_true, if_false, f_tt (p := True), reduceIte, Nat.reduceEqDiff]) | rfl))⟩
theorem mrj_tellHere_193 {fu : Nat} {K V : Nat → Int32} {F0 : PF} {R0 : OR} (x5 : Int32) (z0 : Int32) (z1 : Int32) (z2 : Int32) (z3 : Int32) (z4 : Int32) (F : PF) (G : PG) (g4 : G 4 = K) (g5 : G 5 = V) (hA : (F 44 = 0 ∧ F 43 = F0 43 ∧ R0 = ryes (F 42))) : PP (mb_tellHere_193 fu x5 z0 z1 z2 z3 z4 F G) (fun r' F' _ => ROK R0 F0 r' F') := by
  rcases hA with ⟨h44, h43, hR⟩
  · skip
    unfold mb_tellHere_193
    refine PP.bind (mw_declare z4 z3 z2 z1 z0 (1 : Int32) F G) ?_
    intro r1 F1 G1 hK1
    dsimp only
    have g_2 : G1 4 = K := Eq.trans (hK1.2 4 rfl) g4
    have g_3 : G1 5 = V := Eq.trans (hK1.2 5 rfl) g5
    have q_4 : F1 42 = (F 42) := hK1.1 42 rfl
    have q_5 : F1 43 = (F0 43) := Eq.trans (hK1.1 43 rfl) (show (F 43) = (F0 43) by simp only [h43, i_as])
    have q_6 : F1 44 = 0 := Eq.trans (hK1.1 44 rfl) h44
    unfold mb_tellHere_197
    unfold mb_tellHere_208
    refine PP.ret ?_
    refine Or.inl ⟨rfl, q_6, ?_, hR.trans ?_⟩
    · show (F1 43) = F0 43
      first | with_reducible rfl | (simp only [h43, q_4, q_5, i_as, fup, Nat.reduceEqDiff, reduceIte, if_false]) | rfl
    · show _ = some (some (F1 42))
      first | with_reducible rfl | (simp only [rtell, rsize, rtell2, rclose, h43, q_4, q_5, i_as, fup, i_a0, i0m, i10, eq_self, rb_yes, rb_no, ryes, rno, if_true, if_false, f_tt (p := True), reduceIte, Nat.reduceEqDiff]) | rfl
theorem mrj_tellHere_158 {fu : Nat} {K V : Nat → Int32} {F0 : PF} {R0 : OR} (x2 : Int32) (x3 : Int32) (x4 : Int32) (z0 : Int32) (F : PF) (G : PG) (g4 : G 4 = K) (g5 : G 5 = V) (hA : (F 44 = 0 ∧ F 43 = F0 43 ∧ R0 = ryes (F 42))) : PP (mb_tellHere_158 fu x2 x3 x4 z0 F G) (fun r' F' _ => ROK R0 F0 r' F') := by
  rcases hA with ⟨h44, h43, hR⟩
  · skip
    unfold mb_tellHere_158
    refine PP.bind (mw_step (22 : Int32) (F 53) z0 F G) ?_
    intro r1 F1 G1 hK1
    dsimp only
    have g_2 : G1 4 = K := Eq.trans (hK1.2 4 rfl) g4
    have g_3 : G1 5 = V := Eq.trans (hK1.2 5 rfl) g5
    have q_4 : F1 42 = (F 42) := hK1.1 42 rfl
    have q_5 : F1 43 = (F0 43) := Eq.trans (hK1.1 43 rfl) (show (F 43) = (F0 43) by simp only [h43, i_as])
    have q_6 : F1 44 = 0 := Eq.trans (hK1.1 44 rfl) h44
    unfold mb_tellHere_172
    refine PP.ite (fun c_7 => ?_) (fun c_7 => ?_)
    · skip
      unfold mb_tellHere_187
      exact mrj_tellHere_193 (F0 := F0) (R0 := R0) z0 (1 : Int32) (F1 53) x2 (2 : Int32) x3 F1 G1 g_2 g_3 ⟨q_6, (by first | with_reducible rfl | (simp only [h43, q_4, q_5, i_as, fup, Nat.reduceEqDiff, reduceIte, if_false]) | rfl), (hR.trans (by first | with_reducible rfl | (simp only [rtell, rsize, rtell2, rclose, h43, q_4, q_5, i_as, fup, i_a0, i0m, i10, eq_self, rb_yes, rb_no, ryes, rno, if_true, if_false, f_tt (p := True), reduceIte, Nat.reduceEqDiff]) | rfl))⟩
    · skip
      unfold mb_tellHere_191
      exact mrj_tellHere_193 (F0 := F0) (R0 := R0) z0 x4 (F1 53) x2 (2 : Int32) x3 F1 G1 g_2 g_3 ⟨q_6, (by first | with_reducible rfl | (simp only [h43, q_4, q_5, i_as, fup, Nat.reduceEqDiff, reduceIte, if_false]) | rfl), (hR.trans (by first | with_reducible rfl | (simp only [rtell, rsize, rtell2, rclose, h43, q_4, q_5, i_as, fup, i_a0, i0m, i10, eq_self, rb_yes, rb_no, ryes, rno, if_true, if_false, f_tt (p := True), reduceIte, Nat.reduceEqDiff]) | rfl))⟩
theorem mrj_tellHere_152 {fu : Nat} {K V : Nat → Int32} {F0 : PF} {R0 : OR} (x2 : Int32) (x3 : Int32) (x4 : Int32) (F : PF) (G : PG) (g4 : G 4 = K) (g5 : G 5 = V) (hA : (F 44 = 0 ∧ F 43 = F0 43 ∧ R0 = ryes (F 42))) : PP (mb_tellHere_152 fu x2 x3 x4 F G) (fun r' F' _ => ROK R0 F0 r' F') := by
  rcases hA with ⟨h44, h43, hR⟩
  · skip
    unfold mb_tellHere_152
    exact mrj_tellHere_158 (F0 := F0) (R0 := R0) x2 x3 x4 (0 : Int32) F G g4 g5 ⟨h44, (by first | with_reducible rfl | (simp only [h43, i_as, fup, Nat.reduceEqDiff, reduceIte, if_false]) | rfl), (hR.trans (by first | with_reducible rfl | (simp only [rtell, rsize, rtell2, rclose, h43, i_as, fup, i_a0, i0m, i10, eq_self, rb_yes, rb_no, ryes, rno, if_true, if_false, f_tt (p := True), reduceIte, Nat.reduceEqDiff]) | rfl))⟩
theorem mrj_tellHere_136 {fu : Nat} {K V : Nat → Int32} {F0 : PF} {R0 : OR} (x2 : Int32) (x3 : Int32) (x4 : Int32) (F : PF) (G : PG) (g4 : G 4 = K) (g5 : G 5 = V) (hA : (F 44 = 0 ∧ F 43 = F0 43 ∧ R0 = ryes (F 42))) : PP (mb_tellHere_136 fu x2 x3 x4 F G) (fun r' F' _ => ROK R0 F0 r' F') := by
  rcases hA with ⟨h44, h43, hR⟩
  · skip
    unfold mb_tellHere_136
    refine PP.ite (fun c_1 => ?_) (fun c_1 => ?_)
    · skip
      exact mrj_tellHere_152 (F0 := F0) (R0 := R0) x2 x3 x4 F G g4 g5 ⟨h44, (by first | with_reducible rfl | (simp only [h43, i_as, fup, Nat.reduceEqDiff, reduceIte, if_false]) | rfl), (hR.trans (by first | with_reducible rfl | (simp only [rtell, rsize, rtell2, rclose, h43, i_as, fup, i_a0, i0m, i10, eq_self, rb_yes, rb_no, ryes, rno, if_true, if_false, f_tt (p := True), reduceIte, Nat.reduceEqDiff]) | rfl))⟩
    · skip
      unfold mb_tellHere_142
      refine PP.ite (fun c_2 => ?_) (fun c_2 => ?_)
      · skip
        unfold mb_tellHere_156
        exact mrj_tellHere_158 (F0 := F0) (R0 := R0) x2 x3 x4 x4 F G g4 g5 ⟨h44, (by first | with_reducible rfl | (simp only [h43, i_as, fup, Nat.reduceEqDiff, reduceIte, if_false]) | rfl), (hR.trans (by first | with_reducible rfl | (simp only [rtell, rsize, rtell2, rclose, h43, i_as, fup, i_a0, i0m, i10, eq_self, rb_yes, rb_no, ryes, rno, if_true, if_false, f_tt (p := True), reduceIte, Nat.reduceEqDiff]) | rfl))⟩
      · skip
        exact mrj_tellHere_152 (F0 := F0) (R0 := R0) x2 x3 x4 F G g4 g5 ⟨h44, (by first | with_reducible rfl | (simp only [h43, i_as, fup, Nat.reduceEqDiff, reduceIte, if_false]) | rfl), (hR.trans (by first | with_reducible rfl | (simp only [rtell, rsize, rtell2, rclose, h43, i_as, fup, i_a0, i0m, i10, eq_self, rb_yes, rb_no, ryes, rno, if_true, if_false, f_tt (p := True), reduceIte, Nat.reduceEqDiff]) | rfl))⟩
theorem mrj_tellHere_110 {fu : Nat} {K V : Nat → Int32} {F0 : PF} {R0 : OR} (x2 : Int32) (x3 : Int32) (x4 : Int32) (z0 : Int32) (z1 : Int32) (F : PF) (G : PG) (g4 : G 4 = K) (g5 : G 5 = V) (hA : (F 44 = 0 ∧ F 43 = F0 43 ∧ R0 = ryes (F 42))) : PP (mb_tellHere_110 fu x2 x3 x4 z0 z1 F G) (fun r' F' _ => ROK R0 F0 r' F') := by
  rcases hA with ⟨h44, h43, hR⟩
  · skip
    unfold mb_tellHere_110
    unfold mb_tellHere_114
    refine PP.ite (fun c_1 => ?_) (fun c_1 => ?_)
    · skip
      exact mrj_tellHere_136 (F0 := F0) (R0 := R0) x2 x3 x4 (fup F 52 (z1 + z0)) G g4 g5 ⟨h44, (by first | with_reducible rfl | (simp only [h43, i_as, fup, Nat.reduceEqDiff, reduceIte, if_false]) | rfl), (hR.trans (by first | with_reducible rfl | (simp only [rtell, rsize, rtell2, rclose, h43, i_as, fup, i_a0, i0m, i10, eq_self, rb_yes, rb_no, ryes, rno, if_true, if_false, f_tt (p := True), reduceIte, Nat.reduceEqDiff]) | rfl))⟩
    · skip
      unfold mb_tellHere_124
      refine PP.ix (fun _ => ?_)
      refine PP.bind (mw_note (11 : Int32) (G 6 x3.toNatClampNeg) (fup F 52 (z1 + z0)) G) ?_
      intro r2 F2 G2 hK2
      dsimp only
      have g_3 : G2 4 = K := Eq.trans (hK2.2 4 rfl) g4
      have g_4 : G2 5 = V := Eq.trans (hK2.2 5 rfl) g5
      have q_5 : F2 42 = (F 42) := hK2.1 42 rfl
      have q_6 : F2 43 = (F0 43) := Eq.trans (hK2.1 43 rfl) (show (F 43) = (F0 43) by simp only [h43, i_as])
      have q_7 : F2 44 = 0 := Eq.trans (hK2.1 44 rfl) h44
      exact mrj_tellHere_136 (F0 := F0) (R0 := R0) x2 x3 x4 F2 G2 g_3 g_4 ⟨q_7, (by first | with_reducible rfl | (simp only [h43, q_5, q_6, i_as, fup, Nat.reduceEqDiff, reduceIte, if_false]) | rfl), (hR.trans (by first | with_reducible rfl | (simp only [rtell, rsize, rtell2, rclose, h43, q_5, q_6, i_as, fup, i_a0, i0m, i10, eq_self, rb_yes, rb_no, ryes, rno, if_true, if_false, f_tt (p := True), reduceIte, Nat.reduceEqDiff]) | rfl))⟩
theorem mrj_tellHere_47 {fu : Nat} {K V : Nat → Int32} {F0 : PF} {R0 : OR} (x2 : Int32) (x3 : Int32) (F : PF) (G : PG) (g4 : G 4 = K) (g5 : G 5 = V) (hA : (F 44 = 0 ∧ F 43 = F0 43 ∧ R0 = rsize K V fu (F 42) (F 43))) : PP (mb_tellHere_47 fu x2 x3 F G) (fun r' F' _ => ROK R0 F0 r' F') := by
  rcases hA with ⟨h44, h43, hR⟩
  · skip
    unfold mb_tellHere_47
    refine PP.bind (mw_twice x3 F G) ?_
    intro r1 F1 G1 hK1
    dsimp only
    have g_2 : G1 4 = K := Eq.trans (hK1.2 4 rfl) g4
    have g_3 : G1 5 = V := Eq.trans (hK1.2 5 rfl) g5
    have q_4 : F1 42 = (F 42) := hK1.1 42 rfl
    have q_5 : F1 43 = (F0 43) := Eq.trans (hK1.1 43 rfl) (show (F 43) = (F0 43) by simp only [h43, i_as])
    have q_6 : F1 44 = 0 := Eq.trans (hK1.1 44 rfl) h44
    unfold mb_tellHere_52
    refine PP.bind (mp_openSign (24 : Int32) F1 G1) ?_
    rintro r7 F7 G7 (⟨rfl, rfl, rfl, u7⟩ | ⟨rfl, u7, u7b⟩)
    · dsimp only
      have h_8 : sgn K V (F 42) (24 : Int32) = true := by
        rw [← g_2, ← g_3]
        have q := u7.1
        first | exact q | (simp only [q_4, q_5, i_as] at q; exact q)
      have h_9 : ¬ (F0 43) = 40 := by
        have q : ¬ (F1 43) = 40 := u7.2.1
        first | exact q | (simp only [q_4, q_5, i_as] at q; exact q)
      unfold mb_tellHere_58
      refine PP.ite (fun c_10 => absurd c_10 (by decide)) (fun _ => ?_)
      unfold mb_tellHere_63
      refine PP.bind (PP.and (mw_sizeHere (fup (fup F1 43 ((F1 43) + (1 : Int32))) 42 ((F1 42) + (1 : Int32))) G1) (mr_sizeHere (fup (fup F1 43 ((F1 43) + (1 : Int32))) 42 ((F1 42) + (1 : Int32))) G1 g_2 g_3 (show (fup (fup F1 43 ((F1 43) + (1 : Int32))) 42 ((F1 42) + (1 : Int32))) 44 = 0 from q_6))) ?_
      rintro r11 F11 G11 ⟨hK11, (⟨-, u11a, u11b, u11⟩ | ⟨-, u11a, u11⟩)⟩
      · dsimp only
        have g_12 : G11 4 = K := Eq.trans (hK11.2 4 rfl) g_2
        have g_13 : G11 5 = V := Eq.trans (hK11.2 5 rfl) g_3
        have h_14 : rS1 K V fu 300 4 ((F 42) + (1 : Int32)) ((F0 43) + (1 : Int32)) = some (some (F11 42)) := by
          have q : rS1 K V fu 300 4 ((F1 42) + (1 : Int32)) ((F1 43) + (1 : Int32)) = some (some (F11 42)) := u11
          simp only [q_4, q_5, i_as] at q; exact q
        have q_15 : F11 43 = ((F0 43) + (1 : Int32)) := by
          have q := (show F11 43 = ((F1 43) + (1 : Int32)) from u11b)
          simp only [q_4, q_5, i_as] at q; exact q
        unfold mb_tellHere_67
        refine PP.bind (mp_closeSign (25 : Int32) F11 G11) ?_
        rintro r16 F16 G16 (⟨rfl, rfl, rfl, u16⟩ | ⟨rfl, u16, u16b⟩)
        · dsimp only
          have h_17 : sgn K V (F11 42) (25 : Int32) = true := by
            rw [← g_12, ← g_13]
            have q := u16.1
            first | exact q | (simp only [q_15, i_as] at q; exact q)
          unfold mb_tellHere_75
          refine PP.ite (fun c_18 => absurd c_18 (by decide)) (fun _ => ?_)
          unfold mb_tellHere_80
          refine PP.ite (fun c_19 => ?_) (fun c_19 => ?_)
          · skip
            unfold mb_tellHere_91
            exact mrj_tellHere_110 (F0 := F0) (R0 := R0) x2 x3 r11 (0 : Int32) (F11 52) (fup (fup F11 42 ((F11 42) + (1 : Int32))) 43 ((F11 43) - (1 : Int32))) G11 g_12 g_13 ⟨u11a, (by first | with_reducible rfl | (simp only [h43, q_4, q_5, q_15, i_as, fup, Nat.reduceEqDiff, reduceIte, if_false]) | rfl), (hR.trans (by first | with_reducible rfl | (simp only [rtell, rsize, rtell2, rclose, h_8, h_9, h_14, h_17, h43, q_4, q_5, q_15, i_as, fup, i_a0, i0m, i10, eq_self, rb_yes, rb_no, ryes, rno, if_true, if_false, f_tt (p := True), reduceIte, Nat.reduceEqDiff]) | rfl))⟩
          · skip
            unfold mb_tellHere_95
            refine PP.ite (fun c_20 => ?_) (fun c_20 => ?_)
            · skip
              unfold mb_tellHere_108
              exact mrj_tellHere_110 (F0 := F0) (R0 := R0) x2 x3 r11 r11 (F11 52) (fup (fup F11 42 ((F11 42) + (1 : Int32))) 43 ((F11 43) - (1 : Int32))) G11 g_12 g_13 ⟨u11a, (by first | with_reducible rfl | (simp only [h43, q_4, q_5, q_15, i_as, fup, Nat.reduceEqDiff, reduceIte, if_false]) | rfl), (hR.trans (by first | with_reducible rfl | (simp only [rtell, rsize, rtell2, rclose, h_8, h_9, h_14, h_17, h43, q_4, q_5, q_15, i_as, fup, i_a0, i0m, i10, eq_self, rb_yes, rb_no, ryes, rno, if_true, if_false, f_tt (p := True), reduceIte, Nat.reduceEqDiff]) | rfl))⟩
            · skip
              unfold mb_tellHere_99
              exact mrj_tellHere_110 (F0 := F0) (R0 := R0) x2 x3 r11 ((r11 + (3 : Int32)) / (4 : Int32)) (F11 52) (fup (fup F11 42 ((F11 42) + (1 : Int32))) 43 ((F11 43) - (1 : Int32))) G11 g_12 g_13 ⟨u11a, (by first | with_reducible rfl | (simp only [h43, q_4, q_5, q_15, i_as, fup, Nat.reduceEqDiff, reduceIte, if_false]) | rfl), (hR.trans (by first | with_reducible rfl | (simp only [rtell, rsize, rtell2, rclose, h_8, h_9, h_14, h_17, h43, q_4, q_5, q_15, i_as, fup, i_a0, i0m, i10, eq_self, rb_yes, rb_no, ryes, rno, if_true, if_false, f_tt (p := True), reduceIte, Nat.reduceEqDiff]) | rfl))⟩
        · dsimp only
          have g_21 : G16 4 = K := Eq.trans (u16.2.2.2 4 rfl) g_12
          have g_22 : G16 5 = V := Eq.trans (u16.2.2.2 5 rfl) g_13
          have q_23 : F16 42 = (F11 42) := u16.2.2.1 42 rfl
          have q_24 : F16 43 = ((F0 43) + (1 : Int32)) := Eq.trans (u16.2.2.1 43 rfl) (show (F11 43) = ((F0 43) + (1 : Int32)) by simp only [q_15, i_as])
          rcases u16b with q | q
          · exact absurd q (show ¬ 0 < (F11 44).toInt by rw [u11a]; decide)
          · skip
            have h_25 : sgn K V (F11 42) (25 : Int32) = false := by
              rw [← g_12, ← g_13]
              have q := q
              first | exact q | (simp only [q_15, i_as] at q; exact q)
            unfold mb_tellHere_75
            refine PP.ite (fun _ => ?_) (fun c_26 => absurd (by decide) c_26)
            unfold mb_tellHere_78
            refine PP.ret ?_
            refine Or.inr ⟨rfl, u16.1, hR.trans ?_⟩
            first | with_reducible rfl | (simp only [rtell, rsize, rtell2, rclose, h_8, h_9, h_14, h_25, h43, q_4, q_5, q_15, q_23, q_24, i_as, fup, i_a0, i0m, i10, eq_self, rb_yes, rb_no, ryes, rno, if_true, if_false, f_tt (p := True), reduceIte, Nat.reduceEqDiff]) | rfl
      · dsimp only
        have g_27 : G11 4 = K := Eq.trans (hK11.2 4 rfl) g_2
        have g_28 : G11 5 = V := Eq.trans (hK11.2 5 rfl) g_3
        have h_29 : rS1 K V fu 300 4 ((F 42) + (1 : Int32)) ((F0 43) + (1 : Int32)) = some (none) := by
          have q : rS1 K V fu 300 4 ((F1 42) + (1 : Int32)) ((F1 43) + (1 : Int32)) = some (none) := u11
          simp only [q_4, q_5, i_as] at q; exact q
        unfold mb_tellHere_67
        refine PP.bind (mp_closeSign (25 : Int32) F11 G11) ?_
        rintro r30 F30 G30 (⟨rfl, rfl, rfl, u30⟩ | ⟨rfl, u30, u30b⟩)
        · dsimp only
          exact absurd u11a u30.2
        · dsimp only
          have g_31 : G30 4 = K := Eq.trans (u30.2.2.2 4 rfl) g_27
          have g_32 : G30 5 = V := Eq.trans (u30.2.2.2 5 rfl) g_28
          have q_33 : F30 42 = (F11 42) := u30.2.2.1 42 rfl
          have q_34 : F30 43 = (F11 43) := u30.2.2.1 43 rfl
          unfold mb_tellHere_75
          refine PP.ite (fun _ => ?_) (fun c_35 => absurd (by decide) c_35)
          unfold mb_tellHere_78
          refine PP.ret ?_
          refine Or.inr ⟨rfl, u30.1, hR.trans ?_⟩
          first | with_reducible rfl | (simp only [rtell, rsize, rtell2, rclose, h_8, h_9, h_29, h43, q_4, q_5, q_33, q_34, i_as, fup, i_a0, i0m, i10, eq_self, rb_yes, rb_no, ryes, rno, if_true, if_false, f_tt (p := True), reduceIte, Nat.reduceEqDiff]) | rfl
    · dsimp only
      have g_36 : G7 4 = K := Eq.trans (u7.2.2.2 4 rfl) g_2
      have g_37 : G7 5 = V := Eq.trans (u7.2.2.2 5 rfl) g_3
      have q_38 : F7 42 = (F 42) := Eq.trans (u7.2.2.1 42 rfl) (show (F1 42) = (F 42) by simp only [q_4, q_5, i_as])
      have q_39 : F7 43 = (F0 43) := Eq.trans (u7.2.2.1 43 rfl) (show (F1 43) = (F0 43) by simp only [q_4, q_5, i_as])
      rcases u7b with q | q | ⟨q, q1⟩
      · exact absurd q (show ¬ 0 < (F1 44).toInt by rw [q_6]; decide)
      · skip
        have h_40 : sgn K V (F 42) (24 : Int32) = false := by
          rw [← g_2, ← g_3]
          have q := q
          first | exact q | (simp only [q_4, q_5, i_as] at q; exact q)
        unfold mb_tellHere_58
        refine PP.ite (fun _ => ?_) (fun c_41 => absurd (by decide) c_41)
        unfold mb_tellHere_61
        refine PP.ret ?_
        refine Or.inr ⟨rfl, u7.1, hR.trans ?_⟩
        first | with_reducible rfl | (simp only [rtell, rsize, rtell2, rclose, h_40, h43, q_4, q_5, q_38, q_39, i_as, fup, i_a0, i0m, i10, eq_self, rb_yes, rb_no, ryes, rno, if_true, if_false, f_tt (p := True), reduceIte, Nat.reduceEqDiff]) | rfl
      · skip
        have h_42 : sgn K V (F 42) (24 : Int32) = true := by
          rw [← g_2, ← g_3]
          have q := q
          first | exact q | (simp only [q_4, q_5, i_as] at q; exact q)
        have h_43 : ((F0 43) = 40) = True := by
          have q : (F1 43) = 40 := q1
          first | exact eq_true q | (simp only [q_4, q_5, i_as] at q; exact eq_true q)
        unfold mb_tellHere_58
        refine PP.ite (fun _ => ?_) (fun c_44 => absurd (by decide) c_44)
        unfold mb_tellHere_61
        refine PP.ret ?_
        refine Or.inr ⟨rfl, u7.1, hR.trans ?_⟩
        first | with_reducible rfl | (simp only [rtell, rsize, rtell2, rclose, h_42, h_43, h43, q_4, q_5, q_38, q_39, i_as, fup, i_a0, i0m, i10, eq_self, rb_yes, rb_no, ryes, rno, if_true, if_false, f_tt (p := True), reduceIte, Nat.reduceEqDiff]) | rfl
theorem mr_tellHere {fu : Nat} {K V : Nat → Int32} (x1 : Int32) (F : PF) (G : PG) (g4 : G 4 = K) (g5 : G 5 = V) (h44 : F 44 = 0) : PP (mf_tellHere fu x1 F G) (fun r' F' _ => ROK (rtell K V fu x1 (F 42) (F 43)) F r' F') := by
  unfold mf_tellHere
  unfold mb_tellHere_0
  refine PP.bind (mp_isWord (1 : Int32) F G) ?_
  rintro _ _ _ ⟨rfl, rfl, (⟨rfl, u1⟩ | ⟨rfl, u1⟩)⟩
  · dsimp only
    have h_2 : wdn K V (F 42) (1 : Int32) = true := by
      rw [← g4, ← g5]
      have q := u1
      first | exact q | (simp only [i_as] at q; exact q)
    unfold mb_tellHere_5
    unfold mb_tellHere_16
    refine PP.bind (mp_name (fup F 42 ((F 42) + (1 : Int32))) G) ?_
    rintro r3 F3 G3 (⟨rfl, rfl, rfl, u3⟩ | ⟨rfl, u3, u3b⟩)
    · dsimp only
      have h_4 : K ((F 42) + (1 : Int32)).toNatClampNeg = 1 := by
        rw [← g4]
        have q := u3.1
        first | exact q | (simp only [i_as] at q; exact q)
      have h_5 := eq_true h_4
      unfold mb_tellHere_20
      refine PP.ite (fun c_6 => ?_) (fun c_6 => ?_)
      · skip
        unfold mb_tellHere_30
        refine PP.ite (fun c_7 => ?_) (fun c_7 => ?_)
        · skip
          have h_8 : x1 = (0 : Int32) := c_7
          have h_9 := eq_true h_8
          have w_10 : x1.toInt = 0 := i_eq.mp c_7
          exact mrj_tellHere_210 (F0 := F) (R0 := (rtell K V fu x1 (F 42) (F 43))) x1 ((((F 42) + (1 : Int32)) + (1 : Int32)) - (1 : Int32)) (fup (fup F 42 ((F 42) + (1 : Int32))) 42 (((F 42) + (1 : Int32)) + (1 : Int32))) G g4 g5 ⟨h44, (by first | with_reducible rfl | (simp only [i_as, fup, Nat.reduceEqDiff, reduceIte, if_false]) | rfl), ((rfl : (rtell K V fu x1 (F 42) (F 43)) = _).trans (by first | with_reducible rfl | (simp only [rtell, rsize, rtell2, rclose, h_2, h_5, h_9, i_as, fup, i_a0, i0m, i10, eq_self, rb_yes, rb_no, ryes, rno, if_true, if_false, f_tt (p := True), reduceIte, Nat.reduceEqDiff]) | rfl))⟩
        · skip
          have h_11 : ¬ x1 = (0 : Int32) := c_7
          have w_12 : ¬ (x1.toInt = 0) := fun q => c_7 (i_eq.mpr q)
          unfold mb_tellHere_34
          refine PP.ite (fun c_13 => absurd c_13 (by decide)) (fun _ => ?_)
          exact mrj_tellHere_47 (F0 := F) (R0 := (rtell K V fu x1 (F 42) (F 43))) (1 : Int32) ((((F 42) + (1 : Int32)) + (1 : Int32)) - (1 : Int32)) (fup (fup F 42 ((F 42) + (1 : Int32))) 42 (((F 42) + (1 : Int32)) + (1 : Int32))) G g4 g5 ⟨h44, (by first | with_reducible rfl | (simp only [i_as, fup, Nat.reduceEqDiff, reduceIte, if_false]) | rfl), ((rfl : (rtell K V fu x1 (F 42) (F 43)) = _).trans (by first | with_reducible rfl | (simp only [rtell, rsize, rtell2, rclose, h_2, h_5, h_11, i_as, fup, i_a0, i0m, i10, eq_self, rb_yes, rb_no, ryes, rno, if_true, if_false, f_tt (p := True), reduceIte, Nat.reduceEqDiff]) | rfl))⟩
      · skip
        exact absurd (i_npos (show ¬ ((F 44) ≤ (0 : Int32)) from c_6)) (by rw [h44]; decide)
    · dsimp only
      have g_14 : G3 4 = K := Eq.trans (u3.2.2.2 4 rfl) g4
      have g_15 : G3 5 = V := Eq.trans (u3.2.2.2 5 rfl) g5
      have q_16 : F3 42 = ((F 42) + (1 : Int32)) := u3.2.2.1 42 rfl
      have q_17 : F3 43 = (F 43) := u3.2.2.1 43 rfl
      rcases u3b with q | q
      · exact absurd q (show ¬ 0 < (F 44).toInt by rw [h44]; decide)
      · skip
        have h_18 : ¬ K ((F 42) + (1 : Int32)).toNatClampNeg = 1 := by
          rw [← g4]
          have q := q
          first | exact q | (simp only [i_as] at q; exact q)
        unfold mb_tellHere_20
        refine PP.ite (fun c_19 => ?_) (fun c_19 => ?_)
        · skip
          exact absurd (i_le.mp (show (F3 44) ≤ (0 : Int32) from c_19)) (by have := u3.1; have l0 : (0 : Int32).toInt = 0 := rfl; omega)
        · skip
          unfold mb_tellHere_28
          refine PP.ret ?_
          refine Or.inr ⟨rfl, u3.1, (rfl : (rtell K V fu x1 (F 42) (F 43)) = _).trans ?_⟩
          first | with_reducible rfl | (simp only [rtell, rsize, rtell2, rclose, h_2, h_18, q_16, q_17, i_as, fup, i_a0, i0m, i10, eq_self, rb_yes, rb_no, ryes, rno, if_true, if_false, f_tt (p := True), reduceIte, Nat.reduceEqDiff]) | rfl
  · dsimp only
    have h_20 : wdn K V (F 42) (1 : Int32) = false := by
      rw [← g4, ← g5]
      have q := u1
      first | exact q | (simp only [i_as] at q; exact q)
    unfold mb_tellHere_5
    unfold mb_tellHere_16
    refine PP.bind (mp_name (fup F 42 ((F 42) + (1 : Int32))) G) ?_
    rintro r21 F21 G21 (⟨rfl, rfl, rfl, u21⟩ | ⟨rfl, u21, u21b⟩)
    · dsimp only
      have h_22 : K ((F 42) + (1 : Int32)).toNatClampNeg = 1 := by
        rw [← g4]
        have q := u21.1
        first | exact q | (simp only [i_as] at q; exact q)
      have h_23 := eq_true h_22
      unfold mb_tellHere_20
      refine PP.ite (fun c_24 => ?_) (fun c_24 => ?_)
      · skip
        unfold mb_tellHere_30
        refine PP.ite (fun c_25 => ?_) (fun c_25 => ?_)
        · skip
          have h_26 : x1 = (0 : Int32) := c_25
          have h_27 := eq_true h_26
          have w_28 : x1.toInt = 0 := i_eq.mp c_25
          exact mrj_tellHere_210 (F0 := F) (R0 := (rtell K V fu x1 (F 42) (F 43))) x1 ((((F 42) + (1 : Int32)) + (1 : Int32)) - (1 : Int32)) (fup (fup F 42 ((F 42) + (1 : Int32))) 42 (((F 42) + (1 : Int32)) + (1 : Int32))) G g4 g5 ⟨h44, (by first | with_reducible rfl | (simp only [i_as, fup, Nat.reduceEqDiff, reduceIte, if_false]) | rfl), ((rfl : (rtell K V fu x1 (F 42) (F 43)) = _).trans (by first | with_reducible rfl | (simp only [rtell, rsize, rtell2, rclose, h_20, h_23, h_27, i_as, fup, i_a0, i0m, i10, eq_self, rb_yes, rb_no, ryes, rno, if_true, if_false, f_tt (p := True), reduceIte, Nat.reduceEqDiff]) | rfl))⟩
        · skip
          have h_29 : ¬ x1 = (0 : Int32) := c_25
          have w_30 : ¬ (x1.toInt = 0) := fun q => c_25 (i_eq.mpr q)
          unfold mb_tellHere_34
          refine PP.ite (fun _ => ?_) (fun c_31 => absurd (by decide) c_31)
          unfold mb_tellHere_38
          refine PP.bind (mp_isSign (24 : Int32) (fup (fup F 42 ((F 42) + (1 : Int32))) 42 (((F 42) + (1 : Int32)) + (1 : Int32))) G) ?_
          rintro _ _ _ ⟨rfl, rfl, (⟨rfl, u32⟩ | ⟨rfl, u32⟩)⟩
          · dsimp only
            have h_33 : sgn K V (((F 42) + (1 : Int32)) + (1 : Int32)) (24 : Int32) = true := by
              rw [← g4, ← g5]
              have q := u32
              first | exact q | (simp only [i_as] at q; exact q)
            unfold mb_tellHere_44
            refine PP.ite (fun c_34 => absurd c_34 (by decide)) (fun _ => ?_)
            exact mrj_tellHere_47 (F0 := F) (R0 := (rtell K V fu x1 (F 42) (F 43))) (0 : Int32) ((((F 42) + (1 : Int32)) + (1 : Int32)) - (1 : Int32)) (fup (fup F 42 ((F 42) + (1 : Int32))) 42 (((F 42) + (1 : Int32)) + (1 : Int32))) G g4 g5 ⟨h44, (by first | with_reducible rfl | (simp only [i_as, fup, Nat.reduceEqDiff, reduceIte, if_false]) | rfl), ((rfl : (rtell K V fu x1 (F 42) (F 43)) = _).trans (by first | with_reducible rfl | (simp only [rtell, rsize, rtell2, rclose, h_20, h_23, h_29, h_33, i_as, fup, i_a0, i0m, i10, eq_self, rb_yes, rb_no, ryes, rno, if_true, if_false, f_tt (p := True), reduceIte, Nat.reduceEqDiff]) | rfl))⟩
          · dsimp only
            have h_35 : sgn K V (((F 42) + (1 : Int32)) + (1 : Int32)) (24 : Int32) = false := by
              rw [← g4, ← g5]
              have q := u32
              first | exact q | (simp only [i_as] at q; exact q)
            unfold mb_tellHere_44
            refine PP.ite (fun _ => ?_) (fun c_36 => absurd (by decide) c_36)
            exact mrj_tellHere_210 (F0 := F) (R0 := (rtell K V fu x1 (F 42) (F 43))) x1 ((((F 42) + (1 : Int32)) + (1 : Int32)) - (1 : Int32)) (fup (fup F 42 ((F 42) + (1 : Int32))) 42 (((F 42) + (1 : Int32)) + (1 : Int32))) G g4 g5 ⟨h44, (by first | with_reducible rfl | (simp only [i_as, fup, Nat.reduceEqDiff, reduceIte, if_false]) | rfl), ((rfl : (rtell K V fu x1 (F 42) (F 43)) = _).trans (by first | with_reducible rfl | (simp only [rtell, rsize, rtell2, rclose, h_20, h_23, h_29, h_35, i_as, fup, i_a0, i0m, i10, eq_self, rb_yes, rb_no, ryes, rno, if_true, if_false, f_tt (p := True), reduceIte, Nat.reduceEqDiff]) | rfl))⟩
      · skip
        exact absurd (i_npos (show ¬ ((F 44) ≤ (0 : Int32)) from c_24)) (by rw [h44]; decide)
    · dsimp only
      have g_37 : G21 4 = K := Eq.trans (u21.2.2.2 4 rfl) g4
      have g_38 : G21 5 = V := Eq.trans (u21.2.2.2 5 rfl) g5
      have q_39 : F21 42 = ((F 42) + (1 : Int32)) := u21.2.2.1 42 rfl
      have q_40 : F21 43 = (F 43) := u21.2.2.1 43 rfl
      rcases u21b with q | q
      · exact absurd q (show ¬ 0 < (F 44).toInt by rw [h44]; decide)
      · skip
        have h_41 : ¬ K ((F 42) + (1 : Int32)).toNatClampNeg = 1 := by
          rw [← g4]
          have q := q
          first | exact q | (simp only [i_as] at q; exact q)
        unfold mb_tellHere_20
        refine PP.ite (fun c_42 => ?_) (fun c_42 => ?_)
        · skip
          exact absurd (i_le.mp (show (F21 44) ≤ (0 : Int32) from c_42)) (by have := u21.1; have l0 : (0 : Int32).toInt = 0 := rfl; omega)
        · skip
          unfold mb_tellHere_28
          refine PP.ret ?_
          refine Or.inr ⟨rfl, u21.1, (rfl : (rtell K V fu x1 (F 42) (F 43)) = _).trans ?_⟩
          first | with_reducible rfl | (simp only [rtell, rsize, rtell2, rclose, h_20, h_41, q_39, q_40, i_as, fup, i_a0, i0m, i10, eq_self, rb_yes, rb_no, ryes, rno, if_true, if_false, f_tt (p := True), reduceIte, Nat.reduceEqDiff]) | rfl
