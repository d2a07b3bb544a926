theorem mrj_argument_12 {fu : Nat} {K V : Nat → Int32} (rc : RC) (r : RR) (ihK : mKI1 rc) (ih : mRI1 K V rc r) {F0 : PF} {R0 : OR} (F : PF) (G : PG) (g4 : G 4 = K) (g5 : G 5 = V) (hA : (F 44 = 0 ∧ F 43 = F0 43 ∧ R0 = rh_argument K V r (F 42) (F 43))) : PP (mb_argument_12 fu rc F G) (fun r' F' _ => ROK R0 F0 r' F') := by
  rcases hA with ⟨h44, h43, hR⟩
  · skip
    unfold mb_argument_12
    refine PP.bind (PP.and (ihK 4 0 0 F G) (ih.2.2.2 4 0 0 F G g4 g5 (show F 44 = 0 from h44) (fun e => absurd e (by decide)))) ?_
    rintro r1 F1 G1 ⟨hK1, (⟨rfl, u1a, u1b, u1⟩ | ⟨rfl, u1a, u1⟩)⟩
    · dsimp only
      have g_2 : G1 4 = K := Eq.trans (hK1.2 4 rfl) g4
      have g_3 : G1 5 = V := Eq.trans (hK1.2 5 rfl) g5
      have h_4 : r 4 (F 42) (F0 43) = some (some (F1 42)) := by
        have q : r 4 (F 42) (F 43) = some (some (F1 42)) := u1
        simp only [h43, i_as] at q; exact q
      have h_5 := rarg ih.2.1 h_4
      have q_6 : F1 43 = (F0 43) := by
        have q := (show F1 43 = (F 43) from u1b)
        simp only [h43, i_as] at q; exact q
      unfold mb_argument_16
      refine PP.ret ?_
      refine Or.inl ⟨rfl, u1a, ?_, hR.trans ?_⟩
      · show (F1 43) = F0 43
        first | with_reducible rfl | (simp only [h43, q_6, i_as, fup, Nat.reduceEqDiff, reduceIte, if_false]) | rfl
      · show _ = some (some (F1 42))
        first | with_reducible rfl | (simp only [h_5, h43, q_6, i_as, fup, i_a0, i0m, i10, eq_self, rb_yes, rb_no, ryes, rno, if_true, if_false, f_tt (p := True), reduceIte, Nat.reduceEqDiff]) | rfl
    · dsimp only
      have g_7 : G1 4 = K := Eq.trans (hK1.2 4 rfl) g4
      have g_8 : G1 5 = V := Eq.trans (hK1.2 5 rfl) g5
      have h_9 : r 4 (F 42) (F0 43) = some (none) := by
        have q : r 4 (F 42) (F 43) = some (none) := u1
        simp only [h43, i_as] at q; exact q
      have h_10 := rarg ih.2.1 h_9
      unfold mb_argument_16
      refine PP.ret ?_
      refine Or.inr ⟨rfl, u1a, hR.trans ?_⟩
      first | with_reducible rfl | (simp only [h_10, h43, i_as, fup, i_a0, i0m, i10, eq_self, rb_yes, rb_no, ryes, rno, if_true, if_false, f_tt (p := True), reduceIte, Nat.reduceEqDiff]) | rfl
theorem mrj_argument_314 {fu : Nat} {K V : Nat → Int32} (rc : RC) (r : RR) (ihK : mKI1 rc) (ih : mRI1 K V rc r) {F0 : PF} {R0 : OR} (z0 : Int32) (z1 : Int32) (F : PF) (G : PG) (g4 : G 4 = K) (g5 : G 5 = V) (hA : (F 44 = 0 ∧ F 43 = F0 43 ∧ R0 = ryes (F 42))) : PP (mb_argument_314 fu rc z0 z1 F G) (fun r' F' _ => ROK R0 F0 r' F') := by
  rcases hA with ⟨h44, h43, hR⟩
  · skip
    unfold mb_argument_314
    refine PP.ix (fun _ => ?_)
    unfold mb_argument_315
    refine PP.ret ?_
    refine Or.inl ⟨rfl, h44, ?_, hR.trans ?_⟩
    · show (F 43) = F0 43
      first | with_reducible rfl | (simp only [h43, i_as, fup, Nat.reduceEqDiff, reduceIte, if_false]) | rfl
    · show _ = some (some (F 42))
      first | with_reducible rfl | (simp only [h43, i_as, fup, i_a0, i0m, i10, eq_self, rb_yes, rb_no, ryes, rno, if_true, if_false, f_tt (p := True), reduceIte, Nat.reduceEqDiff]) | rfl
theorem mrj_argument_313 {fu : Nat} {K V : Nat → Int32} (rc : RC) (r : RR) (ihK : mKI1 rc) (ih : mRI1 K V rc r) {F0 : PF} {R0 : OR} (z0 : Int32) (F : PF) (G : PG) (g4 : G 4 = K) (g5 : G 5 = V) (hA : (F 44 = 0 ∧ F 43 = F0 43 ∧ R0 = ryes (F 42))) : PP (mb_argument_313 fu rc z0 F G) (fun r' F' _ => ROK R0 F0 r' F') := by
  rcases hA with ⟨h44, h43, hR⟩
  · skip
    unfold mb_argument_313
    exact mrj_argument_314 rc r ihK ih (F0 := F0) (R0 := R0) (0 : Int32) z0 F G g4 g5 ⟨h44, (by first | with_reducible rfl | (simp only [h43, i_as, fup, Nat.reduceEqDiff, reduceIte, if_false]) | rfl), (hR.trans (by first | with_reducible rfl | (simp only [h43, i_as, fup, i_a0, i0m, i10, eq_self, rb_yes, rb_no, ryes, rno, if_true, if_false, f_tt (p := True), reduceIte, Nat.reduceEqDiff]) | rfl))⟩
theorem mrj_argument_282 {fu : Nat} {K V : Nat → Int32} (rc : RC) (r : RR) (ihK : mKI1 rc) (ih : mRI1 K V rc r) {F0 : PF} {R0 : OR} (x6 : Int32) (z0 : Int32) (z1 : Int32) (z2 : Int32) (F : PF) (G : PG) (g4 : G 4 = K) (g5 : G 5 = V) (hA : (F 44 = 0 ∧ F 43 = F0 43 ∧ R0 = ryes (F 42))) : PP (mb_argument_282 fu rc x6 z0 z1 z2 F G) (fun r' F' _ => ROK R0 F0 r' F') := by
  rcases hA with ⟨h44, h43, hR⟩
  · skip
    unfold mb_argument_282
    refine PP.bind (mw_step z2 z1 z0 F G) ?_
    intro r1 F1 G1 hK1
    dsimp only
    have g_2 : G1 4 = K := Eq.trans (hK1.2 4 rfl) g4
    have g_3 : G1 5 = V := Eq.trans (hK1.2 5 rfl) g5
    have q_4 : F1 42 = (F 42) := hK1.1 42 rfl
    have q_5 : F1 43 = (F0 43) := Eq.trans (hK1.1 43 rfl) (show (F 43) = (F0 43) by simp only [h43, i_as])
    have q_6 : F1 44 = 0 := Eq.trans (hK1.1 44 rfl) h44
    unfold mb_argument_285
    refine PP.ite (fun c_7 => ?_) (fun c_7 => ?_)
    · skip
      exact mrj_argument_313 rc r ihK ih (F0 := F0) (R0 := R0) r1 F1 G1 g_2 g_3 ⟨q_6, (by first | with_reducible rfl | (simp only [h43, q_4, q_5, i_as, fup, Nat.reduceEqDiff, reduceIte, if_false]) | rfl), (hR.trans (by first | with_reducible rfl | (simp only [h43, q_4, q_5, i_as, fup, i_a0, i0m, i10, eq_self, rb_yes, rb_no, ryes, rno, if_true, if_false, f_tt (p := True), reduceIte, Nat.reduceEqDiff]) | rfl))⟩
    · skip
      unfold mb_argument_299
      refine PP.ix (fun _ => ?_)
      refine PP.ite (fun c_8 => ?_) (fun c_8 => ?_)
      · skip
        exact mrj_argument_313 rc r ihK ih (F0 := F0) (R0 := R0) r1 F1 G1 g_2 g_3 ⟨q_6, (by first | with_reducible rfl | (simp only [h43, q_4, q_5, i_as, fup, Nat.reduceEqDiff, reduceIte, if_false]) | rfl), (hR.trans (by first | with_reducible rfl | (simp only [h43, q_4, q_5, i_as, fup, i_a0, i0m, i10, eq_self, rb_yes, rb_no, ryes, rno, if_true, if_false, f_tt (p := True), reduceIte, Nat.reduceEqDiff]) | rfl))⟩
      · skip
        unfold mb_argument_309
        exact mrj_argument_314 rc r ihK ih (F0 := F0) (R0 := R0) (1 : Int32) r1 F1 G1 g_2 g_3 ⟨q_6, (by first | with_reducible rfl | (simp only [h43, q_4, q_5, i_as, fup, Nat.reduceEqDiff, reduceIte, if_false]) | rfl), (hR.trans (by first | with_reducible rfl | (simp only [h43, q_4, q_5, i_as, fup, i_a0, i0m, i10, eq_self, rb_yes, rb_no, ryes, rno, if_true, if_false, f_tt (p := True), reduceIte, Nat.reduceEqDiff]) | rfl))⟩
theorem mrj_argument_265 {fu : Nat} {K V : Nat → Int32} (rc : RC) (r : RR) (ihK : mKI1 rc) (ih : mRI1 K V rc r) {F0 : PF} {R0 : OR} (x6 : Int32) (z0 : Int32) (z1 : Int32) (F : PF) (G : PG) (g4 : G 4 = K) (g5 : G 5 = V) (hA : (F 44 = 0 ∧ F 43 = F0 43 ∧ R0 = ryes (F 42))) : PP (mb_argument_265 fu rc x6 z0 z1 F G) (fun r' F' _ => ROK R0 F0 r' F') := by
  rcases hA with ⟨h44, h43, hR⟩
  · skip
    unfold mb_argument_265
    refine PP.ite (fun c_1 => ?_) (fun c_1 => ?_)
    · skip
      unfold mb_argument_271
      exact mrj_argument_282 rc r ihK ih (F0 := F0) (R0 := R0) x6 (1 : Int32) z0 z1 F G g4 g5 ⟨h44, (by first | with_reducible rfl | (simp only [h43, i_as, fup, Nat.reduceEqDiff, reduceIte, if_false]) | rfl), (hR.trans (by first | with_reducible rfl | (simp only [h43, i_as, fup, i_a0, i0m, i10, eq_self, rb_yes, rb_no, ryes, rno, if_true, if_false, f_tt (p := True), reduceIte, Nat.reduceEqDiff]) | rfl))⟩
    · skip
      unfold mb_argument_275
      refine PP.ix (fun _ => ?_)
      exact mrj_argument_282 rc r ihK ih (F0 := F0) (R0 := R0) x6 (G 21 x6.toNatClampNeg) z0 z1 F G g4 g5 ⟨h44, (by first | with_reducible rfl | (simp only [h43, i_as, fup, Nat.reduceEqDiff, reduceIte, if_false]) | rfl), (hR.trans (by first | with_reducible rfl | (simp only [h43, i_as, fup, i_a0, i0m, i10, eq_self, rb_yes, rb_no, ryes, rno, if_true, if_false, f_tt (p := True), reduceIte, Nat.reduceEqDiff]) | rfl))⟩
theorem mrj_argument_236 {fu : Nat} {K V : Nat → Int32} (rc : RC) (r : RR) (ihK : mKI1 rc) (ih : mRI1 K V rc r) {F0 : PF} {R0 : OR} (x6 : Int32) (F : PF) (G : PG) (g4 : G 4 = K) (g5 : G 5 = V) (hA : (F 44 = 0 ∧ F 43 = F0 43 ∧ R0 = ryes ((F 42) + 1))) : PP (mb_argument_236 fu rc x6 F G) (fun r' F' _ => ROK R0 F0 r' F') := by
  rcases hA with ⟨h44, h43, hR⟩
  · skip
    unfold mb_argument_236
    unfold mb_argument_246
    refine PP.ite (fun c_1 => ?_) (fun c_1 => ?_)
    · skip
      unfold mb_argument_254
      exact mrj_argument_265 rc r ihK ih (F0 := F0) (R0 := R0) x6 (0 : Int32) (5 : Int32) (fup F 42 ((F 42) + (1 : Int32))) G g4 g5 ⟨h44, (by first | with_reducible rfl | (simp only [h43, i_as, fup, Nat.reduceEqDiff, reduceIte, if_false]) | rfl), (hR.trans (by first | with_reducible rfl | (simp only [h43, i_as, fup, i_a0, i0m, i10, eq_self, rb_yes, rb_no, ryes, rno, if_true, if_false, f_tt (p := True), reduceIte, Nat.reduceEqDiff]) | rfl))⟩
    · skip
      unfold mb_argument_258
      refine PP.ix (fun _ => ?_)
      exact mrj_argument_265 rc r ihK ih (F0 := F0) (R0 := R0) x6 (G 20 x6.toNatClampNeg) (5 : Int32) (fup F 42 ((F 42) + (1 : Int32))) G g4 g5 ⟨h44, (by first | with_reducible rfl | (simp only [h43, i_as, fup, Nat.reduceEqDiff, reduceIte, if_false]) | rfl), (hR.trans (by first | with_reducible rfl | (simp only [h43, i_as, fup, i_a0, i0m, i10, eq_self, rb_yes, rb_no, ryes, rno, if_true, if_false, f_tt (p := True), reduceIte, Nat.reduceEqDiff]) | rfl))⟩
theorem mrj_argument_229 {fu : Nat} {K V : Nat → Int32} (rc : RC) (r : RR) (ihK : mKI1 rc) (ih : mRI1 K V rc r) {F0 : PF} {R0 : OR} (x3 : Int32) (x6 : Int32) (F : PF) (G : PG) (g4 : G 4 = K) (g5 : G 5 = V) (hA : (F 44 = 0 ∧ F 43 = F0 43 ∧ R0 = ryes ((F 42) + 1))) : PP (mb_argument_229 fu rc x3 x6 F G) (fun r' F' _ => ROK R0 F0 r' F') := by
  rcases hA with ⟨h44, h43, hR⟩
  · skip
    unfold mb_argument_229
    refine PP.bind (mw_note (7 : Int32) x3 F G) ?_
    intro r1 F1 G1 hK1
    dsimp only
    have g_2 : G1 4 = K := Eq.trans (hK1.2 4 rfl) g4
    have g_3 : G1 5 = V := Eq.trans (hK1.2 5 rfl) g5
    have q_4 : F1 42 = (F 42) := hK1.1 42 rfl
    have q_5 : F1 43 = (F0 43) := Eq.trans (hK1.1 43 rfl) (show (F 43) = (F0 43) by simp only [h43, i_as])
    have q_6 : F1 44 = 0 := Eq.trans (hK1.1 44 rfl) h44
    exact mrj_argument_236 rc r ihK ih (F0 := F0) (R0 := R0) x6 F1 G1 g_2 g_3 ⟨q_6, (by first | with_reducible rfl | (simp only [h43, q_4, q_5, i_as, fup, Nat.reduceEqDiff, reduceIte, if_false]) | rfl), (hR.trans (by first | with_reducible rfl | (simp only [h43, q_4, q_5, i_as, fup, i_a0, i0m, i10, eq_self, rb_yes, rb_no, ryes, rno, if_true, if_false, f_tt (p := True), reduceIte, Nat.reduceEqDiff]) | rfl))⟩
theorem mrj_argument_191 {fu : Nat} {K V : Nat → Int32} (rc : RC) (r : RR) (ihK : mKI1 rc) (ih : mRI1 K V rc r) {F0 : PF} {R0 : OR} (x3 : Int32) (x4 : Int32) (x6 : Int32) (F : PF) (G : PG) (g4 : G 4 = K) (g5 : G 5 = V) (hA : (F 44 = 0 ∧ F 43 = F0 43 ∧ R0 = ryes ((F 42) + 1))) : PP (mb_argument_191 fu rc x3 x4 x6 F G) (fun r' F' _ => ROK R0 F0 r' F') := by
  rcases hA with ⟨h44, h43, hR⟩
  · skip
    unfold mb_argument_191
    refine PP.ite (fun c_1 => ?_) (fun c_1 => ?_)
    · skip
      exact mrj_argument_229 rc r ihK ih (F0 := F0) (R0 := R0) x3 x6 F G g4 g5 ⟨h44, (by first | with_reducible rfl | (simp only [h43, i_as, fup, Nat.reduceEqDiff, reduceIte, if_false]) | rfl), (hR.trans (by first | with_reducible rfl | (simp only [h43, i_as, fup, i_a0, i0m, i10, eq_self, rb_yes, rb_no, ryes, rno, if_true, if_false, f_tt (p := True), reduceIte, Nat.reduceEqDiff]) | rfl))⟩
    · skip
      unfold mb_argument_197
      refine PP.ix (fun _ => ?_)
      refine PP.ite (fun c_2 => ?_) (fun c_2 => ?_)
      · skip
        unfold mb_argument_208
        refine PP.ix (fun _ => ?_)
        refine PP.ite (fun c_3 => ?_) (fun c_3 => ?_)
        · skip
          unfold mb_argument_221
          unfold mb_argument_226
          refine PP.ite (fun c_4 => ?_) (fun c_4 => ?_)
          · skip
            exact mrj_argument_236 rc r ihK ih (F0 := F0) (R0 := R0) x6 F G g4 g5 ⟨h44, (by first | with_reducible rfl | (simp only [h43, i_as, fup, Nat.reduceEqDiff, reduceIte, if_false]) | rfl), (hR.trans (by first | with_reducible rfl | (simp only [h43, i_as, fup, i_a0, i0m, i10, eq_self, rb_yes, rb_no, ryes, rno, if_true, if_false, f_tt (p := True), reduceIte, Nat.reduceEqDiff]) | rfl))⟩
          · skip
            exact mrj_argument_229 rc r ihK ih (F0 := F0) (R0 := R0) x3 x6 F G g4 g5 ⟨h44, (by first | with_reducible rfl | (simp only [h43, i_as, fup, Nat.reduceEqDiff, reduceIte, if_false]) | rfl), (hR.trans (by first | with_reducible rfl | (simp only [h43, i_as, fup, i_a0, i0m, i10, eq_self, rb_yes, rb_no, ryes, rno, if_true, if_false, f_tt (p := True), reduceIte, Nat.reduceEqDiff]) | rfl))⟩
        · skip
          unfold mb_argument_225
          unfold mb_argument_226
          refine PP.ite (fun c_5 => ?_) (fun c_5 => ?_)
          · skip
            exact mrj_argument_236 rc r ihK ih (F0 := F0) (R0 := R0) x6 F G g4 g5 ⟨h44, (by first | with_reducible rfl | (simp only [h43, i_as, fup, Nat.reduceEqDiff, reduceIte, if_false]) | rfl), (hR.trans (by first | with_reducible rfl | (simp only [h43, i_as, fup, i_a0, i0m, i10, eq_self, rb_yes, rb_no, ryes, rno, if_true, if_false, f_tt (p := True), reduceIte, Nat.reduceEqDiff]) | rfl))⟩
          · skip
            exact mrj_argument_229 rc r ihK ih (F0 := F0) (R0 := R0) x3 x6 F G g4 g5 ⟨h44, (by first | with_reducible rfl | (simp only [h43, i_as, fup, Nat.reduceEqDiff, reduceIte, if_false]) | rfl), (hR.trans (by first | with_reducible rfl | (simp only [h43, i_as, fup, i_a0, i0m, i10, eq_self, rb_yes, rb_no, ryes, rno, if_true, if_false, f_tt (p := True), reduceIte, Nat.reduceEqDiff]) | rfl))⟩
      · skip
        exact mrj_argument_229 rc r ihK ih (F0 := F0) (R0 := R0) x3 x6 F G g4 g5 ⟨h44, (by first | with_reducible rfl | (simp only [h43, i_as, fup, Nat.reduceEqDiff, reduceIte, if_false]) | rfl), (hR.trans (by first | with_reducible rfl | (simp only [h43, i_as, fup, i_a0, i0m, i10, eq_self, rb_yes, rb_no, ryes, rno, if_true, if_false, f_tt (p := True), reduceIte, Nat.reduceEqDiff]) | rfl))⟩
theorem mrj_argument_139 {fu : Nat} {K V : Nat → Int32} (rc : RC) (r : RR) (ihK : mKI1 rc) (ih : mRI1 K V rc r) {F0 : PF} {R0 : OR} (x3 : Int32) (x4 : Int32) (z0 : Int32) (F : PF) (G : PG) (g4 : G 4 = K) (g5 : G 5 = V) (hA : (z0 = 1 ∧ F 44 = 0 ∧ F 43 = F0 43 ∧ R0 = ryes ((F 42) + 1)) ∨ (z0 = 0 ∧ F 44 = 0 ∧ F 43 = F0 43 ∧ R0 = rh_argument K V r (F 42) (F 43))) : PP (mb_argument_139 fu rc x3 x4 z0 F G) (fun r' F' _ => ROK R0 F0 r' F') := by
  rcases hA with ⟨rfl, h44, h43, hR⟩ | ⟨rfl, h44, h43, hR⟩
  · skip
    unfold mb_argument_139
    refine PP.ite (fun c_1 => absurd c_1 (by decide)) (fun _ => ?_)
    unfold mb_argument_158
    refine PP.bind (mw_meaning (F 42) F G) ?_
    intro r2 F2 G2 hK2
    dsimp only
    have g_3 : G2 4 = K := Eq.trans (hK2.2 4 rfl) g4
    have g_4 : G2 5 = V := Eq.trans (hK2.2 5 rfl) g5
    have q_5 : F2 42 = (F 42) := hK2.1 42 rfl
    have q_6 : F2 43 = (F0 43) := Eq.trans (hK2.1 43 rfl) (show (F 43) = (F0 43) by simp only [h43, i_as])
    have q_7 : F2 44 = 0 := Eq.trans (hK2.1 44 rfl) h44
    unfold mb_argument_166
    refine PP.ite (fun c_8 => ?_) (fun c_8 => ?_)
    · skip
      unfold mb_argument_174
      refine PP.ite (fun c_9 => ?_) (fun c_9 => ?_)
      · skip
        unfold mb_argument_182
        refine PP.bind (mw_note (4 : Int32) x3 F2 G2) ?_
        intro r10 F10 G10 hK10
        dsimp only
        have g_11 : G10 4 = K := Eq.trans (hK10.2 4 rfl) g_3
        have g_12 : G10 5 = V := Eq.trans (hK10.2 5 rfl) g_4
        have q_13 : F10 42 = (F 42) := Eq.trans (hK10.1 42 rfl) (show (F2 42) = (F 42) by simp only [q_5, q_6, i_as])
        have q_14 : F10 43 = (F0 43) := Eq.trans (hK10.1 43 rfl) (show (F2 43) = (F0 43) by simp only [q_5, q_6, i_as])
        have q_15 : F10 44 = 0 := Eq.trans (hK10.1 44 rfl) q_7
        unfold mb_argument_188
        exact mrj_argument_236 rc r ihK ih (F0 := F0) (R0 := R0) r2 F10 G10 g_11 g_12 ⟨q_15, (by first | with_reducible rfl | (simp only [h43, q_5, q_6, q_13, q_14, i_as, fup, Nat.reduceEqDiff, reduceIte, if_false]) | rfl), (hR.trans (by first | with_reducible rfl | (simp only [h43, q_5, q_6, q_13, q_14, i_as, fup, i_a0, i0m, i10, eq_self, rb_yes, rb_no, ryes, rno, if_true, if_false, f_tt (p := True), reduceIte, Nat.reduceEqDiff]) | rfl))⟩
      · skip
        exact mrj_argument_191 rc r ihK ih (F0 := F0) (R0 := R0) x3 x4 r2 F2 G2 g_3 g_4 ⟨q_7, (by first | with_reducible rfl | (simp only [h43, q_5, q_6, i_as, fup, Nat.reduceEqDiff, reduceIte, if_false]) | rfl), (hR.trans (by first | with_reducible rfl | (simp only [h43, q_5, q_6, i_as, fup, i_a0, i0m, i10, eq_self, rb_yes, rb_no, ryes, rno, if_true, if_false, f_tt (p := True), reduceIte, Nat.reduceEqDiff]) | rfl))⟩
    · skip
      exact mrj_argument_191 rc r ihK ih (F0 := F0) (R0 := R0) x3 x4 r2 F2 G2 g_3 g_4 ⟨q_7, (by first | with_reducible rfl | (simp only [h43, q_5, q_6, i_as, fup, Nat.reduceEqDiff, reduceIte, if_false]) | rfl), (hR.trans (by first | with_reducible rfl | (simp only [h43, q_5, q_6, i_as, fup, i_a0, i0m, i10, eq_self, rb_yes, rb_no, ryes, rno, if_true, if_false, f_tt (p := True), reduceIte, Nat.reduceEqDiff]) | rfl))⟩
  · skip
    unfold mb_argument_139
    refine PP.ite (fun _ => ?_) (fun c_16 => absurd (by decide) c_16)
    unfold mb_argument_146
    refine PP.bind (mw_note (7 : Int32) x3 F G) ?_
    intro r17 F17 G17 hK17
    dsimp only
    have g_18 : G17 4 = K := Eq.trans (hK17.2 4 rfl) g4
    have g_19 : G17 5 = V := Eq.trans (hK17.2 5 rfl) g5
    have q_20 : F17 42 = (F 42) := hK17.1 42 rfl
    have q_21 : F17 43 = (F0 43) := Eq.trans (hK17.1 43 rfl) (show (F 43) = (F0 43) by simp only [h43, i_as])
    have q_22 : F17 44 = 0 := Eq.trans (hK17.1 44 rfl) h44
    unfold mb_argument_153
    refine PP.bind (PP.and (ihK 4 0 0 F17 G17) (ih.2.2.2 4 0 0 F17 G17 g_18 g_19 (show F17 44 = 0 from q_22) (fun e => absurd e (by decide)))) ?_
    rintro r23 F23 G23 ⟨hK23, (⟨rfl, u23a, u23b, u23⟩ | ⟨rfl, u23a, u23⟩)⟩
    · dsimp only
      have g_24 : G23 4 = K := Eq.trans (hK23.2 4 rfl) g_18
      have g_25 : G23 5 = V := Eq.trans (hK23.2 5 rfl) g_19
      have h_26 : r 4 (F 42) (F0 43) = some (some (F23 42)) := by
        have q : r 4 (F17 42) (F17 43) = some (some (F23 42)) := u23
        simp only [q_20, q_21, i_as] at q; exact q
      have h_27 := rarg ih.2.1 h_26
      have q_28 : F23 43 = (F0 43) := by
        have q := (show F23 43 = (F17 43) from u23b)
        simp only [q_20, q_21, i_as] at q; exact q
      unfold mb_argument_157
      refine PP.ret ?_
      refine Or.inl ⟨rfl, u23a, ?_, hR.trans ?_⟩
      · show (F23 43) = F0 43
        first | with_reducible rfl | (simp only [h43, q_20, q_21, q_28, i_as, fup, Nat.reduceEqDiff, reduceIte, if_false]) | rfl
      · show _ = some (some (F23 42))
        first | with_reducible rfl | (simp only [h_27, h43, q_20, q_21, q_28, i_as, fup, i_a0, i0m, i10, eq_self, rb_yes, rb_no, ryes, rno, if_true, if_false, f_tt (p := True), reduceIte, Nat.reduceEqDiff]) | rfl
    · dsimp only
      have g_29 : G23 4 = K := Eq.trans (hK23.2 4 rfl) g_18
      have g_30 : G23 5 = V := Eq.trans (hK23.2 5 rfl) g_19
      have h_31 : r 4 (F 42) (F0 43) = some (none) := by
        have q : r 4 (F17 42) (F17 43) = some (none) := u23
        simp only [q_20, q_21, i_as] at q; exact q
      have h_32 := rarg ih.2.1 h_31
      unfold mb_argument_157
      refine PP.ret ?_
      refine Or.inr ⟨rfl, u23a, hR.trans ?_⟩
      first | with_reducible rfl | (simp only [h_32, h43, q_20, q_21, i_as, fup, i_a0, i0m, i10, eq_self, rb_yes, rb_no, ryes, rno, if_true, if_false, f_tt (p := True), reduceIte, Nat.reduceEqDiff]) | rfl
theorem mrt_argument {fu : Nat} {K V : Nat → Int32} (rc : RC) (r : RR) (ihK : mKI1 rc) (ih : mRI1 K V rc r) (x1 : Int32) (x2 : Int32) (F : PF) (G : PG) (g4 : G 4 = K) (g5 : G 5 = V) (h44 : F 44 = 0) : PP (mh_argument fu rc x1 x2 F G) (fun r' F' _ => ROK (rh_argument K V r (F 42) (F 43)) F r' F') := by
  unfold mh_argument
  unfold mb_argument_0
  refine PP.ite (fun c_1 => ?_) (fun c_1 => ?_)
  · skip
    unfold mb_argument_7
    refine PP.ite (fun c_2 => ?_) (fun c_2 => ?_)
    · skip
      exact mrj_argument_12 rc r ihK ih (F0 := F) (R0 := (rh_argument K V r (F 42) (F 43))) F G g4 g5 ⟨h44, (by first | with_reducible rfl | (simp only [i_as, fup, Nat.reduceEqDiff, reduceIte, if_false]) | rfl), ((rfl : (rh_argument K V r (F 42) (F 43)) = _).trans (by first | with_reducible rfl | (simp only [i_as, fup, i_a0, i0m, i10, eq_self, rb_yes, rb_no, ryes, rno, if_true, if_false, f_tt (p := True), reduceIte, Nat.reduceEqDiff]) | rfl))⟩
    · skip
      unfold mb_argument_17
      refine PP.ix (fun _ => ?_)
      refine PP.ix (fun _ => ?_)
      refine PP.ite (fun c_3 => ?_) (fun c_3 => ?_)
      · skip
        unfold mb_argument_49
        refine PP.ix (fun _ => ?_)
        refine PP.ix (fun _ => ?_)
        refine PP.ite (fun c_4 => ?_) (fun c_4 => ?_)
        · skip
          unfold mb_argument_69
          refine PP.bind (PP.and (ihK 4 0 0 F G) (ih.2.2.2 4 0 0 F G g4 g5 (show F 44 = 0 from h44) (fun e => absurd e (by decide)))) ?_
          rintro r5 F5 G5 ⟨hK5, (⟨rfl, u5a, u5b, u5⟩ | ⟨rfl, u5a, u5⟩)⟩
          · dsimp only
            have g_6 : G5 4 = K := Eq.trans (hK5.2 4 rfl) g4
            have g_7 : G5 5 = V := Eq.trans (hK5.2 5 rfl) g5
            have h_8 : r 4 (F 42) (F 43) = some (some (F5 42)) := u5
            have h_9 := rarg ih.2.1 h_8
            have q_10 : F5 43 = (F 43) := (show F5 43 = (F 43) from u5b)
            unfold mb_argument_73
            refine PP.ret ?_
            refine Or.inl ⟨rfl, u5a, ?_, (rfl : (rh_argument K V r (F 42) (F 43)) = _).trans ?_⟩
            · show (F5 43) = F 43
              first | with_reducible rfl | (simp only [q_10, i_as, fup, Nat.reduceEqDiff, reduceIte, if_false]) | rfl
            · show _ = some (some (F5 42))
              first | with_reducible rfl | (simp only [h_9, q_10, i_as, fup, i_a0, i0m, i10, eq_self, rb_yes, rb_no, ryes, rno, if_true, if_false, f_tt (p := True), reduceIte, Nat.reduceEqDiff]) | rfl
          · dsimp only
            have g_11 : G5 4 = K := Eq.trans (hK5.2 4 rfl) g4
            have g_12 : G5 5 = V := Eq.trans (hK5.2 5 rfl) g5
            have h_13 : r 4 (F 42) (F 43) = some (none) := u5
            have h_14 := rarg ih.2.1 h_13
            unfold mb_argument_73
            refine PP.ret ?_
            refine Or.inr ⟨rfl, u5a, (rfl : (rh_argument K V r (F 42) (F 43)) = _).trans ?_⟩
            first | with_reducible rfl | (simp only [h_14, i_as, fup, i_a0, i0m, i10, eq_self, rb_yes, rb_no, ryes, rno, if_true, if_false, f_tt (p := True), reduceIte, Nat.reduceEqDiff]) | rfl
        · skip
          unfold mb_argument_74
          refine PP.ix (fun _ => ?_)
          refine PP.ite (fun c_15 => ?_) (fun c_15 => ?_)
          · skip
            have h_16 : K (F 42).toNatClampNeg = (1 : Int32) := by
              rw [← g4]
              have q := c_15
              first | exact q | (simp only [i_as] at q; exact q)
            have h_17 := eq_true h_16
            unfold mb_argument_87
            refine PP.ix (fun _ => ?_)
            refine PP.ite (fun c_18 => ?_) (fun c_18 => ?_)
            · skip
              have h_19 : K ((F 42) + (1 : Int32)).toNatClampNeg = (4 : Int32) := by
                rw [← g4]
                have q := c_18
                first | exact q | (simp only [i_as] at q; exact q)
              have h_20 := eq_true h_19
              unfold mb_argument_102
              refine PP.ix (fun _ => ?_)
              refine PP.ite (fun c_21 => ?_) (fun c_21 => ?_)
              · skip
                have h_22 : V ((F 42) + (1 : Int32)).toNatClampNeg = (28 : Int32) := by
                  rw [← g5]
                  have q := c_21
                  first | exact q | (simp only [i_as] at q; exact q)
                have h_23 := eq_true h_22
                unfold mb_argument_134
                exact mrj_argument_139 rc r ihK ih (F0 := F) (R0 := (rh_argument K V r (F 42) (F 43))) (G 6 (F 42).toNatClampNeg) (G 34 ((G 31 x1.toNatClampNeg) + x2).toNatClampNeg) (1 : Int32) F G g4 g5 (Or.inl ⟨rfl, h44, (by first | with_reducible rfl | (simp only [i_as, fup, Nat.reduceEqDiff, reduceIte, if_false]) | rfl), ((rfl : (rh_argument K V r (F 42) (F 43)) = _).trans (by first | exact rarg1 (by assumption) (by assumption) (Or.inl (by assumption)) | exact rarg1 (by assumption) (by assumption) (Or.inr (by assumption))))⟩)
              · skip
                have h_24 : ¬ V ((F 42) + (1 : Int32)).toNatClampNeg = (28 : Int32) := by
                  rw [← g5]
                  have q := c_21
                  first | exact q | (simp only [i_as] at q; exact q)
                unfold mb_argument_118
                refine PP.ix (fun _ => ?_)
                refine PP.ite (fun c_25 => ?_) (fun c_25 => ?_)
                · skip
                  have h_26 : V ((F 42) + (1 : Int32)).toNatClampNeg = (23 : Int32) := by
                    rw [← g5]
                    have q := c_25
                    first | exact q | (simp only [i_as] at q; exact q)
                  have h_27 := eq_true h_26
                  unfold mb_argument_134
                  exact mrj_argument_139 rc r ihK ih (F0 := F) (R0 := (rh_argument K V r (F 42) (F 43))) (G 6 (F 42).toNatClampNeg) (G 34 ((G 31 x1.toNatClampNeg) + x2).toNatClampNeg) (1 : Int32) F G g4 g5 (Or.inl ⟨rfl, h44, (by first | with_reducible rfl | (simp only [i_as, fup, Nat.reduceEqDiff, reduceIte, if_false]) | rfl), ((rfl : (rh_argument K V r (F 42) (F 43)) = _).trans (by first | exact rarg1 (by assumption) (by assumption) (Or.inl (by assumption)) | exact rarg1 (by assumption) (by assumption) (Or.inr (by assumption))))⟩)
                · skip
                  have h_28 : ¬ V ((F 42) + (1 : Int32)).toNatClampNeg = (23 : Int32) := by
                    rw [← g5]
                    have q := c_25
                    first | exact q | (simp only [i_as] at q; exact q)
                  unfold mb_argument_138
                  exact mrj_argument_139 rc r ihK ih (F0 := F) (R0 := (rh_argument K V r (F 42) (F 43))) (G 6 (F 42).toNatClampNeg) (G 34 ((G 31 x1.toNatClampNeg) + x2).toNatClampNeg) (0 : Int32) F G g4 g5 (Or.inr ⟨rfl, h44, (by first | with_reducible rfl | (simp only [i_as, fup, Nat.reduceEqDiff, reduceIte, if_false]) | rfl), ((rfl : (rh_argument K V r (F 42) (F 43)) = _).trans (by first | with_reducible rfl | (simp only [h_17, h_20, h_24, h_28, i_as, fup, i_a0, i0m, i10, eq_self, rb_yes, rb_no, ryes, rno, if_true, if_false, f_tt (p := True), reduceIte, Nat.reduceEqDiff]) | rfl))⟩)
            · skip
              have h_29 : ¬ K ((F 42) + (1 : Int32)).toNatClampNeg = (4 : Int32) := by
                rw [← g4]
                have q := c_18
                first | exact q | (simp only [i_as] at q; exact q)
              unfold mb_argument_138
              exact mrj_argument_139 rc r ihK ih (F0 := F) (R0 := (rh_argument K V r (F 42) (F 43))) (G 6 (F 42).toNatClampNeg) (G 34 ((G 31 x1.toNatClampNeg) + x2).toNatClampNeg) (0 : Int32) F G g4 g5 (Or.inr ⟨rfl, h44, (by first | with_reducible rfl | (simp only [i_as, fup, Nat.reduceEqDiff, reduceIte, if_false]) | rfl), ((rfl : (rh_argument K V r (F 42) (F 43)) = _).trans (by first | with_reducible rfl | (simp only [h_17, h_29, i_as, fup, i_a0, i0m, i10, eq_self, rb_yes, rb_no, ryes, rno, if_true, if_false, f_tt (p := True), reduceIte, Nat.reduceEqDiff]) | rfl))⟩)
          · skip
            have h_30 : ¬ K (F 42).toNatClampNeg = (1 : Int32) := by
              rw [← g4]
              have q := c_15
              first | exact q | (simp only [i_as] at q; exact q)
            unfold mb_argument_138
            exact mrj_argument_139 rc r ihK ih (F0 := F) (R0 := (rh_argument K V r (F 42) (F 43))) (G 6 (F 42).toNatClampNeg) (G 34 ((G 31 x1.toNatClampNeg) + x2).toNatClampNeg) (0 : Int32) F G g4 g5 (Or.inr ⟨rfl, h44, (by first | with_reducible rfl | (simp only [i_as, fup, Nat.reduceEqDiff, reduceIte, if_false]) | rfl), ((rfl : (rh_argument K V r (F 42) (F 43)) = _).trans (by first | with_reducible rfl | (simp only [h_30, i_as, fup, i_a0, i0m, i10, eq_self, rb_yes, rb_no, ryes, rno, if_true, if_false, f_tt (p := True), reduceIte, Nat.reduceEqDiff]) | rfl))⟩)
      · skip
        unfold mb_argument_37
        refine PP.bind (mw_note (7 : Int32) (G 6 (F 42).toNatClampNeg) F G) ?_
        intro r31 F31 G31 hK31
        dsimp only
        have g_32 : G31 4 = K := Eq.trans (hK31.2 4 rfl) g4
        have g_33 : G31 5 = V := Eq.trans (hK31.2 5 rfl) g5
        have q_34 : F31 42 = (F 42) := hK31.1 42 rfl
        have q_35 : F31 43 = (F 43) := hK31.1 43 rfl
        have q_36 : F31 44 = 0 := Eq.trans (hK31.1 44 rfl) h44
        unfold mb_argument_44
        refine PP.bind (PP.and (ihK 4 0 0 F31 G31) (ih.2.2.2 4 0 0 F31 G31 g_32 g_33 (show F31 44 = 0 from q_36) (fun e => absurd e (by decide)))) ?_
        rintro r37 F37 G37 ⟨hK37, (⟨rfl, u37a, u37b, u37⟩ | ⟨rfl, u37a, u37⟩)⟩
        · dsimp only
          have g_38 : G37 4 = K := Eq.trans (hK37.2 4 rfl) g_32
          have g_39 : G37 5 = V := Eq.trans (hK37.2 5 rfl) g_33
          have h_40 : r 4 (F 42) (F 43) = some (some (F37 42)) := by
            have q : r 4 (F31 42) (F31 43) = some (some (F37 42)) := u37
            simp only [q_34, q_35, i_as] at q; exact q
          have h_41 := rarg ih.2.1 h_40
          have q_42 : F37 43 = (F 43) := by
            have q := (show F37 43 = (F31 43) from u37b)
            simp only [q_34, q_35, i_as] at q; exact q
          unfold mb_argument_48
          refine PP.ret ?_
          refine Or.inl ⟨rfl, u37a, ?_, (rfl : (rh_argument K V r (F 42) (F 43)) = _).trans ?_⟩
          · show (F37 43) = F 43
            first | with_reducible rfl | (simp only [q_34, q_35, q_42, i_as, fup, Nat.reduceEqDiff, reduceIte, if_false]) | rfl
          · show _ = some (some (F37 42))
            first | with_reducible rfl | (simp only [h_41, q_34, q_35, q_42, i_as, fup, i_a0, i0m, i10, eq_self, rb_yes, rb_no, ryes, rno, if_true, if_false, f_tt (p := True), reduceIte, Nat.reduceEqDiff]) | rfl
        · dsimp only
          have g_43 : G37 4 = K := Eq.trans (hK37.2 4 rfl) g_32
          have g_44 : G37 5 = V := Eq.trans (hK37.2 5 rfl) g_33
          have h_45 : r 4 (F 42) (F 43) = some (none) := by
            have q : r 4 (F31 42) (F31 43) = some (none) := u37
            simp only [q_34, q_35, i_as] at q; exact q
          have h_46 := rarg ih.2.1 h_45
          unfold mb_argument_48
          refine PP.ret ?_
          refine Or.inr ⟨rfl, u37a, (rfl : (rh_argument K V r (F 42) (F 43)) = _).trans ?_⟩
          first | with_reducible rfl | (simp only [h_46, q_34, q_35, i_as, fup, i_a0, i0m, i10, eq_self, rb_yes, rb_no, ryes, rno, if_true, if_false, f_tt (p := True), reduceIte, Nat.reduceEqDiff]) | rfl
  · skip
    exact mrj_argument_12 rc r ihK ih (F0 := F) (R0 := (rh_argument K V r (F 42) (F 43))) F G g4 g5 ⟨h44, (by first | with_reducible rfl | (simp only [i_as, fup, Nat.reduceEqDiff, reduceIte, if_false]) | rfl), ((rfl : (rh_argument K V r (F 42) (F 43)) = _).trans (by first | with_reducible rfl | (simp only [i_as, fup, i_a0, i0m, i10, eq_self, rb_yes, rb_no, ryes, rno, if_true, if_false, f_tt (p := True), reduceIte, Nat.reduceEqDiff]) | rfl))⟩
theorem mrj_call_256 {fu : Nat} {K V : Nat → Int32} (rc : RC) (r : RR) (ihK : mKI1 rc) (ih : mRI1 K V rc r) {F0 : PF} {R0 : OR} (x1 : Int32) (x4 : Int32) (F : PF) (G : PG) (g4 : G 4 = K) (g5 : G 5 = V) (hA : (F 44 = 0 ∧ F 43 = ((F0 43) + (1 : Int32)) ∧ R0 = rclose K V 23 (F 42))) : PP (mb_call_256 fu rc x1 x4 F G) (fun r' F' _ => ROK R0 F0 r' F') := by
  rcases hA with ⟨h44, h43, hR⟩
  · skip
    unfold mb_call_256
    refine PP.bind (mp_closeSign (23 : Int32) F G) ?_
    rintro r1 F1 G1 (⟨rfl, rfl, rfl, u1⟩ | ⟨rfl, u1, u1b⟩)
    · dsimp only
      have h_2 : sgn K V (F 42) (23 : Int32) = true := by
        rw [← g4, ← g5]
        have q := u1.1
        first | exact q | (simp only [h43, i_as] at q; exact q)
      unfold mb_call_262
      refine PP.ite (fun c_3 => absurd c_3 (by decide)) (fun _ => ?_)
      unfold mb_call_267
      refine PP.bind (mw_step (15 : Int32) (0 : Int32) (0 : Int32) (fup (fup F 42 ((F 42) + (1 : Int32))) 43 ((F 43) - (1 : Int32))) G) ?_
      intro r4 F4 G4 hK4
      dsimp only
      have g_5 : G4 4 = K := Eq.trans (hK4.2 4 rfl) g4
      have g_6 : G4 5 = V := Eq.trans (hK4.2 5 rfl) g5
      have q_7 : F4 42 = ((F 42) + (1 : Int32)) := hK4.1 42 rfl
      have q_8 : F4 43 = (F0 43) := Eq.trans (hK4.1 43 rfl) (show ((F 43) - (1 : Int32)) = (F0 43) by simp only [h43, i_as])
      have q_9 : F4 44 = 0 := Eq.trans (hK4.1 44 rfl) h44
      unfold mb_call_275
      refine PP.ix (fun _ => ?_)
      refine PP.bind (mw_step (16 : Int32) x4 (G4 6 x1.toNatClampNeg) F4 G4) ?_
      intro r10 F10 G10 hK10
      dsimp only
      have g_11 : G10 4 = K := Eq.trans (hK10.2 4 rfl) g_5
      have g_12 : G10 5 = V := Eq.trans (hK10.2 5 rfl) g_6
      have q_13 : F10 42 = ((F 42) + (1 : Int32)) := Eq.trans (hK10.1 42 rfl) (show (F4 42) = ((F 42) + (1 : Int32)) by simp only [q_7, q_8, i_as])
      have q_14 : F10 43 = (F0 43) := Eq.trans (hK10.1 43 rfl) (show (F4 43) = (F0 43) by simp only [q_7, q_8, i_as])
      have q_15 : F10 44 = 0 := Eq.trans (hK10.1 44 rfl) q_9
      unfold mb_call_290
      refine PP.ret ?_
      refine Or.inl ⟨rfl, q_15, ?_, hR.trans ?_⟩
      · show (F10 43) = F0 43
        first | with_reducible rfl | (simp only [h43, q_7, q_8, q_13, q_14, i_as, fup, Nat.reduceEqDiff, reduceIte, if_false]) | rfl
      · show _ = some (some (F10 42))
        first | with_reducible rfl | (simp only [rh_call, rl_args, rclose, h_2, h43, q_7, q_8, q_13, q_14, i_as, fup, i_a0, i0m, i10, eq_self, rb_yes, rb_no, ryes, rno, if_true, if_false, f_tt (p := True), reduceIte, Nat.reduceEqDiff]) | rfl
    · dsimp only
      have g_16 : G1 4 = K := Eq.trans (u1.2.2.2 4 rfl) g4
      have g_17 : G1 5 = V := Eq.trans (u1.2.2.2 5 rfl) g5
      have q_18 : F1 42 = (F 42) := u1.2.2.1 42 rfl
      have q_19 : F1 43 = ((F0 43) + (1 : Int32)) := Eq.trans (u1.2.2.1 43 rfl) (show (F 43) = ((F0 43) + (1 : Int32)) by simp only [h43, i_as])
      rcases u1b with q | q
      · exact absurd q (show ¬ 0 < (F 44).toInt by rw [h44]; decide)
      · skip
        have h_20 : sgn K V (F 42) (23 : Int32) = false := by
          rw [← g4, ← g5]
          have q := q
          first | exact q | (simp only [h43, i_as] at q; exact q)
        unfold mb_call_262
        refine PP.ite (fun _ => ?_) (fun c_21 => absurd (by decide) c_21)
        unfold mb_call_265
        refine PP.ret ?_
        refine Or.inr ⟨rfl, u1.1, hR.trans ?_⟩
        first | with_reducible rfl | (simp only [rh_call, rl_args, rclose, h_20, h43, q_18, q_19, i_as, fup, i_a0, i0m, i10, eq_self, rb_yes, rb_no, ryes, rno, if_true, if_false, f_tt (p := True), reduceIte, Nat.reduceEqDiff]) | rfl
theorem mrz_call_156 {fu : Nat} {K V : Nat → Int32} (rc : RC) (r : RR) (ihK : mKI1 rc) (ih : mRI1 K V rc r) {F0 : PF} {R0 : OR} : ∀ (n : Nat) (x1 : Int32) (x4 : Int32) (x5 : Int32) (x6 : Int32) (F : PF) (G : PG) (g4 : G 4 = K) (g5 : G 5 = V) (hA : (x6 = 1 ∧ F 44 = 0 ∧ F 43 = ((F0 43) + (1 : Int32)) ∧ R0 = rl_args K V r (F 43) n (F 42)) ∨ (x6 = 0 ∧ F 44 = 0 ∧ F 43 = ((F0 43) + (1 : Int32)) ∧ R0 = rclose K V 23 (F 42))), PP (ml_call_156 fu rc n x1 x4 x5 x6 F G) (fun r' F' _ => ROK R0 F0 r' F') := by
  intro n
  induction n with
  | zero =>
    intro x1 x4 x5 x6 F G g4 g5 hA
    exact PP.no
  | succ n ihn =>
    intro x1 x4 x5 x6 F G g4 g5 hA
    show PP (mb_call_156 fu rc (ml_call_156 fu rc n) x1 x4 x5 x6 F G) _
    rcases hA with ⟨rfl, h44, h43, hR⟩ | ⟨rfl, h44, h43, hR⟩
    · skip
      unfold mb_call_156
      refine PP.ite (fun c_1 => absurd c_1 (by decide)) (fun _ => ?_)
      unfold mb_call_161
      refine PP.bind (PP.and (ihK 0 x4 x5 F G) (ih.2.2.2 0 x4 x5 F G g4 g5 (show F 44 = 0 from h44) (fun e => absurd e (by decide)))) ?_
      rintro r2 F2 G2 ⟨hK2, (⟨rfl, u2a, u2b, u2⟩ | ⟨rfl, u2a, u2⟩)⟩
      · dsimp only
        have g_3 : G2 4 = K := Eq.trans (hK2.2 4 rfl) g4
        have g_4 : G2 5 = V := Eq.trans (hK2.2 5 rfl) g5
        have h_5 : r 0 (F 42) ((F0 43) + (1 : Int32)) = some (some (F2 42)) := by
          have q : r 0 (F 42) (F 43) = some (some (F2 42)) := u2
          simp only [h43, i_as] at q; exact q
        have q_6 : F2 43 = ((F0 43) + (1 : Int32)) := by
          have q := (show F2 43 = (F 43) from u2b)
          simp only [h43, i_as] at q; exact q
        unfold mb_call_169
        refine PP.ite (fun c_7 => absurd c_7 (by decide)) (fun _ => ?_)
        unfold mb_call_174
        refine PP.bind (mp_isSign (28 : Int32) F2 G2) ?_
        rintro _ _ _ ⟨rfl, rfl, (⟨rfl, u8⟩ | ⟨rfl, u8⟩)⟩
        · dsimp only
          have h_9 : sgn K V (F2 42) (28 : Int32) = true := by
            rw [← g_3, ← g_4]
            have q := u8
            first | exact q | (simp only [q_6, i_as] at q; exact q)
          unfold mb_call_183
          refine PP.ite (fun c_10 => absurd c_10 (by decide)) (fun _ => ?_)
          unfold mb_call_195
          unfold mb_call_200
          unfold mb_call_204
          exact ihn x1 x4 (x5 + (1 : Int32)) (1 : Int32) (fup F2 42 ((F2 42) + (1 : Int32))) G2 g_3 g_4 (Or.inl ⟨rfl, u2a, (by first | with_reducible rfl | (simp only [h43, q_6, i_as, fup, Nat.reduceEqDiff, reduceIte, if_false]) | rfl), (hR.trans (by first | with_reducible rfl | (simp only [rh_call, rl_args, rclose, h_5, h_9, h43, q_6, i_as, fup, i_a0, i0m, i10, eq_self, rb_yes, rb_no, ryes, rno, if_true, if_false, f_tt (p := True), reduceIte, Nat.reduceEqDiff]) | rfl))⟩)
        · dsimp only
          have h_11 : sgn K V (F2 42) (28 : Int32) = false := by
            rw [← g_3, ← g_4]
            have q := u8
            first | exact q | (simp only [q_6, i_as] at q; exact q)
          unfold mb_call_183
          refine PP.ite (fun _ => ?_) (fun c_12 => absurd (by decide) c_12)
          unfold mb_call_199
          unfold mb_call_200
          unfold mb_call_204
          exact ihn x1 x4 (x5 + (1 : Int32)) (0 : Int32) (fup F2 42 ((F2 42) + (0 : Int32))) G2 g_3 g_4 (Or.inr ⟨rfl, u2a, (by first | with_reducible rfl | (simp only [h43, q_6, i_as, fup, Nat.reduceEqDiff, reduceIte, if_false]) | rfl), (hR.trans (by first | with_reducible rfl | (simp only [rh_call, rl_args, rclose, h_5, h_11, h43, q_6, i_as, fup, i_a0, i0m, i10, eq_self, rb_yes, rb_no, ryes, rno, if_true, if_false, f_tt (p := True), reduceIte, Nat.reduceEqDiff]) | rfl))⟩)
      · dsimp only
        have g_13 : G2 4 = K := Eq.trans (hK2.2 4 rfl) g4
        have g_14 : G2 5 = V := Eq.trans (hK2.2 5 rfl) g5
        have h_15 : r 0 (F 42) ((F0 43) + (1 : Int32)) = some (none) := by
          have q : r 0 (F 42) (F 43) = some (none) := u2
          simp only [h43, i_as] at q; exact q
        unfold mb_call_169
        refine PP.ite (fun _ => ?_) (fun c_16 => absurd (by decide) c_16)
        unfold mb_call_172
        refine PP.ret ?_
        refine Or.inr ⟨rfl, u2a, hR.trans ?_⟩
        first | with_reducible rfl | (simp only [rh_call, rl_args, rclose, h_15, h43, i_as, fup, i_a0, i0m, i10, eq_self, rb_yes, rb_no, ryes, rno, if_true, if_false, f_tt (p := True), reduceIte, Nat.reduceEqDiff]) | rfl
    · skip
      unfold mb_call_156
      refine PP.ite (fun _ => ?_) (fun c_17 => absurd (by decide) c_17)
      unfold mb_call_207
      refine PP.ite (fun c_18 => ?_) (fun c_18 => ?_)
      · skip
        unfold mb_call_214
        refine PP.ite (fun c_19 => ?_) (fun c_19 => ?_)
        · skip
          exact mrj_call_256 rc r ihK ih (F0 := F0) (R0 := R0) x1 x4 F G g4 g5 ⟨h44, (by first | with_reducible rfl | (simp only [h43, i_as, fup, Nat.reduceEqDiff, reduceIte, if_false]) | rfl), (hR.trans (by first | with_reducible rfl | (simp only [rh_call, rl_args, rclose, h43, i_as, fup, i_a0, i0m, i10, eq_self, rb_yes, rb_no, ryes, rno, if_true, if_false, f_tt (p := True), reduceIte, Nat.reduceEqDiff]) | rfl))⟩
        · skip
          unfold mb_call_220
          refine PP.ix (fun _ => ?_)
          refine PP.ite (fun c_20 => ?_) (fun c_20 => ?_)
          · skip
            exact mrj_call_256 rc r ihK ih (F0 := F0) (R0 := R0) x1 x4 F G g4 g5 ⟨h44, (by first | with_reducible rfl | (simp only [h43, i_as, fup, Nat.reduceEqDiff, reduceIte, if_false]) | rfl), (hR.trans (by first | with_reducible rfl | (simp only [rh_call, rl_args, rclose, h43, i_as, fup, i_a0, i0m, i10, eq_self, rb_yes, rb_no, ryes, rno, if_true, if_false, f_tt (p := True), reduceIte, Nat.reduceEqDiff]) | rfl))⟩
          · skip
            unfold mb_call_232
            refine PP.bind (mp_isSign (23 : Int32) F G) ?_
            rintro _ _ _ ⟨rfl, rfl, (⟨rfl, u21⟩ | ⟨rfl, u21⟩)⟩
            · dsimp only
              have h_22 : sgn K V (F 42) (23 : Int32) = true := by
                rw [← g4, ← g5]
                have q := u21
                first | exact q | (simp only [h43, i_as] at q; exact q)
              unfold mb_call_238
              refine PP.ite (fun c_23 => absurd c_23 (by decide)) (fun _ => ?_)
              unfold mb_call_241
              refine PP.ix (fun _ => ?_)
              refine PP.bind (mw_note (7 : Int32) (G 6 (F 42).toNatClampNeg) F G) ?_
              intro r24 F24 G24 hK24
              dsimp only
              have g_25 : G24 4 = K := Eq.trans (hK24.2 4 rfl) g4
              have g_26 : G24 5 = V := Eq.trans (hK24.2 5 rfl) g5
              have q_27 : F24 42 = (F 42) := hK24.1 42 rfl
              have q_28 : F24 43 = ((F0 43) + (1 : Int32)) := Eq.trans (hK24.1 43 rfl) (show (F 43) = ((F0 43) + (1 : Int32)) by simp only [h43, i_as])
              have q_29 : F24 44 = 0 := Eq.trans (hK24.1 44 rfl) h44
              exact mrj_call_256 rc r ihK ih (F0 := F0) (R0 := R0) x1 x4 F24 G24 g_25 g_26 ⟨q_29, (by first | with_reducible rfl | (simp only [h43, q_27, q_28, i_as, fup, Nat.reduceEqDiff, reduceIte, if_false]) | rfl), (hR.trans (by first | with_reducible rfl | (simp only [rh_call, rl_args, rclose, h_22, h43, q_27, q_28, i_as, fup, i_a0, i0m, i10, eq_self, rb_yes, rb_no, ryes, rno, if_true, if_false, f_tt (p := True), reduceIte, Nat.reduceEqDiff]) | rfl))⟩
            · dsimp only
              have h_30 : sgn K V (F 42) (23 : Int32) = false := by
                rw [← g4, ← g5]
                have q := u21
                first | exact q | (simp only [h43, i_as] at q; exact q)
              unfold mb_call_238
              refine PP.ite (fun _ => ?_) (fun c_31 => absurd (by decide) c_31)
              exact mrj_call_256 rc r ihK ih (F0 := F0) (R0 := R0) x1 x4 F G g4 g5 ⟨h44, (by first | with_reducible rfl | (simp only [h43, i_as, fup, Nat.reduceEqDiff, reduceIte, if_false]) | rfl), (hR.trans (by first | with_reducible rfl | (simp only [rh_call, rl_args, rclose, h_30, h43, i_as, fup, i_a0, i0m, i10, eq_self, rb_yes, rb_no, ryes, rno, if_true, if_false, f_tt (p := True), reduceIte, Nat.reduceEqDiff]) | rfl))⟩
      · skip
        exact mrj_call_256 rc r ihK ih (F0 := F0) (R0 := R0) x1 x4 F G g4 g5 ⟨h44, (by first | with_reducible rfl | (simp only [h43, i_as, fup, Nat.reduceEqDiff, reduceIte, if_false]) | rfl), (hR.trans (by first | with_reducible rfl | (simp only [rh_call, rl_args, rclose, h43, i_as, fup, i_a0, i0m, i10, eq_self, rb_yes, rb_no, ryes, rno, if_true, if_false, f_tt (p := True), reduceIte, Nat.reduceEqDiff]) | rfl))⟩
theorem mrj_call_126 {fu : Nat} {K V : Nat → Int32} (rc : RC) (r : RR) (ihK : mKI1 rc) (ih : mRI1 K V rc r) {F0 : PF} {R0 : OR} (x1 : Int32) (x4 : Int32) (F : PF) (G : PG) (g4 : G 4 = K) (g5 : G 5 = V) (hA : (F 44 = 0 ∧ F 43 = F0 43 ∧ R0 = rh_call K V fu r (F 42) (F 43))) : PP (mb_call_126 fu rc x1 x4 F G) (fun r' F' _ => ROK R0 F0 r' F') := by
  rcases hA with ⟨h44, h43, hR⟩
  · skip
    unfold mb_call_126
    refine PP.bind (mp_openSign (22 : Int32) F G) ?_
    rintro r1 F1 G1 (⟨rfl, rfl, rfl, u1⟩ | ⟨rfl, u1, u1b⟩)
    · dsimp only
      have h_2 : sgn K V (F 42) (22 : Int32) = true := by
        rw [← g4, ← g5]
        have q := u1.1
        first | exact q | (simp only [h43, i_as] at q; exact q)
      have h_3 : ¬ (F0 43) = 40 := by
        have q : ¬ (F 43) = 40 := u1.2.1
        first | exact q | (simp only [h43, i_as] at q; exact q)
      unfold mb_call_132
      refine PP.ite (fun c_4 => absurd c_4 (by decide)) (fun _ => ?_)
      unfold mb_call_137
      refine PP.bind (mp_isSign (23 : Int32) (fup (fup F 43 ((F 43) + (1 : Int32))) 42 ((F 42) + (1 : Int32))) G) ?_
      rintro _ _ _ ⟨rfl, rfl, (⟨rfl, u5⟩ | ⟨rfl, u5⟩)⟩
      · dsimp only
        have h_6 : sgn K V ((F 42) + (1 : Int32)) (23 : Int32) = true := by
          rw [← g4, ← g5]
          have q := u5
          first | exact q | (simp only [h43, i_as] at q; exact q) | (simp only [h43, i_as, fup, Nat.reduceEqDiff, reduceIte, if_false] at q; exact q)
        unfold mb_call_146
        refine PP.ite (fun c_7 => absurd c_7 (by decide)) (fun _ => ?_)
        unfold mb_call_153
        unfold mb_call_154
        exact mrz_call_156 rc r ihK ih (F0 := F0) (R0 := R0) fu x1 x4 (0 : Int32) (0 : Int32) (fup (fup F 43 ((F 43) + (1 : Int32))) 42 ((F 42) + (1 : Int32))) G g4 g5 (Or.inr ⟨rfl, h44, (by first | with_reducible rfl | (simp only [h43, i_as, fup, Nat.reduceEqDiff, reduceIte, if_false]) | rfl), (hR.trans (by first | with_reducible rfl | (simp only [rh_call, rl_args, rclose, h_2, h_3, h_6, h43, i_as, fup, i_a0, i0m, i10, eq_self, rb_yes, rb_no, ryes, rno, if_true, if_false, f_tt (p := True), reduceIte, Nat.reduceEqDiff]) | rfl))⟩)
      · dsimp only
        have h_8 : sgn K V ((F 42) + (1 : Int32)) (23 : Int32) = false := by
          rw [← g4, ← g5]
          have q := u5
          first | exact q | (simp only [h43, i_as] at q; exact q) | (simp only [h43, i_as, fup, Nat.reduceEqDiff, reduceIte, if_false] at q; exact q)
        unfold mb_call_146
        refine PP.ite (fun _ => ?_) (fun c_9 => absurd (by decide) c_9)
        unfold mb_call_149
        unfold mb_call_154
        exact mrz_call_156 rc r ihK ih (F0 := F0) (R0 := R0) fu x1 x4 (0 : Int32) (1 : Int32) (fup (fup F 43 ((F 43) + (1 : Int32))) 42 ((F 42) + (1 : Int32))) G g4 g5 (Or.inl ⟨rfl, h44, (by first | with_reducible rfl | (simp only [h43, i_as, fup, Nat.reduceEqDiff, reduceIte, if_false]) | rfl), (hR.trans (by first | with_reducible rfl | (simp only [rh_call, rl_args, rclose, h_2, h_3, h_8, h43, i_as, fup, i_a0, i0m, i10, eq_self, rb_yes, rb_no, ryes, rno, if_true, if_false, f_tt (p := True), reduceIte, Nat.reduceEqDiff]) | rfl))⟩)
    · dsimp only
      have g_10 : G1 4 = K := Eq.trans (u1.2.2.2 4 rfl) g4
      have g_11 : G1 5 = V := Eq.trans (u1.2.2.2 5 rfl) g5
      have q_12 : F1 42 = (F 42) := u1.2.2.1 42 rfl
      have q_13 : F1 43 = (F0 43) := Eq.trans (u1.2.2.1 43 rfl) (show (F 43) = (F0 43) by simp only [h43, i_as])
      rcases u1b with q | q | ⟨q, q1⟩
      · exact absurd q (show ¬ 0 < (F 44).toInt by rw [h44]; decide)
      · skip
        have h_14 : sgn K V (F 42) (22 : Int32) = false := by
          rw [← g4, ← g5]
          have q := q
          first | exact q | (simp only [h43, i_as] at q; exact q)
        unfold mb_call_132
        refine PP.ite (fun _ => ?_) (fun c_15 => absurd (by decide) c_15)
        unfold mb_call_135
        refine PP.ret ?_
        refine Or.inr ⟨rfl, u1.1, hR.trans ?_⟩
        first | with_reducible rfl | (simp only [rh_call, rl_args, rclose, h_14, h43, q_12, q_13, i_as, fup, i_a0, i0m, i10, eq_self, rb_yes, rb_no, ryes, rno, if_true, if_false, f_tt (p := True), reduceIte, Nat.reduceEqDiff]) | rfl
      · skip
        have h_16 : sgn K V (F 42) (22 : Int32) = true := by
          rw [← g4, ← g5]
          have q := q
          first | exact q | (simp only [h43, i_as] at q; exact q)
        have h_17 : ((F0 43) = 40) = True := by
          have q : (F 43) = 40 := q1
          first | exact eq_true q | (simp only [h43, i_as] at q; exact eq_true q)
        unfold mb_call_132
        refine PP.ite (fun _ => ?_) (fun c_18 => absurd (by decide) c_18)
        unfold mb_call_135
        refine PP.ret ?_
        refine Or.inr ⟨rfl, u1.1, hR.trans ?_⟩
        first | with_reducible rfl | (simp only [rh_call, rl_args, rclose, h_16, h_17, h43, q_12, q_13, i_as, fup, i_a0, i0m, i10, eq_self, rb_yes, rb_no, ryes, rno, if_true, if_false, f_tt (p := True), reduceIte, Nat.reduceEqDiff]) | rfl
theorem mrj_call_87 {fu : Nat} {K V : Nat → Int32} (rc : RC) (r : RR) (ihK : mKI1 rc) (ih : mRI1 K V rc r) {F0 : PF} {R0 : OR} (x1 : Int32) (x2 : Int32) (x4 : Int32) (F : PF) (G : PG) (g4 : G 4 = K) (g5 : G 5 = V) (hA : (F 44 = 0 ∧ F 43 = F0 43 ∧ R0 = rh_call K V fu r (F 42) (F 43))) : PP (mb_call_87 fu rc x1 x2 x4 F G) (fun r' F' _ => ROK R0 F0 r' F') := by
  rcases hA with ⟨h44, h43, hR⟩
  · skip
    unfold mb_call_87
    refine PP.ite (fun c_1 => ?_) (fun c_1 => ?_)
    · skip
      unfold mb_call_94
      refine PP.ite (fun c_2 => ?_) (fun c_2 => ?_)
      · skip
        exact mrj_call_126 rc r ihK ih (F0 := F0) (R0 := R0) x1 x4 F G g4 g5 ⟨h44, (by first | with_reducible rfl | (simp only [h43, i_as, fup, Nat.reduceEqDiff, reduceIte, if_false]) | rfl), (hR.trans (by first | with_reducible rfl | (simp only [rh_call, rl_args, rclose, h43, i_as, fup, i_a0, i0m, i10, eq_self, rb_yes, rb_no, ryes, rno, if_true, if_false, f_tt (p := True), reduceIte, Nat.reduceEqDiff]) | rfl))⟩
      · skip
        unfold mb_call_100
        refine PP.ite (fun c_3 => ?_) (fun c_3 => ?_)
        · skip
          exact mrj_call_126 rc r ihK ih (F0 := F0) (R0 := R0) x1 x4 F G g4 g5 ⟨h44, (by first | with_reducible rfl | (simp only [h43, i_as, fup, Nat.reduceEqDiff, reduceIte, if_false]) | rfl), (hR.trans (by first | with_reducible rfl | (simp only [rh_call, rl_args, rclose, h43, i_as, fup, i_a0, i0m, i10, eq_self, rb_yes, rb_no, ryes, rno, if_true, if_false, f_tt (p := True), reduceIte, Nat.reduceEqDiff]) | rfl))⟩
        · skip
          unfold mb_call_104
          refine PP.ix (fun _ => ?_)
          refine PP.ite (fun c_4 => ?_) (fun c_4 => ?_)
          · skip
            exact mrj_call_126 rc r ihK ih (F0 := F0) (R0 := R0) x1 x4 F G g4 g5 ⟨h44, (by first | with_reducible rfl | (simp only [h43, i_as, fup, Nat.reduceEqDiff, reduceIte, if_false]) | rfl), (hR.trans (by first | with_reducible rfl | (simp only [rh_call, rl_args, rclose, h43, i_as, fup, i_a0, i0m, i10, eq_self, rb_yes, rb_no, ryes, rno, if_true, if_false, f_tt (p := True), reduceIte, Nat.reduceEqDiff]) | rfl))⟩
          · skip
            unfold mb_call_114
            refine PP.ix (fun _ => ?_)
            refine PP.bind (mw_note (8 : Int32) (G 6 x1.toNatClampNeg) F G) ?_
            intro r5 F5 G5 hK5
            dsimp only
            have g_6 : G5 4 = K := Eq.trans (hK5.2 4 rfl) g4
            have g_7 : G5 5 = V := Eq.trans (hK5.2 5 rfl) g5
            have q_8 : F5 42 = (F 42) := hK5.1 42 rfl
            have q_9 : F5 43 = (F0 43) := Eq.trans (hK5.1 43 rfl) (show (F 43) = (F0 43) by simp only [h43, i_as])
            have q_10 : F5 44 = 0 := Eq.trans (hK5.1 44 rfl) h44
            exact mrj_call_126 rc r ihK ih (F0 := F0) (R0 := R0) x1 x4 F5 G5 g_6 g_7 ⟨q_10, (by first | with_reducible rfl | (simp only [h43, q_8, q_9, i_as, fup, Nat.reduceEqDiff, reduceIte, if_false]) | rfl), (hR.trans (by first | with_reducible rfl | (simp only [rh_call, rl_args, rclose, h43, q_8, q_9, i_as, fup, i_a0, i0m, i10, eq_self, rb_yes, rb_no, ryes, rno, if_true, if_false, f_tt (p := True), reduceIte, Nat.reduceEqDiff]) | rfl))⟩
    · skip
      exact mrj_call_126 rc r ihK ih (F0 := F0) (R0 := R0) x1 x4 F G g4 g5 ⟨h44, (by first | with_reducible rfl | (simp only [h43, i_as, fup, Nat.reduceEqDiff, reduceIte, if_false]) | rfl), (hR.trans (by first | with_reducible rfl | (simp only [rh_call, rl_args, rclose, h43, i_as, fup, i_a0, i0m, i10, eq_self, rb_yes, rb_no, ryes, rno, if_true, if_false, f_tt (p := True), reduceIte, Nat.reduceEqDiff]) | rfl))⟩
theorem mrj_call_63 {fu : Nat} {K V : Nat → Int32} (rc : RC) (r : RR) (ihK : mKI1 rc) (ih : mRI1 K V rc r) {F0 : PF} {R0 : OR} (x1 : Int32) (x2 : Int32) (x3 : Int32) (x4 : Int32) (F : PF) (G : PG) (g4 : G 4 = K) (g5 : G 5 = V) (hA : (F 44 = 0 ∧ F 43 = F0 43 ∧ R0 = rh_call K V fu r (F 42) (F 43))) : PP (mb_call_63 fu rc x1 x2 x3 x4 F G) (fun r' F' _ => ROK R0 F0 r' F') := by
  rcases hA with ⟨h44, h43, hR⟩
  · skip
    unfold mb_call_63
    refine PP.ite (fun c_1 => ?_) (fun c_1 => ?_)
    · skip
      unfold mb_call_70
      refine PP.ite (fun c_2 => ?_) (fun c_2 => ?_)
      · skip
        exact mrj_call_87 rc r ihK ih (F0 := F0) (R0 := R0) x1 x2 x4 F G g4 g5 ⟨h44, (by first | with_reducible rfl | (simp only [h43, i_as, fup, Nat.reduceEqDiff, reduceIte, if_false]) | rfl), (hR.trans (by first | with_reducible rfl | (simp only [rh_call, rl_args, rclose, h43, i_as, fup, i_a0, i0m, i10, eq_self, rb_yes, rb_no, ryes, rno, if_true, if_false, f_tt (p := True), reduceIte, Nat.reduceEqDiff]) | rfl))⟩
      · skip
        unfold mb_call_75
        refine PP.ix (fun _ => ?_)
        refine PP.bind (mw_note (6 : Int32) (G 6 x1.toNatClampNeg) F G) ?_
        intro r3 F3 G3 hK3
        dsimp only
        have g_4 : G3 4 = K := Eq.trans (hK3.2 4 rfl) g4
        have g_5 : G3 5 = V := Eq.trans (hK3.2 5 rfl) g5
        have q_6 : F3 42 = (F 42) := hK3.1 42 rfl
        have q_7 : F3 43 = (F0 43) := Eq.trans (hK3.1 43 rfl) (show (F 43) = (F0 43) by simp only [h43, i_as])
        have q_8 : F3 44 = 0 := Eq.trans (hK3.1 44 rfl) h44
        exact mrj_call_87 rc r ihK ih (F0 := F0) (R0 := R0) x1 x2 x4 F3 G3 g_4 g_5 ⟨q_8, (by first | with_reducible rfl | (simp only [h43, q_6, q_7, i_as, fup, Nat.reduceEqDiff, reduceIte, if_false]) | rfl), (hR.trans (by first | with_reducible rfl | (simp only [rh_call, rl_args, rclose, h43, q_6, q_7, i_as, fup, i_a0, i0m, i10, eq_self, rb_yes, rb_no, ryes, rno, if_true, if_false, f_tt (p := True), reduceIte, Nat.reduceEqDiff]) | rfl))⟩
    · skip
      exact mrj_call_87 rc r ihK ih (F0 := F0) (R0 := R0) x1 x2 x4 F G g4 g5 ⟨h44, (by first | with_reducible rfl | (simp only [h43, i_as, fup, Nat.reduceEqDiff, reduceIte, if_false]) | rfl), (hR.trans (by first | with_reducible rfl | (simp only [rh_call, rl_args, rclose, h43, i_as, fup, i_a0, i0m, i10, eq_self, rb_yes, rb_no, ryes, rno, if_true, if_false, f_tt (p := True), reduceIte, Nat.reduceEqDiff]) | rfl))⟩
theorem mrj_call_32 {fu : Nat} {K V : Nat → Int32} (rc : RC) (r : RR) (ihK : mKI1 rc) (ih : mRI1 K V rc r) {F0 : PF} {R0 : OR} (x1 : Int32) (x2 : Int32) (x3 : Int32) (z0 : Int32) (F : PF) (G : PG) (g4 : G 4 = K) (g5 : G 5 = V) (hA : (F 44 = 0 ∧ F 43 = F0 43 ∧ R0 = rh_call K V fu r (F 42) (F 43))) : PP (mb_call_32 fu rc x1 x2 x3 z0 F G) (fun r' F' _ => ROK R0 F0 r' F') := by
  rcases hA with ⟨h44, h43, hR⟩
  · skip
    unfold mb_call_32
    refine PP.ite (fun c_1 => ?_) (fun c_1 => ?_)
    · skip
      unfold mb_call_41
      refine PP.ite (fun c_2 => ?_) (fun c_2 => ?_)
      · skip
        unfold mb_call_46
        refine PP.ite (fun c_3 => ?_) (fun c_3 => ?_)
        · skip
          unfold mb_call_52
          refine PP.ix (fun _ => ?_)
          refine PP.bind (mw_note (4 : Int32) (G 6 x1.toNatClampNeg) F G) ?_
          intro r4 F4 G4 hK4
          dsimp only
          have g_5 : G4 4 = K := Eq.trans (hK4.2 4 rfl) g4
          have g_6 : G4 5 = V := Eq.trans (hK4.2 5 rfl) g5
          have q_7 : F4 42 = (F 42) := hK4.1 42 rfl
          have q_8 : F4 43 = (F0 43) := Eq.trans (hK4.1 43 rfl) (show (F 43) = (F0 43) by simp only [h43, i_as])
          have q_9 : F4 44 = 0 := Eq.trans (hK4.1 44 rfl) h44
          exact mrj_call_63 rc r ihK ih (F0 := F0) (R0 := R0) x1 x2 x3 z0 F4 G4 g_5 g_6 ⟨q_9, (by first | with_reducible rfl | (simp only [h43, q_7, q_8, i_as, fup, Nat.reduceEqDiff, reduceIte, if_false]) | rfl), (hR.trans (by first | with_reducible rfl | (simp only [rh_call, rl_args, rclose, h43, q_7, q_8, i_as, fup, i_a0, i0m, i10, eq_self, rb_yes, rb_no, ryes, rno, if_true, if_false, f_tt (p := True), reduceIte, Nat.reduceEqDiff]) | rfl))⟩
        · skip
          exact mrj_call_63 rc r ihK ih (F0 := F0) (R0 := R0) x1 x2 x3 z0 F G g4 g5 ⟨h44, (by first | with_reducible rfl | (simp only [h43, i_as, fup, Nat.reduceEqDiff, reduceIte, if_false]) | rfl), (hR.trans (by first | with_reducible rfl | (simp only [rh_call, rl_args, rclose, h43, i_as, fup, i_a0, i0m, i10, eq_self, rb_yes, rb_no, ryes, rno, if_true, if_false, f_tt (p := True), reduceIte, Nat.reduceEqDiff]) | rfl))⟩
      · skip
        exact mrj_call_63 rc r ihK ih (F0 := F0) (R0 := R0) x1 x2 x3 z0 F G g4 g5 ⟨h44, (by first | with_reducible rfl | (simp only [h43, i_as, fup, Nat.reduceEqDiff, reduceIte, if_false]) | rfl), (hR.trans (by first | with_reducible rfl | (simp only [rh_call, rl_args, rclose, h43, i_as, fup, i_a0, i0m, i10, eq_self, rb_yes, rb_no, ryes, rno, if_true, if_false, f_tt (p := True), reduceIte, Nat.reduceEqDiff]) | rfl))⟩
    · skip
      exact mrj_call_63 rc r ihK ih (F0 := F0) (R0 := R0) x1 x2 x3 z0 F G g4 g5 ⟨h44, (by first | with_reducible rfl | (simp only [h43, i_as, fup, Nat.reduceEqDiff, reduceIte, if_false]) | rfl), (hR.trans (by first | with_reducible rfl | (simp only [rh_call, rl_args, rclose, h43, i_as, fup, i_a0, i0m, i10, eq_self, rb_yes, rb_no, ryes, rno, if_true, if_false, f_tt (p := True), reduceIte, Nat.reduceEqDiff]) | rfl))⟩
theorem mrj_call_16 {fu : Nat} {K V : Nat → Int32} (rc : RC) (r : RR) (ihK : mKI1 rc) (ih : mRI1 K V rc r) {F0 : PF} {R0 : OR} (x1 : Int32) (x2 : Int32) (z0 : Int32) (F : PF) (G : PG) (g4 : G 4 = K) (g5 : G 5 = V) (hA : (F 44 = 0 ∧ F 43 = F0 43 ∧ R0 = rh_call K V fu r (F 42) (F 43))) : PP (mb_call_16 fu rc x1 x2 z0 F G) (fun r' F' _ => ROK R0 F0 r' F') := by
  rcases hA with ⟨h44, h43, hR⟩
  · skip
    unfold mb_call_16
    refine PP.ite (fun c_1 => ?_) (fun c_1 => ?_)
    · skip
      unfold mb_call_24
      exact mrj_call_32 rc r ihK ih (F0 := F0) (R0 := R0) x1 x2 z0 (-1 : Int32) F G g4 g5 ⟨h44, (by first | with_reducible rfl | (simp only [h43, i_as, fup, Nat.reduceEqDiff, reduceIte, if_false]) | rfl), (hR.trans (by first | with_reducible rfl | (simp only [rh_call, rl_args, rclose, h43, i_as, fup, i_a0, i0m, i10, eq_self, rb_yes, rb_no, ryes, rno, if_true, if_false, f_tt (p := True), reduceIte, Nat.reduceEqDiff]) | rfl))⟩
    · skip
      unfold mb_call_28
      exact mrj_call_32 rc r ihK ih (F0 := F0) (R0 := R0) x1 x2 z0 (F 62) F G g4 g5 ⟨h44, (by first | with_reducible rfl | (simp only [h43, i_as, fup, Nat.reduceEqDiff, reduceIte, if_false]) | rfl), (hR.trans (by first | with_reducible rfl | (simp only [rh_call, rl_args, rclose, h43, i_as, fup, i_a0, i0m, i10, eq_self, rb_yes, rb_no, ryes, rno, if_true, if_false, f_tt (p := True), reduceIte, Nat.reduceEqDiff]) | rfl))⟩
theorem mrt_call {fu : Nat} {K V : Nat → Int32} (rc : RC) (r : RR) (ihK : mKI1 rc) (ih : mRI1 K V rc r) (x1 : Int32) (x2 : Int32) (F : PF) (G : PG) (g4 : G 4 = K) (g5 : G 5 = V) (h44 : F 44 = 0) : PP (mh_call fu rc x1 x2 F G) (fun r' F' _ => ROK (rh_call K V fu r (F 42) (F 43)) F r' F') := by
  unfold mh_call
  unfold mb_call_0
  refine PP.ite (fun c_1 => ?_) (fun c_1 => ?_)
  · skip
    unfold mb_call_7
    exact mrj_call_16 rc r ihK ih (F0 := F) (R0 := (rh_call K V fu r (F 42) (F 43))) x1 x2 (-1 : Int32) F G g4 g5 ⟨h44, (by first | with_reducible rfl | (simp only [i_as, fup, Nat.reduceEqDiff, reduceIte, if_false]) | rfl), ((rfl : (rh_call K V fu r (F 42) (F 43)) = _).trans (by first | with_reducible rfl | (simp only [rh_call, rl_args, rclose, i_as, fup, i_a0, i0m, i10, eq_self, rb_yes, rb_no, ryes, rno, if_true, if_false, f_tt (p := True), reduceIte, Nat.reduceEqDiff]) | rfl))⟩
  · skip
    unfold mb_call_11
    refine PP.bind (mw_meaning x1 F G) ?_
    intro r2 F2 G2 hK2
    dsimp only
    have g_3 : G2 4 = K := Eq.trans (hK2.2 4 rfl) g4
    have g_4 : G2 5 = V := Eq.trans (hK2.2 5 rfl) g5
    have q_5 : F2 42 = (F 42) := hK2.1 42 rfl
    have q_6 : F2 43 = (F 43) := hK2.1 43 rfl
    have q_7 : F2 44 = 0 := Eq.trans (hK2.1 44 rfl) h44
    exact mrj_call_16 rc r ihK ih (F0 := F) (R0 := (rh_call K V fu r (F 42) (F 43))) x1 x2 r2 F2 G2 g_3 g_4 ⟨q_7, (by first | with_reducible rfl | (simp only [q_5, q_6, i_as, fup, Nat.reduceEqDiff, reduceIte, if_false]) | rfl), ((rfl : (rh_call K V fu r (F 42) (F 43)) = _).trans (by first | with_reducible rfl | (simp only [rh_call, rl_args, rclose, q_5, q_6, i_as, fup, i_a0, i0m, i10, eq_self, rb_yes, rb_no, ryes, rno, if_true, if_false, f_tt (p := True), reduceIte, Nat.reduceEqDiff]) | rfl))⟩
theorem mrz_chain_19 {fu : Nat} {K V : Nat → Int32} (rc : RC) (r : RR) (ihK : mKI1 rc) (ih : mRI1 K V rc r) {F0 : PF} {R0 : OR} {n10 : Nat} (ag_10 : Int32 → Int32 → PF → PG → PR) (hag_10 : ∀ (x1 : Int32) (x2 : Int32) (F : PF) (G : PG) (g4 : G 4 = K) (g5 : G 5 = V) (hA : (x2 = 1 ∧ F 44 = 0 ∧ F 43 = F0 43 ∧ R0 = rl_chain K V r (F 43) n10 (F 42)) ∨ (x2 = 0 ∧ 0 < (F 44).toInt ∧ R0 = rno)), PP (ag_10 x1 x2 F G) (fun r' F' _ => ROK R0 F0 r' F')) : ∀ (n : Nat) (x1 : Int32) (x3 : Int32) (F : PF) (G : PG) (g4 : G 4 = K) (g5 : G 5 = V) (hA : (F 44 = 0 ∧ F 43 = F0 43 ∧ R0 = (if x3 = -1 then ryes (F 42) else rb (r 7 ((F 42) + 1) (F 43)) (fun t1 => rl_chain K V r (F 43) n10 t1)))), PP (ml_chain_19 fu rc ag_10 n x1 x3 F G) (fun r' F' _ => ROK R0 F0 r' F') := by
  intro n
  induction n with
  | zero =>
    intro x1 x3 F G g4 g5 hA
    exact PP.no
  | succ n ihn =>
    intro x1 x3 F G g4 g5 hA
    show PP (mb_chain_19 fu rc ag_10 (ml_chain_19 fu rc ag_10 n) x1 x3 F G) _
    rcases hA with ⟨h44, h43, hR⟩
    · skip
      unfold mb_chain_19
      refine PP.ite (fun c_1 => ?_) (fun c_1 => ?_)
      · skip
        unfold mb_chain_49
        refine PP.ite (fun c_2 => ?_) (fun c_2 => ?_)
        · skip
          have h_3 : x3 = (-1 : Int32) := c_2
          unfold mb_chain_54
          refine PP.ret ?_
          refine Or.inl ⟨rfl, h44, ?_, hR.trans ?_⟩
          · show (F 43) = F0 43
            first | with_reducible rfl | (simp only [h43, i_as, fup, Nat.reduceEqDiff, reduceIte, if_false]) | rfl
          · show _ = some (some (F 42))
            first | with_reducible rfl | (simp only [rh_chain, rl_chain, h_3, h43, i_as, fup, i_a0, i0m, i10, eq_self, rb_yes, rb_no, ryes, rno, if_true, if_false, f_tt (p := True), reduceIte, Nat.reduceEqDiff]) | rfl
        · skip
          have h_4 : ¬ x3 = (-1 : Int32) := c_2
          unfold mb_chain_56
          refine PP.ix (fun _ => ?_)
          refine PP.ix (fun _ => ?_)
          unfold mb_chain_74
          refine PP.ix (fun _ => ?_)
          unfold mb_chain_84
          refine PP.ite (fun c_5 => ?_) (fun c_5 => ?_)
          · skip
            unfold mb_chain_101
            refine PP.ite (fun c_6 => ?_) (fun c_6 => ?_)
            · skip
              have h_7 : x3 = (0 : Int32) := c_6
              unfold mb_chain_106
              unfold mb_chain_113
              refine PP.bind (mw_step (14 : Int32) (0 : Int32) (0 : Int32) F (gup (gup G 67 (F 70).toNatClampNeg (G 5 (F 42).toNatClampNeg)) 68 (F 70).toNatClampNeg x3)) ?_
              intro r8 F8 G8 hK8
              dsimp only
              have g_9 : G8 4 = K := Eq.trans (hK8.2 4 rfl) g4
              have g_10 : G8 5 = V := Eq.trans (hK8.2 5 rfl) g5
              have q_11 : F8 42 = (F 42) := hK8.1 42 rfl
              have q_12 : F8 43 = (F0 43) := Eq.trans (hK8.1 43 rfl) (show (F 43) = (F0 43) by simp only [h43, i_as])
              have q_13 : F8 44 = 0 := Eq.trans (hK8.1 44 rfl) h44
              unfold mb_chain_118
              refine PP.ix (fun _ => ?_)
              unfold mb_chain_119
              unfold mb_chain_129
              unfold mb_chain_139
              refine PP.bind (PP.and (ihK 7 0 0 (fup (fup F8 70 ((F8 70) + (1 : Int32))) 42 ((F8 42) + (1 : Int32))) (gup G8 69 (F 70).toNatClampNeg r8)) (ih.2.2.2 7 0 0 (fup (fup F8 70 ((F8 70) + (1 : Int32))) 42 ((F8 42) + (1 : Int32))) (gup G8 69 (F 70).toNatClampNeg r8) g_9 g_10 (show (fup (fup F8 70 ((F8 70) + (1 : Int32))) 42 ((F8 42) + (1 : Int32))) 44 = 0 from q_13) (fun e => absurd e (by decide)))) ?_
              rintro r14 F14 G14 ⟨hK14, (⟨rfl, u14a, u14b, u14⟩ | ⟨rfl, u14a, u14⟩)⟩
              · dsimp only
                have g_15 : G14 4 = K := Eq.trans (hK14.2 4 rfl) g_9
                have g_16 : G14 5 = V := Eq.trans (hK14.2 5 rfl) g_10
                have h_17 : r 7 ((F 42) + (1 : Int32)) (F0 43) = some (some (F14 42)) := by
                  have q : r 7 ((F8 42) + (1 : Int32)) (F8 43) = some (some (F14 42)) := u14
                  simp only [q_11, q_12, i_as] at q; exact q
                have q_18 : F14 43 = (F0 43) := by
                  have q := (show F14 43 = (F8 43) from u14b)
                  simp only [q_11, q_12, i_as] at q; exact q
                unfold mb_chain_143
                exact hag_10 x1 (1 : Int32) F14 G14 g_15 g_16 (Or.inl ⟨rfl, u14a, (by first | with_reducible rfl | (simp only [h43, q_11, q_12, q_18, i_as, fup, Nat.reduceEqDiff, reduceIte, if_false]) | rfl), (hR.trans (by first | with_reducible rfl | (simp only [rh_chain, rl_chain, h_4, h_7, h_17, h43, q_11, q_12, q_18, i_as, fup, i_a0, i0m, i10, eq_self, rb_yes, rb_no, ryes, rno, if_true, if_false, f_tt (p := True), reduceIte, Nat.reduceEqDiff]) | rfl))⟩)
              · dsimp only
                have g_19 : G14 4 = K := Eq.trans (hK14.2 4 rfl) g_9
                have g_20 : G14 5 = V := Eq.trans (hK14.2 5 rfl) g_10
                have h_21 : r 7 ((F 42) + (1 : Int32)) (F0 43) = some (none) := by
                  have q : r 7 ((F8 42) + (1 : Int32)) (F8 43) = some (none) := u14
                  simp only [q_11, q_12, i_as] at q; exact q
                unfold mb_chain_143
                exact hag_10 x1 (0 : Int32) F14 G14 g_19 g_20 (Or.inr ⟨rfl, u14a, (hR.trans (by first | with_reducible rfl | (simp only [rh_chain, rl_chain, h_4, h_7, h_21, h43, q_11, q_12, i_as, fup, i_a0, i0m, i10, eq_self, rb_yes, rb_no, ryes, rno, if_true, if_false, f_tt (p := True), reduceIte, Nat.reduceEqDiff]) | rfl))⟩)
            · skip
              have h_22 : ¬ x3 = (0 : Int32) := c_6
              unfold mb_chain_111
              unfold mb_chain_113
              refine PP.bind (mw_step (13 : Int32) (0 : Int32) (0 : Int32) F (gup (gup G 67 (F 70).toNatClampNeg (G 5 (F 42).toNatClampNeg)) 68 (F 70).toNatClampNeg x3)) ?_
              intro r23 F23 G23 hK23
              dsimp only
              have g_24 : G23 4 = K := Eq.trans (hK23.2 4 rfl) g4
              have g_25 : G23 5 = V := Eq.trans (hK23.2 5 rfl) g5
              have q_26 : F23 42 = (F 42) := hK23.1 42 rfl
              have q_27 : F23 43 = (F0 43) := Eq.trans (hK23.1 43 rfl) (show (F 43) = (F0 43) by simp only [h43, i_as])
              have q_28 : F23 44 = 0 := Eq.trans (hK23.1 44 rfl) h44
              unfold mb_chain_118
              refine PP.ix (fun _ => ?_)
              unfold mb_chain_119
              unfold mb_chain_129
              unfold mb_chain_139
              refine PP.bind (PP.and (ihK 7 0 0 (fup (fup F23 70 ((F23 70) + (1 : Int32))) 42 ((F23 42) + (1 : Int32))) (gup G23 69 (F 70).toNatClampNeg r23)) (ih.2.2.2 7 0 0 (fup (fup F23 70 ((F23 70) + (1 : Int32))) 42 ((F23 42) + (1 : Int32))) (gup G23 69 (F 70).toNatClampNeg r23) g_24 g_25 (show (fup (fup F23 70 ((F23 70) + (1 : Int32))) 42 ((F23 42) + (1 : Int32))) 44 = 0 from q_28) (fun e => absurd e (by decide)))) ?_
              rintro r29 F29 G29 ⟨hK29, (⟨rfl, u29a, u29b, u29⟩ | ⟨rfl, u29a, u29⟩)⟩
              · dsimp only
                have g_30 : G29 4 = K := Eq.trans (hK29.2 4 rfl) g_24
                have g_31 : G29 5 = V := Eq.trans (hK29.2 5 rfl) g_25
                have h_32 : r 7 ((F 42) + (1 : Int32)) (F0 43) = some (some (F29 42)) := by
                  have q : r 7 ((F23 42) + (1 : Int32)) (F23 43) = some (some (F29 42)) := u29
                  simp only [q_26, q_27, i_as] at q; exact q
                have q_33 : F29 43 = (F0 43) := by
                  have q := (show F29 43 = (F23 43) from u29b)
                  simp only [q_26, q_27, i_as] at q; exact q
                unfold mb_chain_143
                exact hag_10 x1 (1 : Int32) F29 G29 g_30 g_31 (Or.inl ⟨rfl, u29a, (by first | with_reducible rfl | (simp only [h43, q_26, q_27, q_33, i_as, fup, Nat.reduceEqDiff, reduceIte, if_false]) | rfl), (hR.trans (by first | with_reducible rfl | (simp only [rh_chain, rl_chain, h_4, h_22, h_32, h43, q_26, q_27, q_33, i_as, fup, i_a0, i0m, i10, eq_self, rb_yes, rb_no, ryes, rno, if_true, if_false, f_tt (p := True), reduceIte, Nat.reduceEqDiff]) | rfl))⟩)
              · dsimp only
                have g_34 : G29 4 = K := Eq.trans (hK29.2 4 rfl) g_24
                have g_35 : G29 5 = V := Eq.trans (hK29.2 5 rfl) g_25
                have h_36 : r 7 ((F 42) + (1 : Int32)) (F0 43) = some (none) := by
                  have q : r 7 ((F23 42) + (1 : Int32)) (F23 43) = some (none) := u29
                  simp only [q_26, q_27, i_as] at q; exact q
                unfold mb_chain_143
                exact hag_10 x1 (0 : Int32) F29 G29 g_34 g_35 (Or.inr ⟨rfl, u29a, (hR.trans (by first | with_reducible rfl | (simp only [rh_chain, rl_chain, h_4, h_22, h_36, h43, q_26, q_27, i_as, fup, i_a0, i0m, i10, eq_self, rb_yes, rb_no, ryes, rno, if_true, if_false, f_tt (p := True), reduceIte, Nat.reduceEqDiff]) | rfl))⟩)
          · skip
            unfold mb_chain_97
            unfold mb_chain_118
            refine PP.ix (fun _ => ?_)
            unfold mb_chain_119
            unfold mb_chain_129
            unfold mb_chain_139
            refine PP.bind (PP.and (ihK 7 0 0 (fup (fup F 70 ((F 70) + (1 : Int32))) 42 ((F 42) + (1 : Int32))) (gup (gup (gup G 67 (F 70).toNatClampNeg (G 5 (F 42).toNatClampNeg)) 68 (F 70).toNatClampNeg x3) 69 (F 70).toNatClampNeg (-1 : Int32))) (ih.2.2.2 7 0 0 (fup (fup F 70 ((F 70) + (1 : Int32))) 42 ((F 42) + (1 : Int32))) (gup (gup (gup G 67 (F 70).toNatClampNeg (G 5 (F 42).toNatClampNeg)) 68 (F 70).toNatClampNeg x3) 69 (F 70).toNatClampNeg (-1 : Int32)) g4 g5 (show (fup (fup F 70 ((F 70) + (1 : Int32))) 42 ((F 42) + (1 : Int32))) 44 = 0 from h44) (fun e => absurd e (by decide)))) ?_
            rintro r37 F37 G37 ⟨hK37, (⟨rfl, u37a, u37b, u37⟩ | ⟨rfl, u37a, u37⟩)⟩
            · dsimp only
              have g_38 : G37 4 = K := Eq.trans (hK37.2 4 rfl) g4
              have g_39 : G37 5 = V := Eq.trans (hK37.2 5 rfl) g5
              have h_40 : r 7 ((F 42) + (1 : Int32)) (F0 43) = some (some (F37 42)) := by
                have q : r 7 ((F 42) + (1 : Int32)) (F 43) = some (some (F37 42)) := u37
                simp only [h43, i_as] at q; exact q
              have q_41 : F37 43 = (F0 43) := by
                have q := (show F37 43 = (F 43) from u37b)
                simp only [h43, i_as] at q; exact q
              unfold mb_chain_143
              exact hag_10 x1 (1 : Int32) F37 G37 g_38 g_39 (Or.inl ⟨rfl, u37a, (by first | with_reducible rfl | (simp only [h43, q_41, i_as, fup, Nat.reduceEqDiff, reduceIte, if_false]) | rfl), (hR.trans (by first | with_reducible rfl | (simp only [rh_chain, rl_chain, h_4, h_40, h43, q_41, i_as, fup, i_a0, i0m, i10, eq_self, rb_yes, rb_no, ryes, rno, if_true, if_false, f_tt (p := True), reduceIte, Nat.reduceEqDiff]) | rfl))⟩)
            · dsimp only
              have g_42 : G37 4 = K := Eq.trans (hK37.2 4 rfl) g4
              have g_43 : G37 5 = V := Eq.trans (hK37.2 5 rfl) g5
              have h_44 : r 7 ((F 42) + (1 : Int32)) (F0 43) = some (none) := by
                have q : r 7 ((F 42) + (1 : Int32)) (F 43) = some (none) := u37
                simp only [h43, i_as] at q; exact q
              unfold mb_chain_143
              exact hag_10 x1 (0 : Int32) F37 G37 g_42 g_43 (Or.inr ⟨rfl, u37a, (hR.trans (by first | with_reducible rfl | (simp only [rh_chain, rl_chain, h_4, h_44, h43, i_as, fup, i_a0, i0m, i10, eq_self, rb_yes, rb_no, ryes, rno, if_true, if_false, f_tt (p := True), reduceIte, Nat.reduceEqDiff]) | rfl))⟩)
      · skip
        unfold mb_chain_27
        refine PP.ix (fun _ => ?_)
        refine PP.ite (fun c_45 => ?_) (fun c_45 => ?_)
        · skip
          unfold mb_chain_49
          refine PP.ite (fun c_46 => ?_) (fun c_46 => ?_)
          · skip
            have h_47 : x3 = (-1 : Int32) := c_46
            unfold mb_chain_54
            refine PP.ret ?_
            refine Or.inl ⟨rfl, h44, ?_, hR.trans ?_⟩
            · show (F 43) = F0 43
              first | with_reducible rfl | (simp only [h43, i_as, fup, Nat.reduceEqDiff, reduceIte, if_false]) | rfl
            · show _ = some (some (F 42))
              first | with_reducible rfl | (simp only [rh_chain, rl_chain, h_47, h43, i_as, fup, i_a0, i0m, i10, eq_self, rb_yes, rb_no, ryes, rno, if_true, if_false, f_tt (p := True), reduceIte, Nat.reduceEqDiff]) | rfl
          · skip
            have h_48 : ¬ x3 = (-1 : Int32) := c_46
            unfold mb_chain_56
            refine PP.ix (fun _ => ?_)
            refine PP.ix (fun _ => ?_)
            unfold mb_chain_74
            refine PP.ix (fun _ => ?_)
            unfold mb_chain_84
            refine PP.ite (fun c_49 => ?_) (fun c_49 => ?_)
            · skip
              unfold mb_chain_101
              refine PP.ite (fun c_50 => ?_) (fun c_50 => ?_)
              · skip
                have h_51 : x3 = (0 : Int32) := c_50
                unfold mb_chain_106
                unfold mb_chain_113
                refine PP.bind (mw_step (14 : Int32) (0 : Int32) (0 : Int32) F (gup (gup G 67 (F 70).toNatClampNeg (G 5 (F 42).toNatClampNeg)) 68 (F 70).toNatClampNeg x3)) ?_
                intro r52 F52 G52 hK52
                dsimp only
                have g_53 : G52 4 = K := Eq.trans (hK52.2 4 rfl) g4
                have g_54 : G52 5 = V := Eq.trans (hK52.2 5 rfl) g5
                have q_55 : F52 42 = (F 42) := hK52.1 42 rfl
                have q_56 : F52 43 = (F0 43) := Eq.trans (hK52.1 43 rfl) (show (F 43) = (F0 43) by simp only [h43, i_as])
                have q_57 : F52 44 = 0 := Eq.trans (hK52.1 44 rfl) h44
                unfold mb_chain_118
                refine PP.ix (fun _ => ?_)
                unfold mb_chain_119
                unfold mb_chain_129
                unfold mb_chain_139
                refine PP.bind (PP.and (ihK 7 0 0 (fup (fup F52 70 ((F52 70) + (1 : Int32))) 42 ((F52 42) + (1 : Int32))) (gup G52 69 (F 70).toNatClampNeg r52)) (ih.2.2.2 7 0 0 (fup (fup F52 70 ((F52 70) + (1 : Int32))) 42 ((F52 42) + (1 : Int32))) (gup G52 69 (F 70).toNatClampNeg r52) g_53 g_54 (show (fup (fup F52 70 ((F52 70) + (1 : Int32))) 42 ((F52 42) + (1 : Int32))) 44 = 0 from q_57) (fun e => absurd e (by decide)))) ?_
                rintro r58 F58 G58 ⟨hK58, (⟨rfl, u58a, u58b, u58⟩ | ⟨rfl, u58a, u58⟩)⟩
                · dsimp only
                  have g_59 : G58 4 = K := Eq.trans (hK58.2 4 rfl) g_53
                  have g_60 : G58 5 = V := Eq.trans (hK58.2 5 rfl) g_54
                  have h_61 : r 7 ((F 42) + (1 : Int32)) (F0 43) = some (some (F58 42)) := by
                    have q : r 7 ((F52 42) + (1 : Int32)) (F52 43) = some (some (F58 42)) := u58
                    simp only [q_55, q_56, i_as] at q; exact q
                  have q_62 : F58 43 = (F0 43) := by
                    have q := (show F58 43 = (F52 43) from u58b)
                    simp only [q_55, q_56, i_as] at q; exact q
                  unfold mb_chain_143
                  exact hag_10 x1 (1 : Int32) F58 G58 g_59 g_60 (Or.inl ⟨rfl, u58a, (by first | with_reducible rfl | (simp only [h43, q_55, q_56, q_62, i_as, fup, Nat.reduceEqDiff, reduceIte, if_false]) | rfl), (hR.trans (by first | with_reducible rfl | (simp only [rh_chain, rl_chain, h_48, h_51, h_61, h43, q_55, q_56, q_62, i_as, fup, i_a0, i0m, i10, eq_self, rb_yes, rb_no, ryes, rno, if_true, if_false, f_tt (p := True), reduceIte, Nat.reduceEqDiff]) | rfl))⟩)
                · dsimp only
                  have g_63 : G58 4 = K := Eq.trans (hK58.2 4 rfl) g_53
                  have g_64 : G58 5 = V := Eq.trans (hK58.2 5 rfl) g_54
                  have h_65 : r 7 ((F 42) + (1 : Int32)) (F0 43) = some (none) := by
                    have q : r 7 ((F52 42) + (1 : Int32)) (F52 43) = some (none) := u58
                    simp only [q_55, q_56, i_as] at q; exact q
                  unfold mb_chain_143
                  exact hag_10 x1 (0 : Int32) F58 G58 g_63 g_64 (Or.inr ⟨rfl, u58a, (hR.trans (by first | with_reducible rfl | (simp only [rh_chain, rl_chain, h_48, h_51, h_65, h43, q_55, q_56, i_as, fup, i_a0, i0m, i10, eq_self, rb_yes, rb_no, ryes, rno, if_true, if_false, f_tt (p := True), reduceIte, Nat.reduceEqDiff]) | rfl))⟩)
              · skip
                have h_66 : ¬ x3 = (0 : Int32) := c_50
                unfold mb_chain_111
                unfold mb_chain_113
                refine PP.bind (mw_step (13 : Int32) (0 : Int32) (0 : Int32) F (gup (gup G 67 (F 70).toNatClampNeg (G 5 (F 42).toNatClampNeg)) 68 (F 70).toNatClampNeg x3)) ?_
                intro r67 F67 G67 hK67
                dsimp only
                have g_68 : G67 4 = K := Eq.trans (hK67.2 4 rfl) g4
                have g_69 : G67 5 = V := Eq.trans (hK67.2 5 rfl) g5
                have q_70 : F67 42 = (F 42) := hK67.1 42 rfl
                have q_71 : F67 43 = (F0 43) := Eq.trans (hK67.1 43 rfl) (show (F 43) = (F0 43) by simp only [h43, i_as])
                have q_72 : F67 44 = 0 := Eq.trans (hK67.1 44 rfl) h44
                unfold mb_chain_118
                refine PP.ix (fun _ => ?_)
                unfold mb_chain_119
                unfold mb_chain_129
                unfold mb_chain_139
                refine PP.bind (PP.and (ihK 7 0 0 (fup (fup F67 70 ((F67 70) + (1 : Int32))) 42 ((F67 42) + (1 : Int32))) (gup G67 69 (F 70).toNatClampNeg r67)) (ih.2.2.2 7 0 0 (fup (fup F67 70 ((F67 70) + (1 : Int32))) 42 ((F67 42) + (1 : Int32))) (gup G67 69 (F 70).toNatClampNeg r67) g_68 g_69 (show (fup (fup F67 70 ((F67 70) + (1 : Int32))) 42 ((F67 42) + (1 : Int32))) 44 = 0 from q_72) (fun e => absurd e (by decide)))) ?_
                rintro r73 F73 G73 ⟨hK73, (⟨rfl, u73a, u73b, u73⟩ | ⟨rfl, u73a, u73⟩)⟩
                · dsimp only
                  have g_74 : G73 4 = K := Eq.trans (hK73.2 4 rfl) g_68
                  have g_75 : G73 5 = V := Eq.trans (hK73.2 5 rfl) g_69
                  have h_76 : r 7 ((F 42) + (1 : Int32)) (F0 43) = some (some (F73 42)) := by
                    have q : r 7 ((F67 42) + (1 : Int32)) (F67 43) = some (some (F73 42)) := u73
                    simp only [q_70, q_71, i_as] at q; exact q
                  have q_77 : F73 43 = (F0 43) := by
                    have q := (show F73 43 = (F67 43) from u73b)
                    simp only [q_70, q_71, i_as] at q; exact q
                  unfold mb_chain_143
                  exact hag_10 x1 (1 : Int32) F73 G73 g_74 g_75 (Or.inl ⟨rfl, u73a, (by first | with_reducible rfl | (simp only [h43, q_70, q_71, q_77, i_as, fup, Nat.reduceEqDiff, reduceIte, if_false]) | rfl), (hR.trans (by first | with_reducible rfl | (simp only [rh_chain, rl_chain, h_48, h_66, h_76, h43, q_70, q_71, q_77, i_as, fup, i_a0, i0m, i10, eq_self, rb_yes, rb_no, ryes, rno, if_true, if_false, f_tt (p := True), reduceIte, Nat.reduceEqDiff]) | rfl))⟩)
                · dsimp only
                  have g_78 : G73 4 = K := Eq.trans (hK73.2 4 rfl) g_68
                  have g_79 : G73 5 = V := Eq.trans (hK73.2 5 rfl) g_69
                  have h_80 : r 7 ((F 42) + (1 : Int32)) (F0 43) = some (none) := by
                    have q : r 7 ((F67 42) + (1 : Int32)) (F67 43) = some (none) := u73
                    simp only [q_70, q_71, i_as] at q; exact q
                  unfold mb_chain_143
                  exact hag_10 x1 (0 : Int32) F73 G73 g_78 g_79 (Or.inr ⟨rfl, u73a, (hR.trans (by first | with_reducible rfl | (simp only [rh_chain, rl_chain, h_48, h_66, h_80, h43, q_70, q_71, i_as, fup, i_a0, i0m, i10, eq_self, rb_yes, rb_no, ryes, rno, if_true, if_false, f_tt (p := True), reduceIte, Nat.reduceEqDiff]) | rfl))⟩)
            · skip
              unfold mb_chain_97
              unfold mb_chain_118
              refine PP.ix (fun _ => ?_)
              unfold mb_chain_119
              unfold mb_chain_129
              unfold mb_chain_139
              refine PP.bind (PP.and (ihK 7 0 0 (fup (fup F 70 ((F 70) + (1 : Int32))) 42 ((F 42) + (1 : Int32))) (gup (gup (gup G 67 (F 70).toNatClampNeg (G 5 (F 42).toNatClampNeg)) 68 (F 70).toNatClampNeg x3) 69 (F 70).toNatClampNeg (-1 : Int32))) (ih.2.2.2 7 0 0 (fup (fup F 70 ((F 70) + (1 : Int32))) 42 ((F 42) + (1 : Int32))) (gup (gup (gup G 67 (F 70).toNatClampNeg (G 5 (F 42).toNatClampNeg)) 68 (F 70).toNatClampNeg x3) 69 (F 70).toNatClampNeg (-1 : Int32)) g4 g5 (show (fup (fup F 70 ((F 70) + (1 : Int32))) 42 ((F 42) + (1 : Int32))) 44 = 0 from h44) (fun e => absurd e (by decide)))) ?_
              rintro r81 F81 G81 ⟨hK81, (⟨rfl, u81a, u81b, u81⟩ | ⟨rfl, u81a, u81⟩)⟩
              · dsimp only
                have g_82 : G81 4 = K := Eq.trans (hK81.2 4 rfl) g4
                have g_83 : G81 5 = V := Eq.trans (hK81.2 5 rfl) g5
                have h_84 : r 7 ((F 42) + (1 : Int32)) (F0 43) = some (some (F81 42)) := by
                  have q : r 7 ((F 42) + (1 : Int32)) (F 43) = some (some (F81 42)) := u81
                  simp only [h43, i_as] at q; exact q
                have q_85 : F81 43 = (F0 43) := by
                  have q := (show F81 43 = (F 43) from u81b)
                  simp only [h43, i_as] at q; exact q
                unfold mb_chain_143
                exact hag_10 x1 (1 : Int32) F81 G81 g_82 g_83 (Or.inl ⟨rfl, u81a, (by first | with_reducible rfl | (simp only [h43, q_85, i_as, fup, Nat.reduceEqDiff, reduceIte, if_false]) | rfl), (hR.trans (by first | with_reducible rfl | (simp only [rh_chain, rl_chain, h_48, h_84, h43, q_85, i_as, fup, i_a0, i0m, i10, eq_self, rb_yes, rb_no, ryes, rno, if_true, if_false, f_tt (p := True), reduceIte, Nat.reduceEqDiff]) | rfl))⟩)
              · dsimp only
                have g_86 : G81 4 = K := Eq.trans (hK81.2 4 rfl) g4
                have g_87 : G81 5 = V := Eq.trans (hK81.2 5 rfl) g5
                have h_88 : r 7 ((F 42) + (1 : Int32)) (F0 43) = some (none) := by
                  have q : r 7 ((F 42) + (1 : Int32)) (F 43) = some (none) := u81
                  simp only [h43, i_as] at q; exact q
                unfold mb_chain_143
                exact hag_10 x1 (0 : Int32) F81 G81 g_86 g_87 (Or.inr ⟨rfl, u81a, (hR.trans (by first | with_reducible rfl | (simp only [rh_chain, rl_chain, h_48, h_88, h43, i_as, fup, i_a0, i0m, i10, eq_self, rb_yes, rb_no, ryes, rno, if_true, if_false, f_tt (p := True), reduceIte, Nat.reduceEqDiff]) | rfl))⟩)
        · skip
          unfold mb_chain_42
          refine PP.bind (mw_binds F G) ?_
          intro r89 F89 G89 hK89
          dsimp only
          have g_90 : G89 4 = K := Eq.trans (hK89.2 4 rfl) g4
          have g_91 : G89 5 = V := Eq.trans (hK89.2 5 rfl) g5
          have q_92 : F89 42 = (F 42) := hK89.1 42 rfl
          have q_93 : F89 43 = (F0 43) := Eq.trans (hK89.1 43 rfl) (show (F 43) = (F0 43) by simp only [h43, i_as])
          have q_94 : F89 44 = 0 := Eq.trans (hK89.1 44 rfl) h44
          unfold mb_chain_46
          exact ihn x1 x3 F89 G89 g_90 g_91 ⟨q_94, (by first | with_reducible rfl | (simp only [h43, q_92, q_93, i_as, fup, Nat.reduceEqDiff, reduceIte, if_false]) | rfl), (hR.trans (by first | with_reducible rfl | (simp only [rh_chain, rl_chain, h43, q_92, q_93, i_as, fup, i_a0, i0m, i10, eq_self, rb_yes, rb_no, ryes, rno, if_true, if_false, f_tt (p := True), reduceIte, Nat.reduceEqDiff]) | rfl))⟩
theorem mrz_chain_10 {fu : Nat} {K V : Nat → Int32} (rc : RC) (r : RR) (ihK : mKI1 rc) (ih : mRI1 K V rc r) {F0 : PF} {R0 : OR} : ∀ (n : Nat) (x1 : Int32) (x2 : Int32) (F : PF) (G : PG) (g4 : G 4 = K) (g5 : G 5 = V) (hA : (x2 = 1 ∧ F 44 = 0 ∧ F 43 = F0 43 ∧ R0 = rl_chain K V r (F 43) n (F 42)) ∨ (x2 = 0 ∧ 0 < (F 44).toInt ∧ R0 = rno)), PP (ml_chain_10 fu rc n x1 x2 F G) (fun r' F' _ => ROK R0 F0 r' F') := by
  intro n
  induction n with
  | zero =>
    intro x1 x2 F G g4 g5 hA
    exact PP.no
  | succ n ihn =>
    intro x1 x2 F G g4 g5 hA
    show PP (mb_chain_10 fu rc (ml_chain_10 fu rc n) x1 x2 F G) _
    rcases hA with ⟨rfl, h44, h43, hR⟩ | ⟨rfl, hf, hR⟩
    · skip
      unfold mb_chain_10
      refine PP.ite (fun c_1 => absurd c_1 (by decide)) (fun _ => ?_)
      unfold mb_chain_14
      refine PP.bind (mp_level F G) ?_
      rintro _ _ _ ⟨rfl, rfl, rfl⟩
      dsimp only
      rw [show lvl (G 4) (G 5) (F 42) = lvl K V (F 42) by rw [show G 4 = K from g4, show G 5 = V from g5]]
      unfold mb_chain_18
      exact mrz_chain_19 rc r ihK ih (F0 := F0) (R0 := R0) (n10 := n) (ml_chain_10 fu rc n) ihn fu x1 (lvl K V (F 42)) F G g4 g5 ⟨h44, (by first | with_reducible rfl | (simp only [h43, i_as, fup, Nat.reduceEqDiff, reduceIte, if_false]) | rfl), (hR.trans (by first | with_reducible rfl | (simp only [rh_chain, rl_chain, h43, i_as, fup, i_a0, i0m, i10, eq_self, rb_yes, rb_no, ryes, rno, if_true, if_false, f_tt (p := True), reduceIte, Nat.reduceEqDiff]) | rfl))⟩
    · skip
      unfold mb_chain_10
      refine PP.ite (fun _ => ?_) (fun c_4 => absurd (by decide) c_4)
      unfold mb_chain_147
      refine PP.ret ?_
      refine Or.inr ⟨rfl, hf, hR.trans ?_⟩
      first | with_reducible rfl | (simp only [rh_chain, rl_chain, i_as, fup, i_a0, i0m, i10, eq_self, rb_yes, rb_no, ryes, rno, if_true, if_false, f_tt (p := True), reduceIte, Nat.reduceEqDiff]) | rfl
theorem mrt_chain {fu : Nat} {K V : Nat → Int32} (rc : RC) (r : RR) (ihK : mKI1 rc) (ih : mRI1 K V rc r) (F : PF) (G : PG) (g4 : G 4 = K) (g5 : G 5 = V) (h44 : F 44 = 0) : PP (mh_chain fu rc F G) (fun r' F' _ => ROK (rh_chain K V fu r (F 42) (F 43)) F r' F') := by
  unfold mh_chain
  unfold mb_chain_0
  refine PP.bind (PP.and (ihK 7 0 0 F G) (ih.2.2.2 7 0 0 F G g4 g5 (show F 44 = 0 from h44) (fun e => absurd e (by decide)))) ?_
  rintro r1 F1 G1 ⟨hK1, (⟨rfl, u1a, u1b, u1⟩ | ⟨rfl, u1a, u1⟩)⟩
  · dsimp only
    have g_2 : G1 4 = K := Eq.trans (hK1.2 4 rfl) g4
    have g_3 : G1 5 = V := Eq.trans (hK1.2 5 rfl) g5
    have h_4 : r 7 (F 42) (F 43) = some (some (F1 42)) := u1
    have q_5 : F1 43 = (F 43) := (show F1 43 = (F 43) from u1b)
    unfold mb_chain_9
    exact mrz_chain_10 rc r ihK ih (F0 := F) (R0 := (rh_chain K V fu r (F 42) (F 43))) fu (F 70) (1 : Int32) F1 G1 g_2 g_3 (Or.inl ⟨rfl, u1a, (by first | with_reducible rfl | (simp only [q_5, i_as, fup, Nat.reduceEqDiff, reduceIte, if_false]) | rfl), ((rfl : (rh_chain K V fu r (F 42) (F 43)) = _).trans (by first | with_reducible rfl | (simp only [rh_chain, rl_chain, h_4, q_5, i_as, fup, i_a0, i0m, i10, eq_self, rb_yes, rb_no, ryes, rno, if_true, if_false, f_tt (p := True), reduceIte, Nat.reduceEqDiff]) | rfl))⟩)
  · dsimp only
    have g_6 : G1 4 = K := Eq.trans (hK1.2 4 rfl) g4
    have g_7 : G1 5 = V := Eq.trans (hK1.2 5 rfl) g5
    have h_8 : r 7 (F 42) (F 43) = some (none) := u1
    unfold mb_chain_9
    exact mrz_chain_10 rc r ihK ih (F0 := F) (R0 := (rh_chain K V fu r (F 42) (F 43))) fu (F 70) (0 : Int32) F1 G1 g_6 g_7 (Or.inr ⟨rfl, u1a, ((rfl : (rh_chain K V fu r (F 42) (F 43)) = _).trans (by first | with_reducible rfl | (simp only [rh_chain, rl_chain, h_8, i_as, fup, i_a0, i0m, i10, eq_self, rb_yes, rb_no, ryes, rno, if_true, if_false, f_tt (p := True), reduceIte, Nat.reduceEqDiff]) | rfl))⟩)
theorem mrj_element_121 {fu : Nat} {K V : Nat → Int32} (rc : RC) (r : RR) (ihK : mKI1 rc) (ih : mRI1 K V rc r) {F0 : PF} {R0 : OR} (z0 : Int32) (z1 : Int32) (z2 : Int32) (F : PF) (G : PG) (g4 : G 4 = K) (g5 : G 5 = V) (hA : (F 44 = 0 ∧ F 43 = F0 43 ∧ R0 = ryes (F 42))) : PP (mb_element_121 fu rc z0 z1 z2 F G) (fun r' F' _ => ROK R0 F0 r' F') := by
  rcases hA with ⟨h44, h43, hR⟩
  · skip
    unfold mb_element_121
    refine PP.ix (fun _ => ?_)
    unfold mb_element_123
    refine PP.ret ?_
    refine Or.inl ⟨rfl, h44, ?_, hR.trans ?_⟩
    · show (F 43) = F0 43
      first | with_reducible rfl | (simp only [h43, i_as, fup, Nat.reduceEqDiff, reduceIte, if_false]) | rfl
    · show _ = some (some (F 42))
      first | with_reducible rfl | (simp only [rh_element, rclose, h43, i_as, fup, i_a0, i0m, i10, eq_self, rb_yes, rb_no, ryes, rno, if_true, if_false, f_tt (p := True), reduceIte, Nat.reduceEqDiff]) | rfl
theorem mrj_element_89 {fu : Nat} {K V : Nat → Int32} (rc : RC) (r : RR) (ihK : mKI1 rc) (ih : mRI1 K V rc r) {F0 : PF} {R0 : OR} (F : PF) (G : PG) (g4 : G 4 = K) (g5 : G 5 = V) (hA : (0 < (F 44).toInt ∧ R0 = rno)) : PP (mb_element_89 fu rc F G) (fun r' F' _ => ROK R0 F0 r' F') := by
  rcases hA with ⟨hf, hR⟩
  · skip
    unfold mb_element_89
    refine PP.ret ?_
    refine Or.inr ⟨rfl, hf, hR.trans ?_⟩
    first | with_reducible rfl | (simp only [rh_element, rclose, i_as, fup, i_a0, i0m, i10, eq_self, rb_yes, rb_no, ryes, rno, if_true, if_false, f_tt (p := True), reduceIte, Nat.reduceEqDiff]) | rfl
theorem mrj_element_62 {fu : Nat} {K V : Nat → Int32} (rc : RC) (r : RR) (ihK : mKI1 rc) (ih : mRI1 K V rc r) {F0 : PF} {R0 : OR} (x2 : Int32) (x3 : Int32) (x4 : Int32) (z0 : Int32) (F : PF) (G : PG) (g4 : G 4 = K) (g5 : G 5 = V) (hA : (F 44 = 0 ∧ F 43 = F0 43 ∧ R0 = rh_element K V r (F 42) (F 43))) : PP (mb_element_62 fu rc x2 x3 x4 z0 F G) (fun r' F' _ => ROK R0 F0 r' F') := by
  rcases hA with ⟨h44, h43, hR⟩
  · skip
    unfold mb_element_62
    refine PP.bind (mp_openSign (24 : Int32) F G) ?_
    rintro r1 F1 G1 (⟨rfl, rfl, rfl, u1⟩ | ⟨rfl, u1, u1b⟩)
    · dsimp only
      have h_2 : sgn K V (F 42) (24 : Int32) = true := by
        rw [← g4, ← g5]
        have q := u1.1
        first | exact q | (simp only [h43, i_as] at q; exact q)
      have h_3 : ¬ (F0 43) = 40 := by
        have q : ¬ (F 43) = 40 := u1.2.1
        first | exact q | (simp only [h43, i_as] at q; exact q)
      unfold mb_element_70
      refine PP.ite (fun c_4 => absurd c_4 (by decide)) (fun _ => ?_)
      unfold mb_element_73
      refine PP.bind (PP.and (ihK 4 0 0 (fup (fup F 43 ((F 43) + (1 : Int32))) 42 ((F 42) + (1 : Int32))) G) (ih.2.2.2 4 0 0 (fup (fup F 43 ((F 43) + (1 : Int32))) 42 ((F 42) + (1 : Int32))) G g4 g5 (show (fup (fup F 43 ((F 43) + (1 : Int32))) 42 ((F 42) + (1 : Int32))) 44 = 0 from h44) (fun e => absurd e (by decide)))) ?_
      rintro r5 F5 G5 ⟨hK5, (⟨rfl, u5a, u5b, u5⟩ | ⟨rfl, u5a, u5⟩)⟩
      · dsimp only
        have g_6 : G5 4 = K := Eq.trans (hK5.2 4 rfl) g4
        have g_7 : G5 5 = V := Eq.trans (hK5.2 5 rfl) g5
        have h_8 : r 4 ((F 42) + (1 : Int32)) ((F0 43) + (1 : Int32)) = some (some (F5 42)) := by
          have q : r 4 ((F 42) + (1 : Int32)) ((F 43) + (1 : Int32)) = some (some (F5 42)) := u5
          simp only [h43, i_as] at q; exact q
        have q_9 : F5 43 = ((F0 43) + (1 : Int32)) := by
          have q := (show F5 43 = ((F 43) + (1 : Int32)) from u5b)
          simp only [h43, i_as] at q; exact q
        unfold mb_element_77
        refine PP.ite (fun c_10 => absurd c_10 (by decide)) (fun _ => ?_)
        unfold mb_element_80
        refine PP.bind (mp_closeSign (25 : Int32) F5 G5) ?_
        rintro r11 F11 G11 (⟨rfl, rfl, rfl, u11⟩ | ⟨rfl, u11, u11b⟩)
        · dsimp only
          have h_12 : sgn K V (F5 42) (25 : Int32) = true := by
            rw [← g_6, ← g_7]
            have q := u11.1
            first | exact q | (simp only [q_9, i_as] at q; exact q)
          unfold mb_element_86
          refine PP.ite (fun c_13 => absurd c_13 (by decide)) (fun _ => ?_)
          unfold mb_element_91
          refine PP.bind (mw_step (6 : Int32) x3 x4 (fup (fup F5 42 ((F5 42) + (1 : Int32))) 43 ((F5 43) - (1 : Int32))) G5) ?_
          intro r14 F14 G14 hK14
          dsimp only
          have g_15 : G14 4 = K := Eq.trans (hK14.2 4 rfl) g_6
          have g_16 : G14 5 = V := Eq.trans (hK14.2 5 rfl) g_7
          have q_17 : F14 42 = ((F5 42) + (1 : Int32)) := hK14.1 42 rfl
          have q_18 : F14 43 = (F0 43) := Eq.trans (hK14.1 43 rfl) (show ((F5 43) - (1 : Int32)) = (F0 43) by simp only [q_9, i_as])
          have q_19 : F14 44 = 0 := Eq.trans (hK14.1 44 rfl) u5a
          unfold mb_element_100
          refine PP.ite (fun c_20 => ?_) (fun c_20 => ?_)
          · skip
            unfold mb_element_120
            exact mrj_element_121 rc r ihK ih (F0 := F0) (R0 := R0) (0 : Int32) ((2 : Int32) * x2) r14 F14 G14 g_15 g_16 ⟨q_19, (by first | with_reducible rfl | (simp only [h43, q_9, q_17, q_18, i_as, fup, Nat.reduceEqDiff, reduceIte, if_false]) | rfl), (hR.trans (by first | with_reducible rfl | (simp only [rh_element, rclose, h_2, h_3, h_8, h_12, h43, q_9, q_17, q_18, i_as, fup, i_a0, i0m, i10, eq_self, rb_yes, rb_no, ryes, rno, if_true, if_false, f_tt (p := True), reduceIte, Nat.reduceEqDiff]) | rfl))⟩
          · skip
            unfold mb_element_116
            exact mrj_element_121 rc r ihK ih (F0 := F0) (R0 := R0) (1 : Int32) ((2 : Int32) * x2) r14 F14 G14 g_15 g_16 ⟨q_19, (by first | with_reducible rfl | (simp only [h43, q_9, q_17, q_18, i_as, fup, Nat.reduceEqDiff, reduceIte, if_false]) | rfl), (hR.trans (by first | with_reducible rfl | (simp only [rh_element, rclose, h_2, h_3, h_8, h_12, h43, q_9, q_17, q_18, i_as, fup, i_a0, i0m, i10, eq_self, rb_yes, rb_no, ryes, rno, if_true, if_false, f_tt (p := True), reduceIte, Nat.reduceEqDiff]) | rfl))⟩
        · dsimp only
          have g_21 : G11 4 = K := Eq.trans (u11.2.2.2 4 rfl) g_6
          have g_22 : G11 5 = V := Eq.trans (u11.2.2.2 5 rfl) g_7
          have q_23 : F11 42 = (F5 42) := u11.2.2.1 42 rfl
          have q_24 : F11 43 = ((F0 43) + (1 : Int32)) := Eq.trans (u11.2.2.1 43 rfl) (show (F5 43) = ((F0 43) + (1 : Int32)) by simp only [q_9, i_as])
          rcases u11b with q | q
          · exact absurd q (show ¬ 0 < (F5 44).toInt by rw [u5a]; decide)
          · skip
            have h_25 : sgn K V (F5 42) (25 : Int32) = false := by
              rw [← g_6, ← g_7]
              have q := q
              first | exact q | (simp only [q_9, i_as] at q; exact q)
            unfold mb_element_86
            refine PP.ite (fun _ => ?_) (fun c_26 => absurd (by decide) c_26)
            exact mrj_element_89 rc r ihK ih (F0 := F0) (R0 := R0) F11 G11 g_21 g_22 ⟨u11.1, (hR.trans (by first | with_reducible rfl | (simp only [rh_element, rclose, h_2, h_3, h_8, h_25, h43, q_9, q_23, q_24, i_as, fup, i_a0, i0m, i10, eq_self, rb_yes, rb_no, ryes, rno, if_true, if_false, f_tt (p := True), reduceIte, Nat.reduceEqDiff]) | rfl))⟩
      · dsimp only
        have g_27 : G5 4 = K := Eq.trans (hK5.2 4 rfl) g4
        have g_28 : G5 5 = V := Eq.trans (hK5.2 5 rfl) g5
        have h_29 : r 4 ((F 42) + (1 : Int32)) ((F0 43) + (1 : Int32)) = some (none) := by
          have q : r 4 ((F 42) + (1 : Int32)) ((F 43) + (1 : Int32)) = some (none) := u5
          simp only [h43, i_as] at q; exact q
        unfold mb_element_77
        refine PP.ite (fun _ => ?_) (fun c_30 => absurd (by decide) c_30)
        exact mrj_element_89 rc r ihK ih (F0 := F0) (R0 := R0) F5 G5 g_27 g_28 ⟨u5a, (hR.trans (by first | with_reducible rfl | (simp only [rh_element, rclose, h_2, h_3, h_29, h43, i_as, fup, i_a0, i0m, i10, eq_self, rb_yes, rb_no, ryes, rno, if_true, if_false, f_tt (p := True), reduceIte, Nat.reduceEqDiff]) | rfl))⟩
    · dsimp only
      have g_31 : G1 4 = K := Eq.trans (u1.2.2.2 4 rfl) g4
      have g_32 : G1 5 = V := Eq.trans (u1.2.2.2 5 rfl) g5
      have q_33 : F1 42 = (F 42) := u1.2.2.1 42 rfl
      have q_34 : F1 43 = (F0 43) := Eq.trans (u1.2.2.1 43 rfl) (show (F 43) = (F0 43) by simp only [h43, i_as])
      rcases u1b with q | q | ⟨q, q1⟩
      · exact absurd q (show ¬ 0 < (F 44).toInt by rw [h44]; decide)
      · skip
        have h_35 : sgn K V (F 42) (24 : Int32) = false := by
          rw [← g4, ← g5]
          have q := q
          first | exact q | (simp only [h43, i_as] at q; exact q)
        unfold mb_element_70
        refine PP.ite (fun _ => ?_) (fun c_36 => absurd (by decide) c_36)
        exact mrj_element_89 rc r ihK ih (F0 := F0) (R0 := R0) F1 G1 g_31 g_32 ⟨u1.1, (hR.trans (by first | with_reducible rfl | (simp only [rh_element, rclose, h_35, h43, q_33, q_34, i_as, fup, i_a0, i0m, i10, eq_self, rb_yes, rb_no, ryes, rno, if_true, if_false, f_tt (p := True), reduceIte, Nat.reduceEqDiff]) | rfl))⟩
      · skip
        have h_37 : sgn K V (F 42) (24 : Int32) = true := by
          rw [← g4, ← g5]
          have q := q
          first | exact q | (simp only [h43, i_as] at q; exact q)
        have h_38 : ((F0 43) = 40) = True := by
          have q : (F 43) = 40 := q1
          first | exact eq_true q | (simp only [h43, i_as] at q; exact eq_true q)
        unfold mb_element_70
        refine PP.ite (fun _ => ?_) (fun c_39 => absurd (by decide) c_39)
        exact mrj_element_89 rc r ihK ih (F0 := F0) (R0 := R0) F1 G1 g_31 g_32 ⟨u1.1, (hR.trans (by first | with_reducible rfl | (simp only [rh_element, rclose, h_37, h_38, h43, q_33, q_34, i_as, fup, i_a0, i0m, i10, eq_self, rb_yes, rb_no, ryes, rno, if_true, if_false, f_tt (p := True), reduceIte, Nat.reduceEqDiff]) | rfl))⟩
