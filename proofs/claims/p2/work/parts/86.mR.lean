theorem mrj_inConstant_34 {fu : Nat} {K V : Nat → Int32} (rc : RC) (r : RR) (ihK : mKI1 rc) (ih : mRI1 K V rc r) {F0 : PF} {R0 : OR} (x1 : Int32) (x2 : Int32) (F : PF) (G : PG) (g4 : G 4 = K) (g5 : G 5 = V) (hA : (F 44 = 0 ∧ F 43 = F0 43 ∧ R0 = rh_tail K V r (F 42) (F 43) ∧ K ((F 42) - (1 : Int32)).toNatClampNeg = (1 : Int32))) : PP (mb_inConstant_34 fu rc x1 x2 F G) (fun r' F' _ => ROK R0 F0 r' F') := by
  rcases hA with ⟨h44, h43, hR, hx0⟩
  · skip
    unfold mb_inConstant_34
    exact mrj_inConstant_35 rc r ihK ih (F0 := F0) (R0 := R0) x1 x2 (0 : Int32) F G g4 g5 ⟨h44, (by first | rfl | (simp only [h43, i_as])), (hR.trans (by first | rfl | (simp only [rh_tail, hx0, h43, i_as, i10, eq_self, rb_yes, rb_no, ryes, rno, if_true, if_false, f_tt (p := True), reduceIte]))), (by first | rfl | assumption | (simp only [rh_tail, hx0, h43, i_as, i10, eq_self, rb_yes, rb_no, ryes, rno, if_true, if_false, f_tt (p := True), reduceIte]) | exact sgn_ne (by assumption) (by decide))⟩
theorem mrj_inConstant_16 {fu : Nat} {K V : Nat → Int32} (rc : RC) (r : RR) (ihK : mKI1 rc) (ih : mRI1 K V rc r) {F0 : PF} {R0 : OR} (x1 : Int32) (z0 : Int32) (F : PF) (G : PG) (g4 : G 4 = K) (g5 : G 5 = V) (hA : (F 44 = 0 ∧ F 43 = F0 43 ∧ R0 = rh_tail K V r (F 42) (F 43) ∧ K ((F 42) - (1 : Int32)).toNatClampNeg = (1 : Int32))) : PP (mb_inConstant_16 fu rc x1 z0 F G) (fun r' F' _ => ROK R0 F0 r' F') := by
  rcases hA with ⟨h44, h43, hR, hx0⟩
  · skip
    unfold mb_inConstant_16
    refine PP.ite (fun c_1 => ?_) (fun c_1 => ?_)
    · skip
      unfold mb_inConstant_22
      refine PP.ite (fun c_2 => ?_) (fun c_2 => ?_)
      · skip
        unfold mb_inConstant_30
        exact mrj_inConstant_35 rc r ihK ih (F0 := F0) (R0 := R0) x1 z0 (1 : Int32) F G g4 g5 ⟨h44, (by first | rfl | (simp only [h43, i_as])), (hR.trans (by first | rfl | (simp only [rh_tail, hx0, h43, i_as, i10, eq_self, rb_yes, rb_no, ryes, rno, if_true, if_false, f_tt (p := True), reduceIte]))), (by first | rfl | assumption | (simp only [rh_tail, hx0, h43, i_as, i10, eq_self, rb_yes, rb_no, ryes, rno, if_true, if_false, f_tt (p := True), reduceIte]) | exact sgn_ne (by assumption) (by decide))⟩
      · skip
        exact mrj_inConstant_34 rc r ihK ih (F0 := F0) (R0 := R0) x1 z0 F G g4 g5 ⟨h44, (by first | rfl | (simp only [h43, i_as])), (hR.trans (by first | rfl | (simp only [rh_tail, hx0, h43, i_as, i10, eq_self, rb_yes, rb_no, ryes, rno, if_true, if_false, f_tt (p := True), reduceIte]))), (by first | rfl | assumption | (simp only [rh_tail, hx0, h43, i_as, i10, eq_self, rb_yes, rb_no, ryes, rno, if_true, if_false, f_tt (p := True), reduceIte]) | exact sgn_ne (by assumption) (by decide))⟩
    · skip
      exact mrj_inConstant_34 rc r ihK ih (F0 := F0) (R0 := R0) x1 z0 F G g4 g5 ⟨h44, (by first | rfl | (simp only [h43, i_as])), (hR.trans (by first | rfl | (simp only [rh_tail, hx0, h43, i_as, i10, eq_self, rb_yes, rb_no, ryes, rno, if_true, if_false, f_tt (p := True), reduceIte]))), (by first | rfl | assumption | (simp only [rh_tail, hx0, h43, i_as, i10, eq_self, rb_yes, rb_no, ryes, rno, if_true, if_false, f_tt (p := True), reduceIte]) | exact sgn_ne (by assumption) (by decide))⟩
theorem mrt_inConstant {fu : Nat} {K V : Nat → Int32} (rc : RC) (r : RR) (ihK : mKI1 rc) (ih : mRI1 K V rc r) (x1 : Int32) (F : PF) (G : PG) (g4 : G 4 = K) (g5 : G 5 = V) (h44 : F 44 = 0) (hp : K (F 42 - 1).toNatClampNeg = 1) : PP (mh_inConstant fu rc x1 F G) (fun r' F' _ => ROK (rh_tail K V r (F 42) (F 43)) F r' F') := by
  unfold mh_inConstant
  unfold mb_inConstant_0
  refine PP.ite (fun c_1 => ?_) (fun c_1 => ?_)
  · skip
    unfold mb_inConstant_7
    exact mrj_inConstant_16 rc r ihK ih (F0 := F) (R0 := (rh_tail K V r (F 42) (F 43))) x1 (-1 : Int32) F G g4 g5 ⟨h44, (by first | rfl | (simp only [i_as])), ((rfl : (rh_tail K V r (F 42) (F 43)) = _).trans (by first | rfl | (simp only [rh_tail, hp, i_as, i10, eq_self, rb_yes, rb_no, ryes, rno, if_true, if_false, f_tt (p := True), reduceIte]))), (by first | rfl | assumption | (simp only [rh_tail, hp, i_as, i10, eq_self, rb_yes, rb_no, ryes, rno, if_true, if_false, f_tt (p := True), reduceIte]) | exact sgn_ne (by assumption) (by decide))⟩
  · skip
    unfold mb_inConstant_11
    refine PP.bind (mw_meaning x1 F G) ?_
    intro r2 F2 G2 hK2
    dsimp only
    have g_3 : G2 4 = K := Eq.trans (hK2.2 4 rfl) g4
    have g_4 : G2 5 = V := Eq.trans (hK2.2 5 rfl) g5
    have q_5 : F2 42 = (F 42) := hK2.1 42 rfl
    have q_6 : F2 43 = (F 43) := hK2.1 43 rfl
    have q_7 : F2 44 = 0 := Eq.trans (hK2.1 44 rfl) h44
    exact mrj_inConstant_16 rc r ihK ih (F0 := F) (R0 := (rh_tail K V r (F 42) (F 43))) x1 r2 F2 G2 g_3 g_4 ⟨q_7, (by first | rfl | (simp only [q_5, q_6, i_as])), ((rfl : (rh_tail K V r (F 42) (F 43)) = _).trans (by first | rfl | (simp only [rh_tail, hp, q_5, q_6, i_as, i10, eq_self, rb_yes, rb_no, ryes, rno, if_true, if_false, f_tt (p := True), reduceIte]))), (by first | rfl | assumption | (simp only [rh_tail, hp, q_5, q_6, i_as, i10, eq_self, rb_yes, rb_no, ryes, rno, if_true, if_false, f_tt (p := True), reduceIte]) | exact sgn_ne (by assumption) (by decide))⟩
theorem mrj_named_212 {fu : Nat} {K V : Nat → Int32} (rc : RC) (r : RR) (ihK : mKI1 rc) (ih : mRI1 K V rc r) {F0 : PF} {R0 : OR} (F : PF) (G : PG) (g4 : G 4 = K) (g5 : G 5 = V) (hA : (F 44 = 0 ∧ F 43 = F0 43 ∧ R0 = ryes (F 42))) : PP (mb_named_212 fu rc F G) (fun r' F' _ => ROK R0 F0 r' F') := by
  rcases hA with ⟨h44, h43, hR⟩
  · skip
    unfold mb_named_212
    refine PP.ret ?_
    refine Or.inl ⟨rfl, h44, ?_, hR.trans ?_⟩
    · show (F 43) = F0 43
      first | rfl | (simp only [h43, i_as])
    · show _ = some (some (F 42))
      first | rfl | (simp only [rh_tail, h43, i_as, i10, eq_self, rb_yes, rb_no, ryes, rno, if_true, if_false, f_tt (p := True), reduceIte])
theorem mrj_named_207 {fu : Nat} {K V : Nat → Int32} (rc : RC) (r : RR) (ihK : mKI1 rc) (ih : mRI1 K V rc r) {F0 : PF} {R0 : OR} (z0 : Int32) (z1 : Int32) (F : PF) (G : PG) (g4 : G 4 = K) (g5 : G 5 = V) (hA : (F 44 = 0 ∧ F 43 = F0 43 ∧ R0 = ryes (F 42))) : PP (mb_named_207 fu rc z0 z1 F G) (fun r' F' _ => ROK R0 F0 r' F') := by
  rcases hA with ⟨h44, h43, hR⟩
  · skip
    unfold mb_named_207
    refine PP.bind (mw_step z1 z0 (0 : Int32) F G) ?_
    intro r1 F1 G1 hK1
    dsimp only
    have g_2 : G1 4 = K := Eq.trans (hK1.2 4 rfl) g4
    have g_3 : G1 5 = V := Eq.trans (hK1.2 5 rfl) g5
    have q_4 : F1 42 = (F 42) := hK1.1 42 rfl
    have q_5 : F1 43 = (F0 43) := Eq.trans (hK1.1 43 rfl) (show (F 43) = (F0 43) by simp only [h43, i_as])
    have q_6 : F1 44 = 0 := Eq.trans (hK1.1 44 rfl) h44
    unfold mb_named_211
    exact mrj_named_212 rc r ihK ih (F0 := F0) (R0 := R0) F1 G1 g_2 g_3 ⟨q_6, (by first | rfl | (simp only [q_4, q_5, i_as])), (hR.trans (by first | rfl | (simp only [rh_tail, q_4, q_5, i_as, i10, eq_self, rb_yes, rb_no, ryes, rno, if_true, if_false, f_tt (p := True), reduceIte])))⟩
theorem mrj_named_192 {fu : Nat} {K V : Nat → Int32} (rc : RC) (r : RR) (ihK : mKI1 rc) (ih : mRI1 K V rc r) {F0 : PF} {R0 : OR} (x2 : Int32) (z0 : Int32) (F : PF) (G : PG) (g4 : G 4 = K) (g5 : G 5 = V) (hA : (F 44 = 0 ∧ F 43 = F0 43 ∧ R0 = ryes (F 42))) : PP (mb_named_192 fu rc x2 z0 F G) (fun r' F' _ => ROK R0 F0 r' F') := by
  rcases hA with ⟨h44, h43, hR⟩
  · skip
    unfold mb_named_192
    refine PP.ite (fun c_1 => ?_) (fun c_1 => ?_)
    · skip
      unfold mb_named_197
      exact mrj_named_207 rc r ihK ih (F0 := F0) (R0 := R0) (0 : Int32) z0 F G g4 g5 ⟨h44, (by first | rfl | (simp only [h43, i_as])), (hR.trans (by first | rfl | (simp only [rh_tail, h43, i_as, i10, eq_self, rb_yes, rb_no, ryes, rno, if_true, if_false, f_tt (p := True), reduceIte])))⟩
    · skip
      unfold mb_named_201
      refine PP.ix (fun _ => ?_)
      exact mrj_named_207 rc r ihK ih (F0 := F0) (R0 := R0) (G 20 x2.toNatClampNeg) z0 F G g4 g5 ⟨h44, (by first | rfl | (simp only [h43, i_as])), (hR.trans (by first | rfl | (simp only [rh_tail, h43, i_as, i10, eq_self, rb_yes, rb_no, ryes, rno, if_true, if_false, f_tt (p := True), reduceIte])))⟩
theorem mrj_named_191 {fu : Nat} {K V : Nat → Int32} (rc : RC) (r : RR) (ihK : mKI1 rc) (ih : mRI1 K V rc r) {F0 : PF} {R0 : OR} (x2 : Int32) (F : PF) (G : PG) (g4 : G 4 = K) (g5 : G 5 = V) (hA : (F 44 = 0 ∧ F 43 = F0 43 ∧ R0 = ryes (F 42))) : PP (mb_named_191 fu rc x2 F G) (fun r' F' _ => ROK R0 F0 r' F') := by
  rcases hA with ⟨h44, h43, hR⟩
  · skip
    unfold mb_named_191
    exact mrj_named_192 rc r ihK ih (F0 := F0) (R0 := R0) x2 (3 : Int32) F G g4 g5 ⟨h44, (by first | rfl | (simp only [h43, i_as])), (hR.trans (by first | rfl | (simp only [rh_tail, h43, i_as, i10, eq_self, rb_yes, rb_no, ryes, rno, if_true, if_false, f_tt (p := True), reduceIte])))⟩
theorem mrj_named_172 {fu : Nat} {K V : Nat → Int32} (rc : RC) (r : RR) (ihK : mKI1 rc) (ih : mRI1 K V rc r) {F0 : PF} {R0 : OR} (x2 : Int32) (F : PF) (G : PG) (g4 : G 4 = K) (g5 : G 5 = V) (hA : (F 44 = 0 ∧ F 43 = F0 43 ∧ R0 = ryes (F 42))) : PP (mb_named_172 fu rc x2 F G) (fun r' F' _ => ROK R0 F0 r' F') := by
  rcases hA with ⟨h44, h43, hR⟩
  · skip
    unfold mb_named_172
    refine PP.ite (fun c_1 => ?_) (fun c_1 => ?_)
    · skip
      exact mrj_named_191 rc r ihK ih (F0 := F0) (R0 := R0) x2 F G g4 g5 ⟨h44, (by first | rfl | (simp only [h43, i_as])), (hR.trans (by first | rfl | (simp only [rh_tail, h43, i_as, i10, eq_self, rb_yes, rb_no, ryes, rno, if_true, if_false, f_tt (p := True), reduceIte])))⟩
    · skip
      unfold mb_named_178
      refine PP.ix (fun _ => ?_)
      refine PP.ite (fun c_2 => ?_) (fun c_2 => ?_)
      · skip
        exact mrj_named_191 rc r ihK ih (F0 := F0) (R0 := R0) x2 F G g4 g5 ⟨h44, (by first | rfl | (simp only [h43, i_as])), (hR.trans (by first | rfl | (simp only [rh_tail, h43, i_as, i10, eq_self, rb_yes, rb_no, ryes, rno, if_true, if_false, f_tt (p := True), reduceIte])))⟩
      · skip
        unfold mb_named_187
        exact mrj_named_192 rc r ihK ih (F0 := F0) (R0 := R0) x2 (1 : Int32) F G g4 g5 ⟨h44, (by first | rfl | (simp only [h43, i_as])), (hR.trans (by first | rfl | (simp only [rh_tail, h43, i_as, i10, eq_self, rb_yes, rb_no, ryes, rno, if_true, if_false, f_tt (p := True), reduceIte])))⟩
theorem mrj_named_115 {fu : Nat} {K V : Nat → Int32} (rc : RC) (r : RR) (ihK : mKI1 rc) (ih : mRI1 K V rc r) {F0 : PF} {R0 : OR} (x2 : Int32) (x4 : Int32) (F : PF) (G : PG) (g4 : G 4 = K) (g5 : G 5 = V) (hA : (x4 = 1 ∧ F 44 = 0 ∧ F 43 = F0 43 ∧ R0 = rh_tail K V r (F 42) (F 43) ∧ sgn K V (F 42) (22 : Int32) = false ∧ sgn K V (F 42) (24 : Int32) = true) ∨ (x4 = 0 ∧ F 44 = 0 ∧ F 43 = F0 43 ∧ R0 = rh_tail K V r (F 42) (F 43) ∧ sgn K V (F 42) (22 : Int32) = false ∧ sgn K V (F 42) (24 : Int32) = false)) : PP (mb_named_115 fu rc x2 x4 F G) (fun r' F' _ => ROK R0 F0 r' F') := by
  rcases hA with ⟨rfl, h44, h43, hR, hx0, hx1⟩ | ⟨rfl, h44, h43, hR, hx0, hx1⟩
  · skip
    unfold mb_named_115
    refine PP.ite (fun c_1 => absurd c_1 (by decide)) (fun _ => ?_)
    unfold mb_named_120
    refine PP.bind (PP.and (ihK 3 x2 0 F G) (ih.2.2.2 3 x2 0 F G g4 g5 (show F 44 = 0 from h44) (fun e => absurd e (by decide)))) ?_
    rintro r2 F2 G2 ⟨hK2, (⟨rfl, h2a, h2b, h2⟩ | ⟨rfl, h2a, h2⟩)⟩
    · dsimp only
      have g_3 : G2 4 = K := Eq.trans (hK2.2 4 rfl) g4
      have g_4 : G2 5 = V := Eq.trans (hK2.2 5 rfl) g5
      have h_5 : r 3 (F 42) (F0 43) = some (some (F2 42)) := by
        have q : r 3 (F 42) (F 43) = some (some (F2 42)) := h2
        simp only [h43, i_as] at q; exact q
      have q_6 : F2 43 = (F0 43) := by
        have q := (show F2 43 = (F 43) from h2b)
        simp only [h43, i_as] at q; exact q
      unfold mb_named_125
      refine PP.ite (fun c_7 => absurd c_7 (by decide)) (fun _ => ?_)
      unfold mb_named_130
      refine PP.bind (mw_step (7 : Int32) (0 : Int32) (0 : Int32) F2 G2) ?_
      intro r8 F8 G8 hK8
      dsimp only
      have g_9 : G8 4 = K := Eq.trans (hK8.2 4 rfl) g_3
      have g_10 : G8 5 = V := Eq.trans (hK8.2 5 rfl) g_4
      have q_11 : F8 42 = (F2 42) := hK8.1 42 rfl
      have q_12 : F8 43 = (F0 43) := Eq.trans (hK8.1 43 rfl) (show (F2 43) = (F0 43) by simp only [q_6, i_as])
      have q_13 : F8 44 = 0 := Eq.trans (hK8.1 44 rfl) h2a
      unfold mb_named_138
      exact mrj_named_212 rc r ihK ih (F0 := F0) (R0 := R0) F8 G8 g_9 g_10 ⟨q_13, (by first | rfl | (simp only [q_11, q_12, i_as])), (hR.trans (by first | rfl | (simp only [rh_tail, hx0, hx1, h_5, q_11, q_12, i_as, i10, eq_self, rb_yes, rb_no, ryes, rno, if_true, if_false, f_tt (p := True), reduceIte])))⟩
    · dsimp only
      have g_14 : G2 4 = K := Eq.trans (hK2.2 4 rfl) g4
      have g_15 : G2 5 = V := Eq.trans (hK2.2 5 rfl) g5
      have h_16 : r 3 (F 42) (F0 43) = some (none) := by
        have q : r 3 (F 42) (F 43) = some (none) := h2
        simp only [h43, i_as] at q; exact q
      unfold mb_named_125
      refine PP.ite (fun _ => ?_) (fun c_17 => absurd (by decide) c_17)
      unfold mb_named_128
      refine PP.ret ?_
      refine Or.inr ⟨rfl, h2a, hR.trans ?_⟩
      first | rfl | (simp only [rh_tail, hx0, hx1, h_16, i_as, i10, eq_self, rb_yes, rb_no, ryes, rno, if_true, if_false, f_tt (p := True), reduceIte])
  · skip
    unfold mb_named_115
    refine PP.ite (fun _ => ?_) (fun c_18 => absurd (by decide) c_18)
    unfold mb_named_142
    refine PP.ite (fun c_19 => ?_) (fun c_19 => ?_)
    · skip
      exact mrj_named_172 rc r ihK ih (F0 := F0) (R0 := R0) x2 F G g4 g5 ⟨h44, (by first | rfl | (simp only [h43, i_as])), (hR.trans (by first | rfl | (simp only [rh_tail, hx0, hx1, h43, i_as, i10, eq_self, rb_yes, rb_no, ryes, rno, if_true, if_false, f_tt (p := True), reduceIte])))⟩
    · skip
      unfold mb_named_147
      refine PP.ix (fun _ => ?_)
      refine PP.ite (fun c_20 => ?_) (fun c_20 => ?_)
      · skip
        unfold mb_named_156
        refine PP.ix (fun _ => ?_)
        refine PP.bind (mw_step (0 : Int32) (G 20 x2.toNatClampNeg) (0 : Int32) F G) ?_
        intro r21 F21 G21 hK21
        dsimp only
        have g_22 : G21 4 = K := Eq.trans (hK21.2 4 rfl) g4
        have g_23 : G21 5 = V := Eq.trans (hK21.2 5 rfl) g5
        have q_24 : F21 42 = (F 42) := hK21.1 42 rfl
        have q_25 : F21 43 = (F0 43) := Eq.trans (hK21.1 43 rfl) (show (F 43) = (F0 43) by simp only [h43, i_as])
        have q_26 : F21 44 = 0 := Eq.trans (hK21.1 44 rfl) h44
        unfold mb_named_168
        exact mrj_named_212 rc r ihK ih (F0 := F0) (R0 := R0) F21 G21 g_22 g_23 ⟨q_26, (by first | rfl | (simp only [q_24, q_25, i_as])), (hR.trans (by first | rfl | (simp only [rh_tail, hx0, hx1, q_24, q_25, i_as, i10, eq_self, rb_yes, rb_no, ryes, rno, if_true, if_false, f_tt (p := True), reduceIte])))⟩
      · skip
        exact mrj_named_172 rc r ihK ih (F0 := F0) (R0 := R0) x2 F G g4 g5 ⟨h44, (by first | rfl | (simp only [h43, i_as])), (hR.trans (by first | rfl | (simp only [rh_tail, hx0, hx1, h43, i_as, i10, eq_self, rb_yes, rb_no, ryes, rno, if_true, if_false, f_tt (p := True), reduceIte])))⟩
theorem mrj_named_103 {fu : Nat} {K V : Nat → Int32} (rc : RC) (r : RR) (ihK : mKI1 rc) (ih : mRI1 K V rc r) {F0 : PF} {R0 : OR} (x1 : Int32) (x2 : Int32) (x4 : Int32) (F : PF) (G : PG) (g4 : G 4 = K) (g5 : G 5 = V) (hA : (x4 = 1 ∧ F 44 = 0 ∧ F 43 = F0 43 ∧ R0 = rh_tail K V r (F 42) (F 43) ∧ sgn K V (F 42) (22 : Int32) = false ∧ sgn K V (F 42) (24 : Int32) = true) ∨ (x4 = 0 ∧ F 44 = 0 ∧ F 43 = F0 43 ∧ R0 = rh_tail K V r (F 42) (F 43) ∧ sgn K V (F 42) (22 : Int32) = false ∧ sgn K V (F 42) (24 : Int32) = false)) : PP (mb_named_103 fu rc x1 x2 x4 F G) (fun r' F' _ => ROK R0 F0 r' F') := by
  rcases hA with ⟨rfl, h44, h43, hR, hx0, hx1⟩ | ⟨rfl, h44, h43, hR, hx0, hx1⟩
  · skip
    unfold mb_named_103
    refine PP.ix (fun _ => ?_)
    refine PP.bind (mw_note (6 : Int32) (G 6 x1.toNatClampNeg) F G) ?_
    intro r1 F1 G1 hK1
    dsimp only
    have g_2 : G1 4 = K := Eq.trans (hK1.2 4 rfl) g4
    have g_3 : G1 5 = V := Eq.trans (hK1.2 5 rfl) g5
    have q_4 : F1 42 = (F 42) := hK1.1 42 rfl
    have q_5 : F1 43 = (F0 43) := Eq.trans (hK1.1 43 rfl) (show (F 43) = (F0 43) by simp only [h43, i_as])
    have q_6 : F1 44 = 0 := Eq.trans (hK1.1 44 rfl) h44
    exact mrj_named_115 rc r ihK ih (F0 := F0) (R0 := R0) x2 (1 : Int32) F1 G1 g_2 g_3 (Or.inl ⟨rfl, q_6, (by first | rfl | (simp only [q_4, q_5, i_as])), (hR.trans (by first | rfl | (simp only [rh_tail, hx0, hx1, q_4, q_5, i_as, i10, eq_self, rb_yes, rb_no, ryes, rno, if_true, if_false, f_tt (p := True), reduceIte]))), (by first | rfl | assumption | (simp only [rh_tail, hx0, hx1, q_4, q_5, i_as, i10, eq_self, rb_yes, rb_no, ryes, rno, if_true, if_false, f_tt (p := True), reduceIte]) | exact sgn_ne (by assumption) (by decide)), (by first | rfl | assumption | (simp only [rh_tail, hx0, hx1, q_4, q_5, i_as, i10, eq_self, rb_yes, rb_no, ryes, rno, if_true, if_false, f_tt (p := True), reduceIte]) | exact sgn_ne (by assumption) (by decide))⟩)
  · skip
    unfold mb_named_103
    refine PP.ix (fun _ => ?_)
    refine PP.bind (mw_note (6 : Int32) (G 6 x1.toNatClampNeg) F G) ?_
    intro r7 F7 G7 hK7
    dsimp only
    have g_8 : G7 4 = K := Eq.trans (hK7.2 4 rfl) g4
    have g_9 : G7 5 = V := Eq.trans (hK7.2 5 rfl) g5
    have q_10 : F7 42 = (F 42) := hK7.1 42 rfl
    have q_11 : F7 43 = (F0 43) := Eq.trans (hK7.1 43 rfl) (show (F 43) = (F0 43) by simp only [h43, i_as])
    have q_12 : F7 44 = 0 := Eq.trans (hK7.1 44 rfl) h44
    exact mrj_named_115 rc r ihK ih (F0 := F0) (R0 := R0) x2 (0 : Int32) F7 G7 g_8 g_9 (Or.inr ⟨rfl, q_12, (by first | rfl | (simp only [q_10, q_11, i_as])), (hR.trans (by first | rfl | (simp only [rh_tail, hx0, hx1, q_10, q_11, i_as, i10, eq_self, rb_yes, rb_no, ryes, rno, if_true, if_false, f_tt (p := True), reduceIte]))), (by first | rfl | assumption | (simp only [rh_tail, hx0, hx1, q_10, q_11, i_as, i10, eq_self, rb_yes, rb_no, ryes, rno, if_true, if_false, f_tt (p := True), reduceIte]) | exact sgn_ne (by assumption) (by decide)), (by first | rfl | assumption | (simp only [rh_tail, hx0, hx1, q_10, q_11, i_as, i10, eq_self, rb_yes, rb_no, ryes, rno, if_true, if_false, f_tt (p := True), reduceIte]) | exact sgn_ne (by assumption) (by decide))⟩)
theorem mrj_named_100 {fu : Nat} {K V : Nat → Int32} (rc : RC) (r : RR) (ihK : mKI1 rc) (ih : mRI1 K V rc r) {F0 : PF} {R0 : OR} (x1 : Int32) (x2 : Int32) (x4 : Int32) (z0 : Int32) (z1 : Int32) (F : PF) (G : PG) (g4 : G 4 = K) (g5 : G 5 = V) (hA : (x4 = 1 ∧ F 44 = 0 ∧ F 43 = F0 43 ∧ R0 = rh_tail K V r (F 42) (F 43) ∧ sgn K V (F 42) (22 : Int32) = false ∧ sgn K V (F 42) (24 : Int32) = true) ∨ (x4 = 0 ∧ F 44 = 0 ∧ F 43 = F0 43 ∧ R0 = rh_tail K V r (F 42) (F 43) ∧ sgn K V (F 42) (22 : Int32) = false ∧ sgn K V (F 42) (24 : Int32) = false)) : PP (mb_named_100 fu rc x1 x2 x4 z0 z1 F G) (fun r' F' _ => ROK R0 F0 r' F') := by
  rcases hA with ⟨rfl, h44, h43, hR, hx0, hx1⟩ | ⟨rfl, h44, h43, hR, hx0, hx1⟩
  · skip
    unfold mb_named_100
    refine PP.ite (fun c_1 => ?_) (fun c_1 => ?_)
    · skip
      exact mrj_named_115 rc r ihK ih (F0 := F0) (R0 := R0) x2 (1 : Int32) F G g4 g5 (Or.inl ⟨rfl, h44, (by first | rfl | (simp only [h43, i_as])), (hR.trans (by first | rfl | (simp only [rh_tail, hx0, hx1, h43, i_as, i10, eq_self, rb_yes, rb_no, ryes, rno, if_true, if_false, f_tt (p := True), reduceIte]))), (by first | rfl | assumption | (simp only [rh_tail, hx0, hx1, h43, i_as, i10, eq_self, rb_yes, rb_no, ryes, rno, if_true, if_false, f_tt (p := True), reduceIte]) | exact sgn_ne (by assumption) (by decide)), (by first | rfl | assumption | (simp only [rh_tail, hx0, hx1, h43, i_as, i10, eq_self, rb_yes, rb_no, ryes, rno, if_true, if_false, f_tt (p := True), reduceIte]) | exact sgn_ne (by assumption) (by decide))⟩)
    · skip
      exact mrj_named_103 rc r ihK ih (F0 := F0) (R0 := R0) x1 x2 (1 : Int32) F G g4 g5 (Or.inl ⟨rfl, h44, (by first | rfl | (simp only [h43, i_as])), (hR.trans (by first | rfl | (simp only [rh_tail, hx0, hx1, h43, i_as, i10, eq_self, rb_yes, rb_no, ryes, rno, if_true, if_false, f_tt (p := True), reduceIte]))), (by first | rfl | assumption | (simp only [rh_tail, hx0, hx1, h43, i_as, i10, eq_self, rb_yes, rb_no, ryes, rno, if_true, if_false, f_tt (p := True), reduceIte]) | exact sgn_ne (by assumption) (by decide)), (by first | rfl | assumption | (simp only [rh_tail, hx0, hx1, h43, i_as, i10, eq_self, rb_yes, rb_no, ryes, rno, if_true, if_false, f_tt (p := True), reduceIte]) | exact sgn_ne (by assumption) (by decide))⟩)
  · skip
    unfold mb_named_100
    refine PP.ite (fun c_2 => ?_) (fun c_2 => ?_)
    · skip
      exact mrj_named_115 rc r ihK ih (F0 := F0) (R0 := R0) x2 (0 : Int32) F G g4 g5 (Or.inr ⟨rfl, h44, (by first | rfl | (simp only [h43, i_as])), (hR.trans (by first | rfl | (simp only [rh_tail, hx0, hx1, h43, i_as, i10, eq_self, rb_yes, rb_no, ryes, rno, if_true, if_false, f_tt (p := True), reduceIte]))), (by first | rfl | assumption | (simp only [rh_tail, hx0, hx1, h43, i_as, i10, eq_self, rb_yes, rb_no, ryes, rno, if_true, if_false, f_tt (p := True), reduceIte]) | exact sgn_ne (by assumption) (by decide)), (by first | rfl | assumption | (simp only [rh_tail, hx0, hx1, h43, i_as, i10, eq_self, rb_yes, rb_no, ryes, rno, if_true, if_false, f_tt (p := True), reduceIte]) | exact sgn_ne (by assumption) (by decide))⟩)
    · skip
      exact mrj_named_103 rc r ihK ih (F0 := F0) (R0 := R0) x1 x2 (0 : Int32) F G g4 g5 (Or.inr ⟨rfl, h44, (by first | rfl | (simp only [h43, i_as])), (hR.trans (by first | rfl | (simp only [rh_tail, hx0, hx1, h43, i_as, i10, eq_self, rb_yes, rb_no, ryes, rno, if_true, if_false, f_tt (p := True), reduceIte]))), (by first | rfl | assumption | (simp only [rh_tail, hx0, hx1, h43, i_as, i10, eq_self, rb_yes, rb_no, ryes, rno, if_true, if_false, f_tt (p := True), reduceIte]) | exact sgn_ne (by assumption) (by decide)), (by first | rfl | assumption | (simp only [rh_tail, hx0, hx1, h43, i_as, i10, eq_self, rb_yes, rb_no, ryes, rno, if_true, if_false, f_tt (p := True), reduceIte]) | exact sgn_ne (by assumption) (by decide))⟩)
theorem mrj_named_51 {fu : Nat} {K V : Nat → Int32} (rc : RC) (r : RR) (ihK : mKI1 rc) (ih : mRI1 K V rc r) {F0 : PF} {R0 : OR} (x1 : Int32) (x2 : Int32) (z0 : Int32) (F : PF) (G : PG) (g4 : G 4 = K) (g5 : G 5 = V) (hA : (F 44 = 0 ∧ F 43 = F0 43 ∧ R0 = rh_tail K V r (F 42) (F 43) ∧ sgn K V (F 42) (22 : Int32) = false)) : PP (mb_named_51 fu rc x1 x2 z0 F G) (fun r' F' _ => ROK R0 F0 r' F') := by
  rcases hA with ⟨h44, h43, hR, hx0⟩
  · skip
    unfold mb_named_51
    refine PP.bind (mp_isSign (24 : Int32) F G) ?_
    rintro _ _ _ ⟨rfl, rfl, (⟨rfl, h1⟩ | ⟨rfl, h1⟩)⟩
    · dsimp only
      have h_2 : sgn K V (F 42) (24 : Int32) = true := by
        rw [← g4, ← g5]
        have q := h1
        first | exact q | (simp only [h43, i_as] at q; exact q) | (simp only [h43, i_as] at q ⊢; exact q)
      unfold mb_named_58
      refine PP.ite (fun c_3 => ?_) (fun c_3 => ?_)
      · skip
        unfold mb_named_78
        refine PP.ite (fun c_4 => ?_) (fun c_4 => ?_)
        · skip
          exact mrj_named_103 rc r ihK ih (F0 := F0) (R0 := R0) x1 x2 (1 : Int32) F G g4 g5 (Or.inl ⟨rfl, h44, (by first | rfl | (simp only [h43, i_as])), (hR.trans (by first | rfl | (simp only [rh_tail, hx0, h_2, h43, i_as, i10, eq_self, rb_yes, rb_no, ryes, rno, if_true, if_false, f_tt (p := True), reduceIte]))), (by first | rfl | assumption | (simp only [rh_tail, hx0, h_2, h43, i_as, i10, eq_self, rb_yes, rb_no, ryes, rno, if_true, if_false, f_tt (p := True), reduceIte]) | exact sgn_ne (by assumption) (by decide)), (by first | rfl | assumption | (simp only [rh_tail, hx0, h_2, h43, i_as, i10, eq_self, rb_yes, rb_no, ryes, rno, if_true, if_false, f_tt (p := True), reduceIte]) | exact sgn_ne (by assumption) (by decide))⟩)
        · skip
          unfold mb_named_83
          refine PP.ix (fun _ => ?_)
          refine PP.ite (fun c_5 => ?_) (fun c_5 => ?_)
          · skip
            unfold mb_named_95
            exact mrj_named_100 rc r ihK ih (F0 := F0) (R0 := R0) x1 x2 (1 : Int32) (1 : Int32) (1 : Int32) F G g4 g5 (Or.inl ⟨rfl, h44, (by first | rfl | (simp only [h43, i_as])), (hR.trans (by first | rfl | (simp only [rh_tail, hx0, h_2, h43, i_as, i10, eq_self, rb_yes, rb_no, ryes, rno, if_true, if_false, f_tt (p := True), reduceIte]))), (by first | rfl | assumption | (simp only [rh_tail, hx0, h_2, h43, i_as, i10, eq_self, rb_yes, rb_no, ryes, rno, if_true, if_false, f_tt (p := True), reduceIte]) | exact sgn_ne (by assumption) (by decide)), (by first | rfl | assumption | (simp only [rh_tail, hx0, h_2, h43, i_as, i10, eq_self, rb_yes, rb_no, ryes, rno, if_true, if_false, f_tt (p := True), reduceIte]) | exact sgn_ne (by assumption) (by decide))⟩)
          · skip
            unfold mb_named_99
            exact mrj_named_100 rc r ihK ih (F0 := F0) (R0 := R0) x1 x2 (1 : Int32) (0 : Int32) (1 : Int32) F G g4 g5 (Or.inl ⟨rfl, h44, (by first | rfl | (simp only [h43, i_as])), (hR.trans (by first | rfl | (simp only [rh_tail, hx0, h_2, h43, i_as, i10, eq_self, rb_yes, rb_no, ryes, rno, if_true, if_false, f_tt (p := True), reduceIte]))), (by first | rfl | assumption | (simp only [rh_tail, hx0, h_2, h43, i_as, i10, eq_self, rb_yes, rb_no, ryes, rno, if_true, if_false, f_tt (p := True), reduceIte]) | exact sgn_ne (by assumption) (by decide)), (by first | rfl | assumption | (simp only [rh_tail, hx0, h_2, h43, i_as, i10, eq_self, rb_yes, rb_no, ryes, rno, if_true, if_false, f_tt (p := True), reduceIte]) | exact sgn_ne (by assumption) (by decide))⟩)
      · skip
        unfold mb_named_64
        refine PP.ix (fun _ => ?_)
        refine PP.bind (mw_note (4 : Int32) (G 6 x1.toNatClampNeg) F G) ?_
        intro r6 F6 G6 hK6
        dsimp only
        have g_7 : G6 4 = K := Eq.trans (hK6.2 4 rfl) g4
        have g_8 : G6 5 = V := Eq.trans (hK6.2 5 rfl) g5
        have q_9 : F6 42 = (F 42) := hK6.1 42 rfl
        have q_10 : F6 43 = (F0 43) := Eq.trans (hK6.1 43 rfl) (show (F 43) = (F0 43) by simp only [h43, i_as])
        have q_11 : F6 44 = 0 := Eq.trans (hK6.1 44 rfl) h44
        unfold mb_named_75
        exact mrj_named_115 rc r ihK ih (F0 := F0) (R0 := R0) x2 (1 : Int32) F6 G6 g_7 g_8 (Or.inl ⟨rfl, q_11, (by first | rfl | (simp only [q_9, q_10, i_as])), (hR.trans (by first | rfl | (simp only [rh_tail, hx0, h_2, q_9, q_10, i_as, i10, eq_self, rb_yes, rb_no, ryes, rno, if_true, if_false, f_tt (p := True), reduceIte]))), (by first | rfl | assumption | (simp only [rh_tail, hx0, h_2, q_9, q_10, i_as, i10, eq_self, rb_yes, rb_no, ryes, rno, if_true, if_false, f_tt (p := True), reduceIte]) | exact sgn_ne (by assumption) (by decide)), (by first | rfl | assumption | (simp only [rh_tail, hx0, h_2, q_9, q_10, i_as, i10, eq_self, rb_yes, rb_no, ryes, rno, if_true, if_false, f_tt (p := True), reduceIte]) | exact sgn_ne (by assumption) (by decide))⟩)
    · dsimp only
      have h_12 : sgn K V (F 42) (24 : Int32) = false := by
        rw [← g4, ← g5]
        have q := h1
        first | exact q | (simp only [h43, i_as] at q; exact q) | (simp only [h43, i_as] at q ⊢; exact q)
      unfold mb_named_58
      refine PP.ite (fun c_13 => ?_) (fun c_13 => ?_)
      · skip
        unfold mb_named_78
        refine PP.ite (fun c_14 => ?_) (fun c_14 => ?_)
        · skip
          exact mrj_named_103 rc r ihK ih (F0 := F0) (R0 := R0) x1 x2 (0 : Int32) F G g4 g5 (Or.inr ⟨rfl, h44, (by first | rfl | (simp only [h43, i_as])), (hR.trans (by first | rfl | (simp only [rh_tail, hx0, h_12, h43, i_as, i10, eq_self, rb_yes, rb_no, ryes, rno, if_true, if_false, f_tt (p := True), reduceIte]))), (by first | rfl | assumption | (simp only [rh_tail, hx0, h_12, h43, i_as, i10, eq_self, rb_yes, rb_no, ryes, rno, if_true, if_false, f_tt (p := True), reduceIte]) | exact sgn_ne (by assumption) (by decide)), (by first | rfl | assumption | (simp only [rh_tail, hx0, h_12, h43, i_as, i10, eq_self, rb_yes, rb_no, ryes, rno, if_true, if_false, f_tt (p := True), reduceIte]) | exact sgn_ne (by assumption) (by decide))⟩)
        · skip
          unfold mb_named_83
          refine PP.ix (fun _ => ?_)
          refine PP.ite (fun c_15 => ?_) (fun c_15 => ?_)
          · skip
            unfold mb_named_95
            exact mrj_named_100 rc r ihK ih (F0 := F0) (R0 := R0) x1 x2 (0 : Int32) (1 : Int32) (0 : Int32) F G g4 g5 (Or.inr ⟨rfl, h44, (by first | rfl | (simp only [h43, i_as])), (hR.trans (by first | rfl | (simp only [rh_tail, hx0, h_12, h43, i_as, i10, eq_self, rb_yes, rb_no, ryes, rno, if_true, if_false, f_tt (p := True), reduceIte]))), (by first | rfl | assumption | (simp only [rh_tail, hx0, h_12, h43, i_as, i10, eq_self, rb_yes, rb_no, ryes, rno, if_true, if_false, f_tt (p := True), reduceIte]) | exact sgn_ne (by assumption) (by decide)), (by first | rfl | assumption | (simp only [rh_tail, hx0, h_12, h43, i_as, i10, eq_self, rb_yes, rb_no, ryes, rno, if_true, if_false, f_tt (p := True), reduceIte]) | exact sgn_ne (by assumption) (by decide))⟩)
          · skip
            unfold mb_named_99
            exact mrj_named_100 rc r ihK ih (F0 := F0) (R0 := R0) x1 x2 (0 : Int32) (0 : Int32) (0 : Int32) F G g4 g5 (Or.inr ⟨rfl, h44, (by first | rfl | (simp only [h43, i_as])), (hR.trans (by first | rfl | (simp only [rh_tail, hx0, h_12, h43, i_as, i10, eq_self, rb_yes, rb_no, ryes, rno, if_true, if_false, f_tt (p := True), reduceIte]))), (by first | rfl | assumption | (simp only [rh_tail, hx0, h_12, h43, i_as, i10, eq_self, rb_yes, rb_no, ryes, rno, if_true, if_false, f_tt (p := True), reduceIte]) | exact sgn_ne (by assumption) (by decide)), (by first | rfl | assumption | (simp only [rh_tail, hx0, h_12, h43, i_as, i10, eq_self, rb_yes, rb_no, ryes, rno, if_true, if_false, f_tt (p := True), reduceIte]) | exact sgn_ne (by assumption) (by decide))⟩)
      · skip
        unfold mb_named_64
        refine PP.ix (fun _ => ?_)
        refine PP.bind (mw_note (4 : Int32) (G 6 x1.toNatClampNeg) F G) ?_
        intro r16 F16 G16 hK16
        dsimp only
        have g_17 : G16 4 = K := Eq.trans (hK16.2 4 rfl) g4
        have g_18 : G16 5 = V := Eq.trans (hK16.2 5 rfl) g5
        have q_19 : F16 42 = (F 42) := hK16.1 42 rfl
        have q_20 : F16 43 = (F0 43) := Eq.trans (hK16.1 43 rfl) (show (F 43) = (F0 43) by simp only [h43, i_as])
        have q_21 : F16 44 = 0 := Eq.trans (hK16.1 44 rfl) h44
        unfold mb_named_75
        exact mrj_named_115 rc r ihK ih (F0 := F0) (R0 := R0) x2 (0 : Int32) F16 G16 g_17 g_18 (Or.inr ⟨rfl, q_21, (by first | rfl | (simp only [q_19, q_20, i_as])), (hR.trans (by first | rfl | (simp only [rh_tail, hx0, h_12, q_19, q_20, i_as, i10, eq_self, rb_yes, rb_no, ryes, rno, if_true, if_false, f_tt (p := True), reduceIte]))), (by first | rfl | assumption | (simp only [rh_tail, hx0, h_12, q_19, q_20, i_as, i10, eq_self, rb_yes, rb_no, ryes, rno, if_true, if_false, f_tt (p := True), reduceIte]) | exact sgn_ne (by assumption) (by decide)), (by first | rfl | assumption | (simp only [rh_tail, hx0, h_12, q_19, q_20, i_as, i10, eq_self, rb_yes, rb_no, ryes, rno, if_true, if_false, f_tt (p := True), reduceIte]) | exact sgn_ne (by assumption) (by decide))⟩)
theorem mrj_named_50 {fu : Nat} {K V : Nat → Int32} (rc : RC) (r : RR) (ihK : mKI1 rc) (ih : mRI1 K V rc r) {F0 : PF} {R0 : OR} (x1 : Int32) (x2 : Int32) (F : PF) (G : PG) (g4 : G 4 = K) (g5 : G 5 = V) (hA : (F 44 = 0 ∧ F 43 = F0 43 ∧ R0 = rh_tail K V r (F 42) (F 43) ∧ sgn K V (F 42) (22 : Int32) = false)) : PP (mb_named_50 fu rc x1 x2 F G) (fun r' F' _ => ROK R0 F0 r' F') := by
  rcases hA with ⟨h44, h43, hR, hx0⟩
  · skip
    unfold mb_named_50
    exact mrj_named_51 rc r ihK ih (F0 := F0) (R0 := R0) x1 x2 (0 : Int32) F G g4 g5 ⟨h44, (by first | rfl | (simp only [h43, i_as])), (hR.trans (by first | rfl | (simp only [rh_tail, hx0, h43, i_as, i10, eq_self, rb_yes, rb_no, ryes, rno, if_true, if_false, f_tt (p := True), reduceIte]))), (by first | rfl | assumption | (simp only [rh_tail, hx0, h43, i_as, i10, eq_self, rb_yes, rb_no, ryes, rno, if_true, if_false, f_tt (p := True), reduceIte]) | exact sgn_ne (by assumption) (by decide))⟩
theorem mrj_named_32 {fu : Nat} {K V : Nat → Int32} (rc : RC) (r : RR) (ihK : mKI1 rc) (ih : mRI1 K V rc r) {F0 : PF} {R0 : OR} (x1 : Int32) (z0 : Int32) (F : PF) (G : PG) (g4 : G 4 = K) (g5 : G 5 = V) (hA : (F 44 = 0 ∧ F 43 = F0 43 ∧ R0 = rh_tail K V r (F 42) (F 43) ∧ sgn K V (F 42) (22 : Int32) = false)) : PP (mb_named_32 fu rc x1 z0 F G) (fun r' F' _ => ROK R0 F0 r' F') := by
  rcases hA with ⟨h44, h43, hR, hx0⟩
  · skip
    unfold mb_named_32
    refine PP.ite (fun c_1 => ?_) (fun c_1 => ?_)
    · skip
      unfold mb_named_38
      refine PP.ite (fun c_2 => ?_) (fun c_2 => ?_)
      · skip
        unfold mb_named_46
        exact mrj_named_51 rc r ihK ih (F0 := F0) (R0 := R0) x1 z0 (1 : Int32) F G g4 g5 ⟨h44, (by first | rfl | (simp only [h43, i_as])), (hR.trans (by first | rfl | (simp only [rh_tail, hx0, h43, i_as, i10, eq_self, rb_yes, rb_no, ryes, rno, if_true, if_false, f_tt (p := True), reduceIte]))), (by first | rfl | assumption | (simp only [rh_tail, hx0, h43, i_as, i10, eq_self, rb_yes, rb_no, ryes, rno, if_true, if_false, f_tt (p := True), reduceIte]) | exact sgn_ne (by assumption) (by decide))⟩
      · skip
        exact mrj_named_50 rc r ihK ih (F0 := F0) (R0 := R0) x1 z0 F G g4 g5 ⟨h44, (by first | rfl | (simp only [h43, i_as])), (hR.trans (by first | rfl | (simp only [rh_tail, hx0, h43, i_as, i10, eq_self, rb_yes, rb_no, ryes, rno, if_true, if_false, f_tt (p := True), reduceIte]))), (by first | rfl | assumption | (simp only [rh_tail, hx0, h43, i_as, i10, eq_self, rb_yes, rb_no, ryes, rno, if_true, if_false, f_tt (p := True), reduceIte]) | exact sgn_ne (by assumption) (by decide))⟩
    · skip
      exact mrj_named_50 rc r ihK ih (F0 := F0) (R0 := R0) x1 z0 F G g4 g5 ⟨h44, (by first | rfl | (simp only [h43, i_as])), (hR.trans (by first | rfl | (simp only [rh_tail, hx0, h43, i_as, i10, eq_self, rb_yes, rb_no, ryes, rno, if_true, if_false, f_tt (p := True), reduceIte]))), (by first | rfl | assumption | (simp only [rh_tail, hx0, h43, i_as, i10, eq_self, rb_yes, rb_no, ryes, rno, if_true, if_false, f_tt (p := True), reduceIte]) | exact sgn_ne (by assumption) (by decide))⟩
theorem mrt_named {fu : Nat} {K V : Nat → Int32} (rc : RC) (r : RR) (ihK : mKI1 rc) (ih : mRI1 K V rc r) (x1 : Int32) (F : PF) (G : PG) (g4 : G 4 = K) (g5 : G 5 = V) (h44 : F 44 = 0) : PP (mh_named fu rc x1 F G) (fun r' F' _ => ROK (rh_tail K V r (F 42) (F 43)) F r' F') := by
  unfold mh_named
  unfold mb_named_0
  refine PP.bind (mp_isSign (22 : Int32) F G) ?_
  rintro _ _ _ ⟨rfl, rfl, (⟨rfl, h1⟩ | ⟨rfl, h1⟩)⟩
  · dsimp only
    have h_2 : sgn K V (F 42) (22 : Int32) = true := by
      rw [← g4, ← g5]
      have q := h1
      first | exact q | (simp only [i_as] at q; exact q) | (simp only [i_as] at q ⊢; exact q)
    unfold mb_named_6
    refine PP.ite (fun c_3 => absurd c_3 (by decide)) (fun _ => ?_)
    unfold mb_named_9
    refine PP.bind (PP.and (ihK 1 x1 (1 : Int32) F G) (ih.2.2.2 1 x1 (1 : Int32) F G g4 g5 (show F 44 = 0 from h44) (fun e => absurd e (by decide)))) ?_
    rintro r4 F4 G4 ⟨hK4, (⟨rfl, h4a, h4b, h4⟩ | ⟨rfl, h4a, h4⟩)⟩
    · dsimp only
      have g_5 : G4 4 = K := Eq.trans (hK4.2 4 rfl) g4
      have g_6 : G4 5 = V := Eq.trans (hK4.2 5 rfl) g5
      have h_7 : r 1 (F 42) (F 43) = some (some (F4 42)) := h4
      have q_8 : F4 43 = (F 43) := (show F4 43 = (F 43) from h4b)
      unfold mb_named_15
      refine PP.ret ?_
      refine Or.inl ⟨rfl, h4a, ?_, (rfl : (rh_tail K V r (F 42) (F 43)) = _).trans ?_⟩
      · show (F4 43) = F 43
        first | rfl | (simp only [q_8, i_as])
      · show _ = some (some (F4 42))
        first | rfl | (simp only [rh_tail, h_2, h_7, q_8, i_as, i10, eq_self, rb_yes, rb_no, ryes, rno, if_true, if_false, f_tt (p := True), reduceIte])
    · dsimp only
      have g_9 : G4 4 = K := Eq.trans (hK4.2 4 rfl) g4
      have g_10 : G4 5 = V := Eq.trans (hK4.2 5 rfl) g5
      have h_11 : r 1 (F 42) (F 43) = some (none) := h4
      unfold mb_named_15
      refine PP.ret ?_
      refine Or.inr ⟨rfl, h4a, (rfl : (rh_tail K V r (F 42) (F 43)) = _).trans ?_⟩
      first | rfl | (simp only [rh_tail, h_2, h_11, i_as, i10, eq_self, rb_yes, rb_no, ryes, rno, if_true, if_false, f_tt (p := True), reduceIte])
  · dsimp only
    have h_12 : sgn K V (F 42) (22 : Int32) = false := by
      rw [← g4, ← g5]
      have q := h1
      first | exact q | (simp only [i_as] at q; exact q) | (simp only [i_as] at q ⊢; exact q)
    unfold mb_named_6
    refine PP.ite (fun _ => ?_) (fun c_13 => absurd (by decide) c_13)
    unfold mb_named_16
    refine PP.ite (fun c_14 => ?_) (fun c_14 => ?_)
    · skip
      unfold mb_named_23
      exact mrj_named_32 rc r ihK ih (F0 := F) (R0 := (rh_tail K V r (F 42) (F 43))) x1 (-1 : Int32) F G g4 g5 ⟨h44, (by first | rfl | (simp only [i_as])), ((rfl : (rh_tail K V r (F 42) (F 43)) = _).trans (by first | rfl | (simp only [rh_tail, h_12, i_as, i10, eq_self, rb_yes, rb_no, ryes, rno, if_true, if_false, f_tt (p := True), reduceIte]))), (by first | rfl | assumption | (simp only [rh_tail, h_12, i_as, i10, eq_self, rb_yes, rb_no, ryes, rno, if_true, if_false, f_tt (p := True), reduceIte]) | exact sgn_ne (by assumption) (by decide))⟩
    · skip
      unfold mb_named_27
      refine PP.bind (mw_meaning x1 F G) ?_
      intro r15 F15 G15 hK15
      dsimp only
      have g_16 : G15 4 = K := Eq.trans (hK15.2 4 rfl) g4
      have g_17 : G15 5 = V := Eq.trans (hK15.2 5 rfl) g5
      have q_18 : F15 42 = (F 42) := hK15.1 42 rfl
      have q_19 : F15 43 = (F 43) := hK15.1 43 rfl
      have q_20 : F15 44 = 0 := Eq.trans (hK15.1 44 rfl) h44
      exact mrj_named_32 rc r ihK ih (F0 := F) (R0 := (rh_tail K V r (F 42) (F 43))) x1 r15 F15 G15 g_16 g_17 ⟨q_20, (by first | rfl | (simp only [q_18, q_19, i_as])), ((rfl : (rh_tail K V r (F 42) (F 43)) = _).trans (by first | rfl | (simp only [rh_tail, h_12, q_18, q_19, i_as, i10, eq_self, rb_yes, rb_no, ryes, rno, if_true, if_false, f_tt (p := True), reduceIte]))), (by first | rfl | assumption | (simp only [rh_tail, h_12, q_18, q_19, i_as, i10, eq_self, rb_yes, rb_no, ryes, rno, if_true, if_false, f_tt (p := True), reduceIte]) | exact sgn_ne (by assumption) (by decide))⟩
theorem mrz_operand_63 {fu : Nat} {K V : Nat → Int32} (rc : RC) (r : RR) (ihK : mKI1 rc) (ih : mRI1 K V rc r) {F0 : PF} {R0 : OR} : ∀ (n : Nat) (x1 : Int32) (x3 : Int32) (F : PF) (G : PG) (g4 : G 4 = K) (g5 : G 5 = V) (hA : (F 44 = 0 ∧ F 43 = F0 43 ∧ R0 = ryes (F 42))), PP (ml_operand_63 fu rc n x1 x3 F G) (fun r' F' _ => ROK R0 F0 r' F') := by
  intro n
  induction n with
  | zero =>
    intro x1 x3 F G g4 g5 hA
    exact PP.no
  | succ n ihn =>
    intro x1 x3 F G g4 g5 hA
    show PP (mb_operand_63 fu rc (ml_operand_63 fu rc n) x1 x3 F G) _
    rcases hA with ⟨h44, h43, hR⟩
    · skip
      unfold mb_operand_63
      refine PP.ite (fun c_1 => ?_) (fun c_1 => ?_)
      · skip
        unfold mb_operand_88
        refine PP.ret ?_
        refine Or.inl ⟨rfl, h44, ?_, hR.trans ?_⟩
        · show (F 43) = F0 43
          first | rfl | (simp only [h43, i_as])
        · show _ = some (some (F 42))
          first | rfl | (simp only [rh_operand, rl_un, h43, i_as, i10, eq_self, rb_yes, rb_no, ryes, rno, if_true, if_false, f_tt (p := True), reduceIte])
      · skip
        unfold mb_operand_68
        refine PP.ix (fun _ => ?_)
        refine PP.bind (mw_step (11 : Int32) (G 5 x3.toNatClampNeg) (0 : Int32) F G) ?_
        intro r2 F2 G2 hK2
        dsimp only
        have g_3 : G2 4 = K := Eq.trans (hK2.2 4 rfl) g4
        have g_4 : G2 5 = V := Eq.trans (hK2.2 5 rfl) g5
        have q_5 : F2 42 = (F 42) := hK2.1 42 rfl
        have q_6 : F2 43 = (F0 43) := Eq.trans (hK2.1 43 rfl) (show (F 43) = (F0 43) by simp only [h43, i_as])
        have q_7 : F2 44 = 0 := Eq.trans (hK2.1 44 rfl) h44
        unfold mb_operand_81
        exact ihn x1 (x3 + (-1 : Int32)) F2 G2 g_3 g_4 ⟨q_7, (by first | rfl | (simp only [q_5, q_6, i_as])), (hR.trans (by first | rfl | (simp only [rh_operand, rl_un, q_5, q_6, i_as, i10, eq_self, rb_yes, rb_no, ryes, rno, if_true, if_false, f_tt (p := True), reduceIte])))⟩
theorem mrz_operand_5 {fu : Nat} {K V : Nat → Int32} (rc : RC) (r : RR) (ihK : mKI1 rc) (ih : mRI1 K V rc r) {F0 : PF} {R0 : OR} : ∀ (n : Nat) (x1 : Int32) (F : PF) (G : PG) (g4 : G 4 = K) (g5 : G 5 = V) (hA : (F 44 = 0 ∧ F 43 = F0 43 ∧ R0 = rl_un K V r (F 43) n (F 42))), PP (ml_operand_5 fu rc n x1 F G) (fun r' F' _ => ROK R0 F0 r' F') := by
  intro n
  induction n with
  | zero =>
    intro x1 F G g4 g5 hA
    exact PP.no
  | succ n ihn =>
    intro x1 F G g4 g5 hA
    show PP (mb_operand_5 fu rc (ml_operand_5 fu rc n) x1 F G) _
    rcases hA with ⟨h44, h43, hR⟩
    · skip
      unfold mb_operand_5
      refine PP.bind (mp_isSign (39 : Int32) F G) ?_
      rintro _ _ _ ⟨rfl, rfl, (⟨rfl, h1⟩ | ⟨rfl, h1⟩)⟩
      · dsimp only
        have h_2 : sgn K V (F 42) (39 : Int32) = true := by
          rw [← g4, ← g5]
          have q := h1
          first | exact q | (simp only [h43, i_as] at q; exact q) | (simp only [h43, i_as] at q ⊢; exact q)
        unfold mb_operand_11
        refine PP.ite (fun c_3 => absurd c_3 (by decide)) (fun _ => ?_)
        unfold mb_operand_32
        unfold mb_operand_42
        exact ihn x1 (fup F 42 ((F 42) + (1 : Int32))) G g4 g5 ⟨h44, (by first | rfl | (simp only [h43, i_as])), (hR.trans (by first | rfl | (simp only [rh_operand, rl_un, h_2, h43, i_as, i10, eq_self, rb_yes, rb_no, ryes, rno, if_true, if_false, f_tt (p := True), reduceIte])))⟩
      · dsimp only
        have h_4 : sgn K V (F 42) (39 : Int32) = false := by
          rw [← g4, ← g5]
          have q := h1
          first | exact q | (simp only [h43, i_as] at q; exact q) | (simp only [h43, i_as] at q ⊢; exact q)
        unfold mb_operand_11
        refine PP.ite (fun _ => ?_) (fun c_5 => absurd (by decide) c_5)
        unfold mb_operand_14
        refine PP.bind (mp_isSign (43 : Int32) F G) ?_
        rintro _ _ _ ⟨rfl, rfl, (⟨rfl, h6⟩ | ⟨rfl, h6⟩)⟩
        · dsimp only
          have h_7 : sgn K V (F 42) (43 : Int32) = true := by
            rw [← g4, ← g5]
            have q := h6
            first | exact q | (simp only [h43, i_as] at q; exact q) | (simp only [h43, i_as] at q ⊢; exact q)
          unfold mb_operand_20
          refine PP.ite (fun c_8 => absurd c_8 (by decide)) (fun _ => ?_)
          unfold mb_operand_32
          unfold mb_operand_42
          exact ihn x1 (fup F 42 ((F 42) + (1 : Int32))) G g4 g5 ⟨h44, (by first | rfl | (simp only [h43, i_as])), (hR.trans (by first | rfl | (simp only [rh_operand, rl_un, h_4, h_7, h43, i_as, i10, eq_self, rb_yes, rb_no, ryes, rno, if_true, if_false, f_tt (p := True), reduceIte])))⟩
        · dsimp only
          have h_9 : sgn K V (F 42) (43 : Int32) = false := by
            rw [← g4, ← g5]
            have q := h6
            first | exact q | (simp only [h43, i_as] at q; exact q) | (simp only [h43, i_as] at q ⊢; exact q)
          unfold mb_operand_20
          refine PP.ite (fun _ => ?_) (fun c_10 => absurd (by decide) c_10)
          unfold mb_operand_23
          refine PP.bind (mp_isSign (44 : Int32) F G) ?_
          rintro _ _ _ ⟨rfl, rfl, (⟨rfl, h11⟩ | ⟨rfl, h11⟩)⟩
          · dsimp only
            have h_12 : sgn K V (F 42) (44 : Int32) = true := by
              rw [← g4, ← g5]
              have q := h11
              first | exact q | (simp only [h43, i_as] at q; exact q) | (simp only [h43, i_as] at q ⊢; exact q)
            unfold mb_operand_29
            refine PP.ite (fun c_13 => absurd c_13 (by decide)) (fun _ => ?_)
            unfold mb_operand_32
            unfold mb_operand_42
            exact ihn x1 (fup F 42 ((F 42) + (1 : Int32))) G g4 g5 ⟨h44, (by first | rfl | (simp only [h43, i_as])), (hR.trans (by first | rfl | (simp only [rh_operand, rl_un, h_4, h_9, h_12, h43, i_as, i10, eq_self, rb_yes, rb_no, ryes, rno, if_true, if_false, f_tt (p := True), reduceIte])))⟩
          · dsimp only
            have h_14 : sgn K V (F 42) (44 : Int32) = false := by
              rw [← g4, ← g5]
              have q := h11
              first | exact q | (simp only [h43, i_as] at q; exact q) | (simp only [h43, i_as] at q ⊢; exact q)
            unfold mb_operand_29
            refine PP.ite (fun _ => ?_) (fun c_15 => absurd (by decide) c_15)
            unfold mb_operand_45
            refine PP.bind (PP.and (ihK 8 0 0 F G) (ih.2.2.2 8 0 0 F G g4 g5 (show F 44 = 0 from h44) (fun e => absurd e (by decide)))) ?_
            rintro r16 F16 G16 ⟨hK16, (⟨rfl, h16a, h16b, h16⟩ | ⟨rfl, h16a, h16⟩)⟩
            · dsimp only
              have g_17 : G16 4 = K := Eq.trans (hK16.2 4 rfl) g4
              have g_18 : G16 5 = V := Eq.trans (hK16.2 5 rfl) g5
              have h_19 : r 8 (F 42) (F0 43) = some (some (F16 42)) := by
                have q : r 8 (F 42) (F 43) = some (some (F16 42)) := h16
                simp only [h43, i_as] at q; exact q
              have q_20 : F16 43 = (F0 43) := by
                have q := (show F16 43 = (F 43) from h16b)
                simp only [h43, i_as] at q; exact q
              unfold mb_operand_54
              refine PP.ite (fun c_21 => absurd c_21 (by decide)) (fun _ => ?_)
              unfold mb_operand_59
              exact mrz_operand_63 rc r ihK ih (F0 := F0) (R0 := R0) fu x1 ((F 42) - (1 : Int32)) F16 G16 g_17 g_18 ⟨h16a, (by first | rfl | (simp only [q_20, i_as])), (hR.trans (by first | rfl | (simp only [rh_operand, rl_un, h_4, h_9, h_14, h_19, q_20, i_as, i10, eq_self, rb_yes, rb_no, ryes, rno, if_true, if_false, f_tt (p := True), reduceIte])))⟩
            · dsimp only
              have g_22 : G16 4 = K := Eq.trans (hK16.2 4 rfl) g4
              have g_23 : G16 5 = V := Eq.trans (hK16.2 5 rfl) g5
              have h_24 : r 8 (F 42) (F0 43) = some (none) := by
                have q : r 8 (F 42) (F 43) = some (none) := h16
                simp only [h43, i_as] at q; exact q
              unfold mb_operand_54
              refine PP.ite (fun _ => ?_) (fun c_25 => absurd (by decide) c_25)
              unfold mb_operand_57
              refine PP.ret ?_
              refine Or.inr ⟨rfl, h16a, hR.trans ?_⟩
              first | rfl | (simp only [rh_operand, rl_un, h_4, h_9, h_14, h_24, i_as, i10, eq_self, rb_yes, rb_no, ryes, rno, if_true, if_false, f_tt (p := True), reduceIte])
theorem mrt_operand {fu : Nat} {K V : Nat → Int32} (rc : RC) (r : RR) (ihK : mKI1 rc) (ih : mRI1 K V rc r) (F : PF) (G : PG) (g4 : G 4 = K) (g5 : G 5 = V) (h44 : F 44 = 0) : PP (mh_operand fu rc F G) (fun r' F' _ => ROK (rh_operand K V fu r (F 42) (F 43)) F r' F') := by
  unfold mh_operand
  unfold mb_operand_0
  exact mrz_operand_5 rc r ihK ih (F0 := F) (R0 := (rh_operand K V fu r (F 42) (F 43))) fu (F 42) F G g4 g5 ⟨h44, (by first | rfl | (simp only [i_as])), ((rfl : (rh_operand K V fu r (F 42) (F 43)) = _).trans (by first | rfl | (simp only [rh_operand, rl_un, i_as, i10, eq_self, rb_yes, rb_no, ryes, rno, if_true, if_false, f_tt (p := True), reduceIte])))⟩
theorem mrt_plain {fu : Nat} {K V : Nat → Int32} (rc : RC) (r : RR) (ihK : mKI1 rc) (ih : mRI1 K V rc r) (F : PF) (G : PG) (g4 : G 4 = K) (g5 : G 5 = V) (h44 : F 44 = 0) : PP (mh_plain fu rc F G) (fun r' F' _ => ROK (rh_plain K V r (F 42) (F 43)) F r' F') := by
  unfold mh_plain
  unfold mb_plain_0
  refine PP.ix (fun _ => ?_)
  refine PP.ite (fun c_1 => ?_) (fun c_1 => ?_)
  · skip
    have h_2 : K (F 42).toNatClampNeg = (3 : Int32) := by
      rw [← g4, ← g5]
      have q := c_1
      first | exact q | (simp only [i_as] at q; exact q) | (simp only [i_as] at q ⊢; exact q)
    unfold mb_plain_13
    refine PP.ix (fun _ => ?_)
    refine PP.bind (mw_step (0 : Int32) (G 5 (F 42).toNatClampNeg) (0 : Int32) F G) ?_
    intro r3 F3 G3 hK3
    dsimp only
    have g_4 : G3 4 = K := Eq.trans (hK3.2 4 rfl) g4
    have g_5 : G3 5 = V := Eq.trans (hK3.2 5 rfl) g5
    have q_6 : F3 42 = (F 42) := hK3.1 42 rfl
    have q_7 : F3 43 = (F 43) := hK3.1 43 rfl
    have q_8 : F3 44 = 0 := Eq.trans (hK3.1 44 rfl) h44
    unfold mb_plain_28
    unfold mb_plain_39
    refine PP.ret ?_
    refine Or.inl ⟨rfl, q_8, ?_, (rfl : (rh_plain K V r (F 42) (F 43)) = _).trans ?_⟩
    · show (F3 43) = F 43
      first | rfl | (simp only [q_6, q_7, i_as])
    · show _ = some (some ((F3 42) + (1 : Int32)))
      first | rfl | (simp only [rh_plain, rclose, ih.1, h_2, q_6, q_7, i_as, i10, eq_self, rb_yes, rb_no, ryes, rno, if_true, if_false, f_tt (p := True), reduceIte])
  · skip
    have h_9 : ¬ K (F 42).toNatClampNeg = (3 : Int32) := by
      rw [← g4, ← g5]
      have q := c_1
      first | exact q | (simp only [i_as] at q; exact q) | (simp only [i_as] at q ⊢; exact q)
    unfold mb_plain_41
    refine PP.bind (mp_isSign (22 : Int32) F G) ?_
    rintro _ _ _ ⟨rfl, rfl, (⟨rfl, h10⟩ | ⟨rfl, h10⟩)⟩
    · dsimp only
      have h_11 : sgn K V (F 42) (22 : Int32) = true := by
        rw [← g4, ← g5]
        have q := h10
        first | exact q | (simp only [i_as] at q; exact q) | (simp only [i_as] at q ⊢; exact q)
      unfold mb_plain_47
      refine PP.ite (fun c_12 => absurd c_12 (by decide)) (fun _ => ?_)
      unfold mb_plain_50
      refine PP.bind (mp_opens F G) ?_
      rintro r13 F13 G13 (⟨rfl, rfl, rfl, h13⟩ | ⟨rfl, h13, h13b⟩)
      · dsimp only
        have h_14 : ¬ (F 43) = 40 := h13
        unfold mb_plain_54
        refine PP.ite (fun c_15 => absurd c_15 (by decide)) (fun _ => ?_)
        unfold mb_plain_57
        refine PP.bind (PP.and (ihK 4 0 0 (fup (fup F 43 ((F 43) + (1 : Int32))) 42 ((F 42) + (1 : Int32))) G) (ih.2.2.2 4 0 0 (fup (fup F 43 ((F 43) + (1 : Int32))) 42 ((F 42) + (1 : Int32))) G g4 g5 (show (fup (fup F 43 ((F 43) + (1 : Int32))) 42 ((F 42) + (1 : Int32))) 44 = 0 from h44) (fun e => absurd e (by decide)))) ?_
        rintro r16 F16 G16 ⟨hK16, (⟨rfl, h16a, h16b, h16⟩ | ⟨rfl, h16a, h16⟩)⟩
        · dsimp only
          have g_17 : G16 4 = K := Eq.trans (hK16.2 4 rfl) g4
          have g_18 : G16 5 = V := Eq.trans (hK16.2 5 rfl) g5
          have h_19 : r 4 ((F 42) + (1 : Int32)) ((F 43) + (1 : Int32)) = some (some (F16 42)) := h16
          have q_20 : F16 43 = ((F 43) + (1 : Int32)) := (show F16 43 = ((F 43) + (1 : Int32)) from h16b)
          unfold mb_plain_61
          refine PP.ite (fun c_21 => absurd c_21 (by decide)) (fun _ => ?_)
          unfold mb_plain_64
          refine PP.bind (mp_closeSign (23 : Int32) F16 G16) ?_
          rintro r22 F22 G22 (⟨rfl, rfl, rfl, h22⟩ | ⟨rfl, h22, h22b⟩)
          · dsimp only
            have h_23 : sgn K V (F16 42) (23 : Int32) = true := by
              rw [← g_17, ← g_18]
              have q := h22.1
              first | exact q | (simp only [q_20, i_as] at q; exact q) | (simp only [q_20, i_as] at q ⊢; exact q)
            unfold mb_plain_70
            refine PP.ite (fun c_24 => absurd c_24 (by decide)) (fun _ => ?_)
            unfold mb_plain_73
            unfold mb_plain_78
            refine PP.ret ?_
            refine Or.inl ⟨rfl, h16a, ?_, (rfl : (rh_plain K V r (F 42) (F 43)) = _).trans ?_⟩
            · show ((F16 43) - (1 : Int32)) = F 43
              first | rfl | (simp only [q_20, i_as])
            · show _ = some (some ((F16 42) + (1 : Int32)))
              first | rfl | (simp only [rh_plain, rclose, ih.1, h_9, h_11, h_14, h_19, h_23, q_20, i_as, i10, eq_self, rb_yes, rb_no, ryes, rno, if_true, if_false, f_tt (p := True), reduceIte])
          · dsimp only
            have g_25 : G22 4 = K := Eq.trans (h22.2.2.2 4 rfl) g_17
            have g_26 : G22 5 = V := Eq.trans (h22.2.2.2 5 rfl) g_18
            have q_27 : F22 42 = (F16 42) := h22.2.2.1 42 rfl
            have q_28 : F22 43 = ((F 43) + (1 : Int32)) := Eq.trans (h22.2.2.1 43 rfl) (show (F16 43) = ((F 43) + (1 : Int32)) by simp only [q_20, i_as])
            rcases h22b with q | q
            · exact absurd q (by rw [h16a]; decide)
            · skip
              have h_29 : sgn K V (F16 42) (23 : Int32) = false := by
                rw [← g_17, ← g_18]
                have q := q
                first | exact q | (simp only [q_20, i_as] at q; exact q) | (simp only [q_20, i_as] at q ⊢; exact q)
              unfold mb_plain_70
              refine PP.ite (fun _ => ?_) (fun c_30 => absurd (by decide) c_30)
              unfold mb_plain_77
              unfold mb_plain_78
              refine PP.ret ?_
              refine Or.inr ⟨rfl, h22.1, (rfl : (rh_plain K V r (F 42) (F 43)) = _).trans ?_⟩
              first | rfl | (simp only [rh_plain, rclose, ih.1, h_9, h_11, h_14, h_19, h_29, q_27, q_28, i_as, i10, eq_self, rb_yes, rb_no, ryes, rno, if_true, if_false, f_tt (p := True), reduceIte])
        · dsimp only
          have g_31 : G16 4 = K := Eq.trans (hK16.2 4 rfl) g4
          have g_32 : G16 5 = V := Eq.trans (hK16.2 5 rfl) g5
          have h_33 : r 4 ((F 42) + (1 : Int32)) ((F 43) + (1 : Int32)) = some (none) := h16
          unfold mb_plain_61
          refine PP.ite (fun _ => ?_) (fun c_34 => absurd (by decide) c_34)
          unfold mb_plain_77
          unfold mb_plain_78
          refine PP.ret ?_
          refine Or.inr ⟨rfl, h16a, (rfl : (rh_plain K V r (F 42) (F 43)) = _).trans ?_⟩
          first | rfl | (simp only [rh_plain, rclose, ih.1, h_9, h_11, h_14, h_33, i_as, i10, eq_self, rb_yes, rb_no, ryes, rno, if_true, if_false, f_tt (p := True), reduceIte])
      · dsimp only
        have g_35 : G13 4 = K := Eq.trans (h13.2.2.2 4 rfl) g4
        have g_36 : G13 5 = V := Eq.trans (h13.2.2.2 5 rfl) g5
        have q_37 : F13 42 = (F 42) := h13.2.2.1 42 rfl
        have q_38 : F13 43 = (F 43) := h13.2.2.1 43 rfl
        have h_39 : (F 43) = 40 := h13b
        unfold mb_plain_54
        refine PP.ite (fun _ => ?_) (fun c_40 => absurd (by decide) c_40)
        unfold mb_plain_77
        unfold mb_plain_78
        refine PP.ret ?_
        refine Or.inr ⟨rfl, h13.1, (rfl : (rh_plain K V r (F 42) (F 43)) = _).trans ?_⟩
        first | rfl | (simp only [rh_plain, rclose, ih.1, h_9, h_11, h_39, q_37, q_38, i_as, i10, eq_self, rb_yes, rb_no, ryes, rno, if_true, if_false, f_tt (p := True), reduceIte])
    · dsimp only
      have h_41 : sgn K V (F 42) (22 : Int32) = false := by
        rw [← g4, ← g5]
        have q := h10
        first | exact q | (simp only [i_as] at q; exact q) | (simp only [i_as] at q ⊢; exact q)
      unfold mb_plain_47
      refine PP.ite (fun _ => ?_) (fun c_42 => absurd (by decide) c_42)
      unfold mb_plain_79
      refine PP.bind (mp_isWord (13 : Int32) F G) ?_
      rintro _ _ _ ⟨rfl, rfl, (⟨rfl, h43⟩ | ⟨rfl, h43⟩)⟩
      · dsimp only
        have h_44 : wdn K V (F 42) (13 : Int32) = true := by
          rw [← g4, ← g5]
          have q := h43
          first | exact q | (simp only [i_as] at q; exact q) | (simp only [i_as] at q ⊢; exact q)
        unfold mb_plain_85
        refine PP.ite (fun c_45 => absurd c_45 (by decide)) (fun _ => ?_)
        unfold mb_plain_88
        refine PP.ite (fun c_46 => ?_) (fun c_46 => ?_)
        · skip
          unfold mb_plain_115
          unfold mb_plain_125
          refine PP.bind (mp_openSign (22 : Int32) (fup F 42 ((F 42) + (1 : Int32))) G) ?_
          rintro r47 F47 G47 (⟨rfl, rfl, rfl, h47⟩ | ⟨rfl, h47, h47b⟩)
          · dsimp only
            have h_48 : sgn K V ((F 42) + (1 : Int32)) (22 : Int32) = true := by
              rw [← g4, ← g5]
              have q := h47.1
              first | exact q | (simp only [i_as] at q; exact q) | (simp only [i_as] at q ⊢; exact q)
            have h_49 : ¬ (F 43) = 40 := h47.2.1
            unfold mb_plain_131
            refine PP.ite (fun c_50 => absurd c_50 (by decide)) (fun _ => ?_)
            unfold mb_plain_134
            refine PP.bind (mp_closeSign (23 : Int32) (fup (fup (fup F 42 ((F 42) + (1 : Int32))) 43 ((F 43) + (1 : Int32))) 42 (((F 42) + (1 : Int32)) + (1 : Int32))) G) ?_
            rintro r51 F51 G51 (⟨rfl, rfl, rfl, h51⟩ | ⟨rfl, h51, h51b⟩)
            · dsimp only
              have h_52 : sgn K V (((F 42) + (1 : Int32)) + (1 : Int32)) (23 : Int32) = true := by
                rw [← g4, ← g5]
                have q := h51.1
                first | exact q | (simp only [i_as] at q; exact q) | (simp only [i_as] at q ⊢; exact q)
              unfold mb_plain_140
              refine PP.ite (fun c_53 => absurd c_53 (by decide)) (fun _ => ?_)
              unfold mb_plain_145
              refine PP.bind (mw_step (21 : Int32) (0 : Int32) (0 : Int32) (fup (fup (fup (fup (fup F 42 ((F 42) + (1 : Int32))) 43 ((F 43) + (1 : Int32))) 42 (((F 42) + (1 : Int32)) + (1 : Int32))) 42 ((((F 42) + (1 : Int32)) + (1 : Int32)) + (1 : Int32))) 43 (((F 43) + (1 : Int32)) - (1 : Int32))) G) ?_
              intro r54 F54 G54 hK54
              dsimp only
              have g_55 : G54 4 = K := Eq.trans (hK54.2 4 rfl) g4
              have g_56 : G54 5 = V := Eq.trans (hK54.2 5 rfl) g5
              have q_57 : F54 42 = ((((F 42) + (1 : Int32)) + (1 : Int32)) + (1 : Int32)) := hK54.1 42 rfl
              have q_58 : F54 43 = (F 43) := Eq.trans (hK54.1 43 rfl) (show (((F 43) + (1 : Int32)) - (1 : Int32)) = (F 43) by simp only [i_as])
              have q_59 : F54 44 = 0 := Eq.trans (hK54.1 44 rfl) h44
              unfold mb_plain_153
              refine PP.ret ?_
              refine Or.inl ⟨rfl, q_59, ?_, (rfl : (rh_plain K V r (F 42) (F 43)) = _).trans ?_⟩
              · show (F54 43) = F 43
                first | rfl | (simp only [q_57, q_58, i_as])
              · show _ = some (some (F54 42))
                first | rfl | (simp only [rh_plain, rclose, ih.1, h_9, h_41, h_44, h_48, h_49, h_52, q_57, q_58, i_as, i10, eq_self, rb_yes, rb_no, ryes, rno, if_true, if_false, f_tt (p := True), reduceIte])
            · dsimp only
              have g_60 : G51 4 = K := Eq.trans (h51.2.2.2 4 rfl) g4
              have g_61 : G51 5 = V := Eq.trans (h51.2.2.2 5 rfl) g5
              have q_62 : F51 42 = (((F 42) + (1 : Int32)) + (1 : Int32)) := h51.2.2.1 42 rfl
              have q_63 : F51 43 = ((F 43) + (1 : Int32)) := h51.2.2.1 43 rfl
              rcases h51b with q | q
              · exact absurd q (by rw [h44]; decide)
              · skip
                have h_64 : sgn K V (((F 42) + (1 : Int32)) + (1 : Int32)) (23 : Int32) = false := by
                  rw [← g4, ← g5]
                  have q := q
                  first | exact q | (simp only [i_as] at q; exact q) | (simp only [i_as] at q ⊢; exact q)
                unfold mb_plain_140
                refine PP.ite (fun _ => ?_) (fun c_65 => absurd (by decide) c_65)
                unfold mb_plain_143
                refine PP.ret ?_
                refine Or.inr ⟨rfl, h51.1, (rfl : (rh_plain K V r (F 42) (F 43)) = _).trans ?_⟩
                first | rfl | (simp only [rh_plain, rclose, ih.1, h_9, h_41, h_44, h_48, h_49, h_64, q_62, q_63, i_as, i10, eq_self, rb_yes, rb_no, ryes, rno, if_true, if_false, f_tt (p := True), reduceIte])
          · dsimp only
            have g_66 : G47 4 = K := Eq.trans (h47.2.2.2 4 rfl) g4
            have g_67 : G47 5 = V := Eq.trans (h47.2.2.2 5 rfl) g5
            have q_68 : F47 42 = ((F 42) + (1 : Int32)) := h47.2.2.1 42 rfl
            have q_69 : F47 43 = (F 43) := h47.2.2.1 43 rfl
            rcases h47b with q | q | ⟨q, q1⟩
            · exact absurd q (by rw [h44]; decide)
            · skip
              have h_70 : sgn K V ((F 42) + (1 : Int32)) (22 : Int32) = false := by
                rw [← g4, ← g5]
                have q := q
                first | exact q | (simp only [i_as] at q; exact q) | (simp only [i_as] at q ⊢; exact q)
              unfold mb_plain_131
              refine PP.ite (fun _ => ?_) (fun c_71 => absurd (by decide) c_71)
              unfold mb_plain_143
              refine PP.ret ?_
              refine Or.inr ⟨rfl, h47.1, (rfl : (rh_plain K V r (F 42) (F 43)) = _).trans ?_⟩
              first | rfl | (simp only [rh_plain, rclose, ih.1, h_9, h_41, h_44, h_70, q_68, q_69, i_as, i10, eq_self, rb_yes, rb_no, ryes, rno, if_true, if_false, f_tt (p := True), reduceIte])
            · skip
              have h_72 : sgn K V ((F 42) + (1 : Int32)) (22 : Int32) = true := by
                rw [← g4, ← g5]
                have q := q
                first | exact q | (simp only [i_as] at q; exact q) | (simp only [i_as] at q ⊢; exact q)
              have h_73 : (F 43) = 40 := q1
              unfold mb_plain_131
              refine PP.ite (fun _ => ?_) (fun c_74 => absurd (by decide) c_74)
              unfold mb_plain_143
              refine PP.ret ?_
              refine Or.inr ⟨rfl, h47.1, (rfl : (rh_plain K V r (F 42) (F 43)) = _).trans ?_⟩
              first | rfl | (simp only [rh_plain, rclose, ih.1, h_9, h_41, h_44, h_72, h_73, q_68, q_69, i_as, i10, eq_self, rb_yes, rb_no, ryes, rno, if_true, if_false, f_tt (p := True), reduceIte])
        · skip
          unfold mb_plain_95
          refine PP.ix (fun _ => ?_)
          refine PP.bind (mw_note (10 : Int32) (G 6 (F 42).toNatClampNeg) F G) ?_
          intro r75 F75 G75 hK75
          dsimp only
          have g_76 : G75 4 = K := Eq.trans (hK75.2 4 rfl) g4
          have g_77 : G75 5 = V := Eq.trans (hK75.2 5 rfl) g5
          have q_78 : F75 42 = (F 42) := hK75.1 42 rfl
          have q_79 : F75 43 = (F 43) := hK75.1 43 rfl
          have q_80 : F75 44 = 0 := Eq.trans (hK75.1 44 rfl) h44
          unfold mb_plain_110
          unfold mb_plain_115
          unfold mb_plain_125
          refine PP.bind (mp_openSign (22 : Int32) (fup (fup F75 55 (1 : Int32)) 42 ((F75 42) + (1 : Int32))) G75) ?_
          rintro r81 F81 G81 (⟨rfl, rfl, rfl, h81⟩ | ⟨rfl, h81, h81b⟩)
          · dsimp only
            have h_82 : sgn K V ((F 42) + (1 : Int32)) (22 : Int32) = true := by
              rw [← g_76, ← g_77]
              have q := h81.1
              first | exact q | (simp only [q_78, q_79, i_as] at q; exact q) | (simp only [q_78, q_79, i_as] at q ⊢; exact q)
            have h_83 : ¬ (F 43) = 40 := by
              have q : ¬ (F75 43) = 40 := h81.2.1
              simp only [q_78, q_79, i_as] at q; exact q
            unfold mb_plain_131
            refine PP.ite (fun c_84 => absurd c_84 (by decide)) (fun _ => ?_)
            unfold mb_plain_134
            refine PP.bind (mp_closeSign (23 : Int32) (fup (fup (fup (fup F75 55 (1 : Int32)) 42 ((F75 42) + (1 : Int32))) 43 ((F75 43) + (1 : Int32))) 42 (((F75 42) + (1 : Int32)) + (1 : Int32))) G75) ?_
            rintro r85 F85 G85 (⟨rfl, rfl, rfl, h85⟩ | ⟨rfl, h85, h85b⟩)
            · dsimp only
              have h_86 : sgn K V (((F 42) + (1 : Int32)) + (1 : Int32)) (23 : Int32) = true := by
                rw [← g_76, ← g_77]
                have q := h85.1
                first | exact q | (simp only [q_78, q_79, i_as] at q; exact q) | (simp only [q_78, q_79, i_as] at q ⊢; exact q)
              unfold mb_plain_140
              refine PP.ite (fun c_87 => absurd c_87 (by decide)) (fun _ => ?_)
              unfold mb_plain_145
              refine PP.bind (mw_step (21 : Int32) (0 : Int32) (0 : Int32) (fup (fup (fup (fup (fup (fup F75 55 (1 : Int32)) 42 ((F75 42) + (1 : Int32))) 43 ((F75 43) + (1 : Int32))) 42 (((F75 42) + (1 : Int32)) + (1 : Int32))) 42 ((((F75 42) + (1 : Int32)) + (1 : Int32)) + (1 : Int32))) 43 (((F75 43) + (1 : Int32)) - (1 : Int32))) G75) ?_
              intro r88 F88 G88 hK88
              dsimp only
              have g_89 : G88 4 = K := Eq.trans (hK88.2 4 rfl) g_76
              have g_90 : G88 5 = V := Eq.trans (hK88.2 5 rfl) g_77
              have q_91 : F88 42 = ((((F 42) + (1 : Int32)) + (1 : Int32)) + (1 : Int32)) := Eq.trans (hK88.1 42 rfl) (show ((((F75 42) + (1 : Int32)) + (1 : Int32)) + (1 : Int32)) = ((((F 42) + (1 : Int32)) + (1 : Int32)) + (1 : Int32)) by simp only [q_78, q_79, i_as])
              have q_92 : F88 43 = (F 43) := Eq.trans (hK88.1 43 rfl) (show (((F75 43) + (1 : Int32)) - (1 : Int32)) = (F 43) by simp only [q_78, q_79, i_as])
              have q_93 : F88 44 = 0 := Eq.trans (hK88.1 44 rfl) q_80
              unfold mb_plain_153
              refine PP.ret ?_
              refine Or.inl ⟨rfl, q_93, ?_, (rfl : (rh_plain K V r (F 42) (F 43)) = _).trans ?_⟩
              · show (F88 43) = F 43
                first | rfl | (simp only [q_91, q_92, i_as])
              · show _ = some (some (F88 42))
                first | rfl | (simp only [rh_plain, rclose, ih.1, h_9, h_41, h_44, h_82, h_83, h_86, q_91, q_92, i_as, i10, eq_self, rb_yes, rb_no, ryes, rno, if_true, if_false, f_tt (p := True), reduceIte])
            · dsimp only
              have g_94 : G85 4 = K := Eq.trans (h85.2.2.2 4 rfl) g_76
              have g_95 : G85 5 = V := Eq.trans (h85.2.2.2 5 rfl) g_77
              have q_96 : F85 42 = (((F 42) + (1 : Int32)) + (1 : Int32)) := Eq.trans (h85.2.2.1 42 rfl) (show (((F75 42) + (1 : Int32)) + (1 : Int32)) = (((F 42) + (1 : Int32)) + (1 : Int32)) by simp only [q_78, q_79, i_as])
              have q_97 : F85 43 = ((F 43) + (1 : Int32)) := Eq.trans (h85.2.2.1 43 rfl) (show ((F75 43) + (1 : Int32)) = ((F 43) + (1 : Int32)) by simp only [q_78, q_79, i_as])
              rcases h85b with q | q
              · exact absurd q (by rw [q_80]; decide)
              · skip
                have h_98 : sgn K V (((F 42) + (1 : Int32)) + (1 : Int32)) (23 : Int32) = false := by
                  rw [← g_76, ← g_77]
                  have q := q
                  first | exact q | (simp only [q_78, q_79, i_as] at q; exact q) | (simp only [q_78, q_79, i_as] at q ⊢; exact q)
                unfold mb_plain_140
                refine PP.ite (fun _ => ?_) (fun c_99 => absurd (by decide) c_99)
                unfold mb_plain_143
                refine PP.ret ?_
                refine Or.inr ⟨rfl, h85.1, (rfl : (rh_plain K V r (F 42) (F 43)) = _).trans ?_⟩
                first | rfl | (simp only [rh_plain, rclose, ih.1, h_9, h_41, h_44, h_82, h_83, h_98, q_96, q_97, i_as, i10, eq_self, rb_yes, rb_no, ryes, rno, if_true, if_false, f_tt (p := True), reduceIte])
          · dsimp only
            have g_100 : G81 4 = K := Eq.trans (h81.2.2.2 4 rfl) g_76
            have g_101 : G81 5 = V := Eq.trans (h81.2.2.2 5 rfl) g_77
            have q_102 : F81 42 = ((F 42) + (1 : Int32)) := Eq.trans (h81.2.2.1 42 rfl) (show ((F75 42) + (1 : Int32)) = ((F 42) + (1 : Int32)) by simp only [q_78, q_79, i_as])
            have q_103 : F81 43 = (F 43) := Eq.trans (h81.2.2.1 43 rfl) (show (F75 43) = (F 43) by simp only [q_78, q_79, i_as])
            rcases h81b with q | q | ⟨q, q1⟩
            · exact absurd q (by rw [q_80]; decide)
            · skip
              have h_104 : sgn K V ((F 42) + (1 : Int32)) (22 : Int32) = false := by
                rw [← g_76, ← g_77]
                have q := q
                first | exact q | (simp only [q_78, q_79, i_as] at q; exact q) | (simp only [q_78, q_79, i_as] at q ⊢; exact q)
              unfold mb_plain_131
              refine PP.ite (fun _ => ?_) (fun c_105 => absurd (by decide) c_105)
              unfold mb_plain_143
              refine PP.ret ?_
              refine Or.inr ⟨rfl, h81.1, (rfl : (rh_plain K V r (F 42) (F 43)) = _).trans ?_⟩
              first | rfl | (simp only [rh_plain, rclose, ih.1, h_9, h_41, h_44, h_104, q_102, q_103, i_as, i10, eq_self, rb_yes, rb_no, ryes, rno, if_true, if_false, f_tt (p := True), reduceIte])
            · skip
              have h_106 : sgn K V ((F 42) + (1 : Int32)) (22 : Int32) = true := by
                rw [← g_76, ← g_77]
                have q := q
                first | exact q | (simp only [q_78, q_79, i_as] at q; exact q) | (simp only [q_78, q_79, i_as] at q ⊢; exact q)
              have h_107 : (F 43) = 40 := by
                have q : (F75 43) = 40 := q1
                simp only [q_78, q_79, i_as] at q; exact q
              unfold mb_plain_131
              refine PP.ite (fun _ => ?_) (fun c_108 => absurd (by decide) c_108)
              unfold mb_plain_143
              refine PP.ret ?_
              refine Or.inr ⟨rfl, h81.1, (rfl : (rh_plain K V r (F 42) (F 43)) = _).trans ?_⟩
              first | rfl | (simp only [rh_plain, rclose, ih.1, h_9, h_41, h_44, h_106, h_107, q_102, q_103, i_as, i10, eq_self, rb_yes, rb_no, ryes, rno, if_true, if_false, f_tt (p := True), reduceIte])
      · dsimp only
        have h_109 : wdn K V (F 42) (13 : Int32) = false := by
          rw [← g4, ← g5]
          have q := h43
          first | exact q | (simp only [i_as] at q; exact q) | (simp only [i_as] at q ⊢; exact q)
        unfold mb_plain_85
        refine PP.ite (fun _ => ?_) (fun c_110 => absurd (by decide) c_110)
        unfold mb_plain_156
        refine PP.ix (fun _ => ?_)
        refine PP.ite (fun c_111 => ?_) (fun c_111 => ?_)
        · skip
          have h_112 : K (F 42).toNatClampNeg = (1 : Int32) := by
            rw [← g4, ← g5]
            have q := c_111
            first | exact q | (simp only [i_as] at q; exact q) | (simp only [i_as] at q ⊢; exact q)
          unfold mb_plain_175
          unfold mb_plain_190
          refine PP.ite (fun c_113 => ?_) (fun c_113 => ?_)
          · skip
            unfold mb_plain_205
            refine PP.bind (PP.and (ihK 6 (F 42) 0 (fup F 42 ((F 42) + (1 : Int32))) G) (ih.2.2.2 6 (F 42) 0 (fup F 42 ((F 42) + (1 : Int32))) G g4 g5 (show (fup F 42 ((F 42) + (1 : Int32))) 44 = 0 from h44) (fun e => absurd e (by decide)))) ?_
            rintro r114 F114 G114 ⟨hK114, (⟨rfl, h114a, h114b, h114⟩ | ⟨rfl, h114a, h114⟩)⟩
            · dsimp only
              have g_115 : G114 4 = K := Eq.trans (hK114.2 4 rfl) g4
              have g_116 : G114 5 = V := Eq.trans (hK114.2 5 rfl) g5
              have h_117 : r 6 ((F 42) + (1 : Int32)) (F 43) = some (some (F114 42)) := h114
              have q_118 : F114 43 = (F 43) := (show F114 43 = (F 43) from h114b)
              unfold mb_plain_210
              refine PP.ret ?_
              refine Or.inl ⟨rfl, h114a, ?_, (rfl : (rh_plain K V r (F 42) (F 43)) = _).trans ?_⟩
              · show (F114 43) = F 43
                first | rfl | (simp only [q_118, i_as])
              · show _ = some (some (F114 42))
                first | rfl | (simp only [rh_plain, rclose, ih.1, h_9, h_41, h_109, h_112, h_117, q_118, i_as, i10, eq_self, rb_yes, rb_no, ryes, rno, if_true, if_false, f_tt (p := True), reduceIte])
            · dsimp only
              have g_119 : G114 4 = K := Eq.trans (hK114.2 4 rfl) g4
              have g_120 : G114 5 = V := Eq.trans (hK114.2 5 rfl) g5
              have h_121 : r 6 ((F 42) + (1 : Int32)) (F 43) = some (none) := h114
              unfold mb_plain_210
              refine PP.ret ?_
              refine Or.inr ⟨rfl, h114a, (rfl : (rh_plain K V r (F 42) (F 43)) = _).trans ?_⟩
              first | rfl | (simp only [rh_plain, rclose, ih.1, h_9, h_41, h_109, h_112, h_121, i_as, i10, eq_self, rb_yes, rb_no, ryes, rno, if_true, if_false, f_tt (p := True), reduceIte])
          · skip
            unfold mb_plain_197
            refine PP.bind (PP.and (ihK 5 (F 42) 0 (fup F 42 ((F 42) + (1 : Int32))) G) (ih.2.2.2 5 (F 42) 0 (fup F 42 ((F 42) + (1 : Int32))) G g4 g5 (show (fup F 42 ((F 42) + (1 : Int32))) 44 = 0 from h44) (fun _ => (by show K (((F 42) + (1 : Int32)) - 1).toNatClampNeg = 1; rw [i_as]; assumption)))) ?_
            rintro r122 F122 G122 ⟨hK122, (⟨rfl, h122a, h122b, h122⟩ | ⟨rfl, h122a, h122⟩)⟩
            · dsimp only
              have g_123 : G122 4 = K := Eq.trans (hK122.2 4 rfl) g4
              have g_124 : G122 5 = V := Eq.trans (hK122.2 5 rfl) g5
              have h_125 : r 5 ((F 42) + (1 : Int32)) (F 43) = some (some (F122 42)) := h122
              have q_126 : F122 43 = (F 43) := (show F122 43 = (F 43) from h122b)
              unfold mb_plain_202
              unfold mb_plain_210
              refine PP.ret ?_
              refine Or.inl ⟨rfl, h122a, ?_, (rfl : (rh_plain K V r (F 42) (F 43)) = _).trans ?_⟩
              · show (F122 43) = F 43
                first | rfl | (simp only [q_126, i_as])
              · show _ = some (some (F122 42))
                first | rfl | (simp only [rh_plain, rclose, ih.1, h_9, h_41, h_109, h_112, h_125, q_126, i_as, i10, eq_self, rb_yes, rb_no, ryes, rno, if_true, if_false, f_tt (p := True), reduceIte])
            · dsimp only
              have g_127 : G122 4 = K := Eq.trans (hK122.2 4 rfl) g4
              have g_128 : G122 5 = V := Eq.trans (hK122.2 5 rfl) g5
              have h_129 : r 5 ((F 42) + (1 : Int32)) (F 43) = some (none) := h122
              unfold mb_plain_202
              unfold mb_plain_210
              refine PP.ret ?_
              refine Or.inr ⟨rfl, h122a, (rfl : (rh_plain K V r (F 42) (F 43)) = _).trans ?_⟩
              first | rfl | (simp only [rh_plain, rclose, ih.1, h_9, h_41, h_109, h_112, h_129, i_as, i10, eq_self, rb_yes, rb_no, ryes, rno, if_true, if_false, f_tt (p := True), reduceIte])
        · skip
          have h_130 : ¬ K (F 42).toNatClampNeg = (1 : Int32) := by
            rw [← g4, ← g5]
            have q := c_111
            first | exact q | (simp only [i_as] at q; exact q) | (simp only [i_as] at q ⊢; exact q)
          unfold mb_plain_169
          refine PP.bind (mp_fails (2 : Int32) (by decide) F G) ?_
          rintro r131 F131 G131 ⟨rfl, h131⟩
          dsimp only
          have g_132 : G131 4 = K := Eq.trans (h131.2.2.2 4 rfl) g4
          have g_133 : G131 5 = V := Eq.trans (h131.2.2.2 5 rfl) g5
          have q_134 : F131 42 = (F 42) := h131.2.2.1 42 rfl
          have q_135 : F131 43 = (F 43) := h131.2.2.1 43 rfl
          unfold mb_plain_174
          refine PP.ret ?_
          refine Or.inr ⟨rfl, h131.1, (rfl : (rh_plain K V r (F 42) (F 43)) = _).trans ?_⟩
          first | rfl | (simp only [rh_plain, rclose, ih.1, h_9, h_41, h_109, h_130, q_134, q_135, i_as, i10, eq_self, rb_yes, rb_no, ryes, rno, if_true, if_false, f_tt (p := True), reduceIte])
theorem mrS1 {fu : Nat} {K V : Nat → Int32} : ∀ d : Nat, mRI1 K V (mS1 fu d) (rS1 K V fu d) := by
  intro d
  induction d with
  | zero => exact ⟨fun _ _ => rfl, fun _ _ _ => ⟨Or.inl rfl, Or.inl rfl, Or.inl rfl, Or.inl rfl, Or.inl rfl⟩, fun _ _ _ h => by cases h, fun _ _ _ _ _ _ _ _ _ => PP.no⟩
  | succ d ih =>
    refine ⟨fun _ _ => rfl, rAL.up ih.2.1, fun t o t1 h => rcall_cl (r := rS1 K V fu d) h, ?_⟩
    intro i x y F G g4 g5 h44 hp
    exact PP.ite (fun e => by subst e; exact mrt_argument (mS1 fu d) (rS1 K V fu d) (mwS1 d) ih x y F G g4 g5 h44) (fun _ => PP.ite (fun e => by subst e; exact mrt_call (mS1 fu d) (rS1 K V fu d) (mwS1 d) ih x y F G g4 g5 h44) (fun _ => PP.ite (fun e => by subst e; exact mrt_chain (mS1 fu d) (rS1 K V fu d) (mwS1 d) ih F G g4 g5 h44) (fun _ => PP.ite (fun e => by subst e; exact mrt_element (mS1 fu d) (rS1 K V fu d) (mwS1 d) ih x F G g4 g5 h44) (fun _ => PP.ite (fun e => by subst e; exact mrt_expression (mS1 fu d) (rS1 K V fu d) (mwS1 d) ih F G g4 g5 h44) (fun _ => PP.ite (fun e => by subst e; exact mrt_inConstant (mS1 fu d) (rS1 K V fu d) (mwS1 d) ih x F G g4 g5 h44 (hp rfl)) (fun _ => PP.ite (fun e => by subst e; exact mrt_named (mS1 fu d) (rS1 K V fu d) (mwS1 d) ih x F G g4 g5 h44) (fun _ => PP.ite (fun e => by subst e; exact mrt_operand (mS1 fu d) (rS1 K V fu d) (mwS1 d) ih F G g4 g5 h44) (fun _ => PP.ite (fun e => by subst e; exact mrt_plain (mS1 fu d) (rS1 K V fu d) (mwS1 d) ih F G g4 g5 h44) (fun _ => PP.no)))))))))
theorem mr_argument {fu : Nat} {K V : Nat → Int32} (x : Int32) (y : Int32) (F : PF) (G : PG) (g4 : G 4 = K) (g5 : G 5 = V) (h44 : F 44 = 0) : PP (mf_argument fu x y F G) (fun r' F' _ => ROK (rS1 K V fu 300 0 (F 42) (F 43)) F r' F') := (mrS1 300).2.2.2 0 x y F G g4 g5 h44 (fun e => absurd e (by decide))
theorem mr_call {fu : Nat} {K V : Nat → Int32} (x : Int32) (y : Int32) (F : PF) (G : PG) (g4 : G 4 = K) (g5 : G 5 = V) (h44 : F 44 = 0) : PP (mf_call fu x y F G) (fun r' F' _ => ROK (rS1 K V fu 300 1 (F 42) (F 43)) F r' F') := (mrS1 300).2.2.2 1 x y F G g4 g5 h44 (fun e => absurd e (by decide))
theorem mr_chain {fu : Nat} {K V : Nat → Int32} (F : PF) (G : PG) (g4 : G 4 = K) (g5 : G 5 = V) (h44 : F 44 = 0) : PP (mf_chain fu F G) (fun r' F' _ => ROK (rS1 K V fu 300 2 (F 42) (F 43)) F r' F') := (mrS1 300).2.2.2 2 0 0 F G g4 g5 h44 (fun e => absurd e (by decide))
theorem mr_element {fu : Nat} {K V : Nat → Int32} (x : Int32) (F : PF) (G : PG) (g4 : G 4 = K) (g5 : G 5 = V) (h44 : F 44 = 0) : PP (mf_element fu x F G) (fun r' F' _ => ROK (rS1 K V fu 300 3 (F 42) (F 43)) F r' F') := (mrS1 300).2.2.2 3 x 0 F G g4 g5 h44 (fun e => absurd e (by decide))
theorem mr_expression {fu : Nat} {K V : Nat → Int32} (F : PF) (G : PG) (g4 : G 4 = K) (g5 : G 5 = V) (h44 : F 44 = 0) : PP (mf_expression fu F G) (fun r' F' _ => ROK (rS1 K V fu 300 4 (F 42) (F 43)) F r' F') := (mrS1 300).2.2.2 4 0 0 F G g4 g5 h44 (fun e => absurd e (by decide))
theorem mr_inConstant {fu : Nat} {K V : Nat → Int32} (x : Int32) (F : PF) (G : PG) (g4 : G 4 = K) (g5 : G 5 = V) (h44 : F 44 = 0) (hp : K (F 42 - 1).toNatClampNeg = 1) : PP (mf_inConstant fu x F G) (fun r' F' _ => ROK (rS1 K V fu 300 5 (F 42) (F 43)) F r' F') := (mrS1 300).2.2.2 5 x 0 F G g4 g5 h44 (fun _ => hp)
theorem mr_named {fu : Nat} {K V : Nat → Int32} (x : Int32) (F : PF) (G : PG) (g4 : G 4 = K) (g5 : G 5 = V) (h44 : F 44 = 0) : PP (mf_named fu x F G) (fun r' F' _ => ROK (rS1 K V fu 300 6 (F 42) (F 43)) F r' F') := (mrS1 300).2.2.2 6 x 0 F G g4 g5 h44 (fun e => absurd e (by decide))
theorem mr_operand {fu : Nat} {K V : Nat → Int32} (F : PF) (G : PG) (g4 : G 4 = K) (g5 : G 5 = V) (h44 : F 44 = 0) : PP (mf_operand fu F G) (fun r' F' _ => ROK (rS1 K V fu 300 7 (F 42) (F 43)) F r' F') := (mrS1 300).2.2.2 7 0 0 F G g4 g5 h44 (fun e => absurd e (by decide))
theorem mr_plain {fu : Nat} {K V : Nat → Int32} (F : PF) (G : PG) (g4 : G 4 = K) (g5 : G 5 = V) (h44 : F 44 = 0) : PP (mf_plain fu F G) (fun r' F' _ => ROK (rS1 K V fu 300 8 (F 42) (F 43)) F r' F') := (mrS1 300).2.2.2 8 0 0 F G g4 g5 h44 (fun e => absurd e (by decide))
