def rl_vals (K V : Nat → Int32) (fu : Nat) (o : Int32) : Nat → Int32 → OR
  | 0 => fun _ => none
  | n + 1 => fun t => rb (rS1 K V fu 300 4 t o) (fun t1 => if sgn K V t1 28 = true then rl_vals K V fu o n (t1 + 1) else rclose K V 27 t1)
def rarr2 (K V : Nat → Int32) (fu : Nat) (t o : Int32) : OR := if sgn K V t 32 = true then (if sgn K V (t + 1) 26 = true then (if o = 40 then rno else rl_vals K V fu (o + 1) fu (t + 1 + 1)) else rno) else ryes t
def rarray (K V : Nat → Int32) (fu : Nat) (t o : Int32) : OR := rb (rsize K V fu t o) (fun t1 => rarr2 K V fu t1 o)
def rconst (K V : Nat → Int32) (fu : Nat) (t o : Int32) : OR := if K t.toNatClampNeg = 1 then (if sgn K V (t + 1) 32 = true then rb (rS1 K V fu 300 4 (t + 1 + 1) o) (fun t1 => rclose K V 29 t1) else rno) else rno
def rsq (K V : Nat → Int32) (t o : Int32) : OR := if sgn K V t 24 = true then (if o = 40 then rno else rclose K V 25 (t + 1)) else rno
def rform2 (K V : Nat → Int32) (b : Int32) (t o : Int32) : OR := if b = 0 then (if sgn K V t 24 = true then rsq K V t o else ryes t) else rsq K V t o
def rformal (K V : Nat → Int32) (t o : Int32) : OR := if wdn K V t 1 = true then (if K (t + 1).toNatClampNeg = 1 then rform2 K V 1 (t + 1 + 1) o else rno) else if wdn K V t 0 = true then (if K (t + 1).toNatClampNeg = 1 then rform2 K V 0 (t + 1 + 1) o else rno) else rno
def rfend (K V : Nat → Int32) (fu : Nat) (t o : Int32) : OR := if sgn K V t 23 = true then (if sgn K V (t + 1) 26 = true then rS2 K V fu 300 0 (t + 1) (o - 1) else rno) else rno
def rl_formals (K V : Nat → Int32) (fu : Nat) (o : Int32) : Nat → Int32 → OR
  | 0 => fun _ => none
  | n + 1 => fun t => rb (rformal K V t o) (fun t1 => if sgn K V t1 28 = true then rl_formals K V fu o n (t1 + 1) else rfend K V fu t1 o)
def rfunction (K V : Nat → Int32) (fu : Nat) (t o : Int32) : OR := if sgn K V t 22 = true then (if o = 40 then rno else if sgn K V (t + 1) 23 = true then rfend K V fu (t + 1) (o + 1) else rl_formals K V fu (o + 1) fu (t + 1)) else rno
def rtl3 (K V : Nat → Int32) (fu : Nat) (v b : Int32) (t o : Int32) : OR := if v = 0 then (if b = 0 then (if sgn K V t 29 = true then rclose K V 29 t else if sgn K V t 32 = true then rb (rS1 K V fu 300 4 (t + 1) o) (fun t1 => rclose K V 29 t1) else rb (rarray K V fu t o) (fun t1 => rclose K V 29 t1)) else rb (rarray K V fu t o) (fun t1 => rclose K V 29 t1)) else rno
def rtl2 (K V : Nat → Int32) (fu : Nat) (v b : Int32) (t o : Int32) : OR := if b = 0 then (if sgn K V t 22 = true then rfunction K V fu t o else rtl3 K V fu v b t o) else rtl3 K V fu v b t o
def rtl1 (K V : Nat → Int32) (fu : Nat) (v b : Int32) (t o : Int32) : OR := if K (t + 1).toNatClampNeg = 1 then rtl2 K V fu v b (t + 1 + 1) o else rno
def rtells (K V : Nat → Int32) (fu : Nat) (t o : Int32) : OR := if wdn K V t 3 = true then (if wdn K V (t + 1) 0 = true then rconst K V fu (t + 1 + 1) o else rno) else if wdn K V t 2 = true then rtl1 K V fu 1 0 t o else if wdn K V t 1 = true then rtl1 K V fu 0 1 t o else if wdn K V t 0 = true then rtl1 K V fu 0 0 t o else rno
theorem wdn_ne {K V : Nat → Int32} {t a b : Int32} (h : wdn K V t a = true) (e : a ≠ b) : wdn K V t b = false := decide_eq_false (fun q => e ((of_decide_eq_true h).2.symm.trans q.2))
theorem mr_globalInt {fu : Nat} (x1 : Int32) (F : PF) (G : PG) : PP (mf_globalInt fu x1 F G) (fun r _ _ => r = 1) := by
  unfold mf_globalInt mb_globalInt_0
  refine PP.bind (mw_globalAt x1 F G) ?_
  intro r1 F1 G1 h1
  dsimp only
  unfold mb_globalInt_5 mb_globalInt_21
  refine PP.ix (fun _ => ?_)
  refine PP.bind (mw_declare _ _ _ _ _ _ F1 G1) ?_
  intro r2 F2 G2 h2
  dsimp only
  exact PP.ret rfl

theorem mr_constantTold {fu : Nat} {K V : Nat → Int32} (F : PF) (G : PG) (g4 : G 4 = K) (g5 : G 5 = V) (h44 : F 44 = 0) : PP (mf_constantTold fu F G) (fun r' F' _ => ROK (rconst K V fu (F 42) (F 43)) F r' F') := by
  unfold mf_constantTold
  unfold mb_constantTold_0
  refine PP.bind (mp_name F G) ?_
  rintro r1 F1 G1 (⟨rfl, rfl, rfl, h1⟩ | ⟨rfl, h1, h1b⟩)
  · dsimp only
    have h_2 : K (F 42).toNatClampNeg = 1 := by
      rw [← g4, ← g5]
      have q := h1.1
      first | exact q | (simp only [i_as] at q; exact q) | (simp only [i_as] at q ⊢; exact q)
    unfold mb_constantTold_4
    refine PP.bind (mp_sign (32 : Int32) (fup F 42 ((F 42) + (1 : Int32))) G) ?_
    rintro r3 F3 G3 (⟨rfl, rfl, rfl, h3⟩ | ⟨rfl, h3, h3b⟩)
    · dsimp only
      have h_4 : sgn K V ((F 42) + (1 : Int32)) (32 : Int32) = true := by
        rw [← g4, ← g5]
        have q := h3.1
        first | exact q | (simp only [i_as] at q; exact q) | (simp only [i_as] at q ⊢; exact q)
      unfold mb_constantTold_11
      refine PP.ite (fun c_5 => absurd c_5 (by decide)) (fun _ => ?_)
      unfold mb_constantTold_16
      refine PP.bind (PP.and (mw_value (fup (fup F 42 ((F 42) + (1 : Int32))) 42 (((F 42) + (1 : Int32)) + (1 : Int32))) G) (mr_value (fup (fup F 42 ((F 42) + (1 : Int32))) 42 (((F 42) + (1 : Int32)) + (1 : Int32))) G g4 g5 (show (fup (fup F 42 ((F 42) + (1 : Int32))) 42 (((F 42) + (1 : Int32)) + (1 : Int32))) 44 = 0 from h44))) ?_
      rintro r6 F6 G6 ⟨hK6, (⟨-, h6a, h6b, h6⟩ | ⟨-, h6a, h6⟩)⟩
      · dsimp only
        have g_7 : G6 4 = K := Eq.trans (hK6.2 4 rfl) g4
        have g_8 : G6 5 = V := Eq.trans (hK6.2 5 rfl) g5
        have h_9 : rS1 K V fu 300 4 (((F 42) + (1 : Int32)) + (1 : Int32)) (F 43) = some (some (F6 42)) := h6
        have q_10 : F6 43 = (F 43) := (show F6 43 = (F 43) from h6b)
        unfold mb_constantTold_20
        refine PP.ite (fun c_11 => ?_) (fun c_11 => ?_)
        · skip
          unfold mb_constantTold_30
          refine PP.bind (mw_twice (((F 42) + (1 : Int32)) - (1 : Int32)) F6 G6) ?_
          intro r12 F12 G12 hK12
          dsimp only
          have g_13 : G12 4 = K := Eq.trans (hK12.2 4 rfl) g_7
          have g_14 : G12 5 = V := Eq.trans (hK12.2 5 rfl) g_8
          have q_15 : F12 42 = (F6 42) := hK12.1 42 rfl
          have q_16 : F12 43 = (F 43) := Eq.trans (hK12.1 43 rfl) (show (F6 43) = (F 43) by simp only [q_10, i_as])
          have q_17 : F12 44 = 0 := Eq.trans (hK12.1 44 rfl) h6a
          unfold mb_constantTold_40
          refine PP.ite (fun c_18 => ?_) (fun c_18 => ?_)
          · skip
            unfold mb_constantTold_53
            unfold mb_constantTold_54
            refine PP.bind (mw_declare (((F 42) + (1 : Int32)) - (1 : Int32)) (0 : Int32) (0 : Int32) r6 (1 : Int32) (0 : Int32) F12 G12) ?_
            intro r19 F19 G19 hK19
            dsimp only
            have g_20 : G19 4 = K := Eq.trans (hK19.2 4 rfl) g_13
            have g_21 : G19 5 = V := Eq.trans (hK19.2 5 rfl) g_14
            have q_22 : F19 42 = (F6 42) := Eq.trans (hK19.1 42 rfl) (show (F12 42) = (F6 42) by simp only [q_15, q_16, i_as])
            have q_23 : F19 43 = (F 43) := Eq.trans (hK19.1 43 rfl) (show (F12 43) = (F 43) by simp only [q_15, q_16, i_as])
            have q_24 : F19 44 = 0 := Eq.trans (hK19.1 44 rfl) q_17
            unfold mb_constantTold_58
            refine PP.bind (mp_sign (29 : Int32) F19 G19) ?_
            rintro r25 F25 G25 (⟨rfl, rfl, rfl, h25⟩ | ⟨rfl, h25, h25b⟩)
            · dsimp only
              have h_26 : sgn K V (F6 42) (29 : Int32) = true := by
                rw [← g_20, ← g_21]
                have q := h25.1
                first | exact q | (simp only [q_22, q_23, i_as] at q; exact q) | (simp only [q_22, q_23, i_as] at q ⊢; exact q)
              unfold mb_constantTold_64
              refine PP.ret ?_
              refine Or.inl ⟨rfl, q_24, ?_, (rfl : (rconst K V fu (F 42) (F 43)) = _).trans ?_⟩
              · show (F19 43) = F 43
                first | rfl | (simp only [q_22, q_23, i_as])
              · show _ = some (some ((F19 42) + (1 : Int32)))
                first | rfl | (simp only [rconst, rclose, h_2, h_4, h_9, h_26, q_22, q_23, i_as, i10, eq_self, rb_yes, rb_no, ryes, rno, if_true, if_false, f_tt (p := True), reduceIte])
            · dsimp only
              have g_27 : G25 4 = K := Eq.trans (h25.2.2.2 4 rfl) g_20
              have g_28 : G25 5 = V := Eq.trans (h25.2.2.2 5 rfl) g_21
              have q_29 : F25 42 = (F6 42) := Eq.trans (h25.2.2.1 42 rfl) (show (F19 42) = (F6 42) by simp only [q_22, q_23, i_as])
              have q_30 : F25 43 = (F 43) := Eq.trans (h25.2.2.1 43 rfl) (show (F19 43) = (F 43) by simp only [q_22, q_23, i_as])
              rcases h25b with q | q
              · exact absurd q (by rw [q_24]; decide)
              · skip
                have h_31 : sgn K V (F6 42) (29 : Int32) = false := by
                  rw [← g_20, ← g_21]
                  have q := q
                  first | exact q | (simp only [q_22, q_23, i_as] at q; exact q) | (simp only [q_22, q_23, i_as] at q ⊢; exact q)
                unfold mb_constantTold_64
                refine PP.ret ?_
                refine Or.inr ⟨rfl, h25.1, (rfl : (rconst K V fu (F 42) (F 43)) = _).trans ?_⟩
                first | rfl | (simp only [rconst, rclose, h_2, h_4, h_9, h_31, q_29, q_30, i_as, i10, eq_self, rb_yes, rb_no, ryes, rno, if_true, if_false, f_tt (p := True), reduceIte])
          · skip
            unfold mb_constantTold_49
            unfold mb_constantTold_54
            refine PP.bind (mw_declare (((F 42) + (1 : Int32)) - (1 : Int32)) (0 : Int32) (0 : Int32) r6 (-1 : Int32) (0 : Int32) F12 G12) ?_
            intro r32 F32 G32 hK32
            dsimp only
            have g_33 : G32 4 = K := Eq.trans (hK32.2 4 rfl) g_13
            have g_34 : G32 5 = V := Eq.trans (hK32.2 5 rfl) g_14
            have q_35 : F32 42 = (F6 42) := Eq.trans (hK32.1 42 rfl) (show (F12 42) = (F6 42) by simp only [q_15, q_16, i_as])
            have q_36 : F32 43 = (F 43) := Eq.trans (hK32.1 43 rfl) (show (F12 43) = (F 43) by simp only [q_15, q_16, i_as])
            have q_37 : F32 44 = 0 := Eq.trans (hK32.1 44 rfl) q_17
            unfold mb_constantTold_58
            refine PP.bind (mp_sign (29 : Int32) F32 G32) ?_
            rintro r38 F38 G38 (⟨rfl, rfl, rfl, h38⟩ | ⟨rfl, h38, h38b⟩)
            · dsimp only
              have h_39 : sgn K V (F6 42) (29 : Int32) = true := by
                rw [← g_33, ← g_34]
                have q := h38.1
                first | exact q | (simp only [q_35, q_36, i_as] at q; exact q) | (simp only [q_35, q_36, i_as] at q ⊢; exact q)
              unfold mb_constantTold_64
              refine PP.ret ?_
              refine Or.inl ⟨rfl, q_37, ?_, (rfl : (rconst K V fu (F 42) (F 43)) = _).trans ?_⟩
              · show (F32 43) = F 43
                first | rfl | (simp only [q_35, q_36, i_as])
              · show _ = some (some ((F32 42) + (1 : Int32)))
                first | rfl | (simp only [rconst, rclose, h_2, h_4, h_9, h_39, q_35, q_36, i_as, i10, eq_self, rb_yes, rb_no, ryes, rno, if_true, if_false, f_tt (p := True), reduceIte])
            · dsimp only
              have g_40 : G38 4 = K := Eq.trans (h38.2.2.2 4 rfl) g_33
              have g_41 : G38 5 = V := Eq.trans (h38.2.2.2 5 rfl) g_34
              have q_42 : F38 42 = (F6 42) := Eq.trans (h38.2.2.1 42 rfl) (show (F32 42) = (F6 42) by simp only [q_35, q_36, i_as])
              have q_43 : F38 43 = (F 43) := Eq.trans (h38.2.2.1 43 rfl) (show (F32 43) = (F 43) by simp only [q_35, q_36, i_as])
              rcases h38b with q | q
              · exact absurd q (by rw [q_37]; decide)
              · skip
                have h_44 : sgn K V (F6 42) (29 : Int32) = false := by
                  rw [← g_33, ← g_34]
                  have q := q
                  first | exact q | (simp only [q_35, q_36, i_as] at q; exact q) | (simp only [q_35, q_36, i_as] at q ⊢; exact q)
                unfold mb_constantTold_64
                refine PP.ret ?_
                refine Or.inr ⟨rfl, h38.1, (rfl : (rconst K V fu (F 42) (F 43)) = _).trans ?_⟩
                first | rfl | (simp only [rconst, rclose, h_2, h_4, h_9, h_44, q_42, q_43, i_as, i10, eq_self, rb_yes, rb_no, ryes, rno, if_true, if_false, f_tt (p := True), reduceIte])
        · skip
          exact absurd (i_npos (show ¬ ((F6 44) ≤ (0 : Int32)) from c_11)) (by rw [h6a]; decide)
      · dsimp only
        have g_45 : G6 4 = K := Eq.trans (hK6.2 4 rfl) g4
        have g_46 : G6 5 = V := Eq.trans (hK6.2 5 rfl) g5
        have h_47 : rS1 K V fu 300 4 (((F 42) + (1 : Int32)) + (1 : Int32)) (F 43) = some (none) := h6
        unfold mb_constantTold_20
        refine PP.ite (fun c_48 => ?_) (fun c_48 => ?_)
        · skip
          exact absurd (i_le.mp (show (F6 44) ≤ (0 : Int32) from c_48)) (by have := h6a; have l0 : (0 : Int32).toInt = 0 := rfl; omega)
        · skip
          unfold mb_constantTold_28
          refine PP.ret ?_
          refine Or.inr ⟨rfl, h6a, (rfl : (rconst K V fu (F 42) (F 43)) = _).trans ?_⟩
          first | rfl | (simp only [rconst, rclose, h_2, h_4, h_47, i_as, i10, eq_self, rb_yes, rb_no, ryes, rno, if_true, if_false, f_tt (p := True), reduceIte])
    · dsimp only
      have g_49 : G3 4 = K := Eq.trans (h3.2.2.2 4 rfl) g4
      have g_50 : G3 5 = V := Eq.trans (h3.2.2.2 5 rfl) g5
      have q_51 : F3 42 = ((F 42) + (1 : Int32)) := h3.2.2.1 42 rfl
      have q_52 : F3 43 = (F 43) := h3.2.2.1 43 rfl
      rcases h3b with q | q
      · exact absurd q (by rw [h44]; decide)
      · skip
        have h_53 : sgn K V ((F 42) + (1 : Int32)) (32 : Int32) = false := by
          rw [← g4, ← g5]
          have q := q
          first | exact q | (simp only [i_as] at q; exact q) | (simp only [i_as] at q ⊢; exact q)
        unfold mb_constantTold_11
        refine PP.ite (fun _ => ?_) (fun c_54 => absurd (by decide) c_54)
        unfold mb_constantTold_14
        refine PP.ret ?_
        refine Or.inr ⟨rfl, h3.1, (rfl : (rconst K V fu (F 42) (F 43)) = _).trans ?_⟩
        first | rfl | (simp only [rconst, rclose, h_2, h_53, q_51, q_52, i_as, i10, eq_self, rb_yes, rb_no, ryes, rno, if_true, if_false, f_tt (p := True), reduceIte])
  · dsimp only
    have g_55 : G1 4 = K := Eq.trans (h1.2.2.2 4 rfl) g4
    have g_56 : G1 5 = V := Eq.trans (h1.2.2.2 5 rfl) g5
    have q_57 : F1 42 = (F 42) := h1.2.2.1 42 rfl
    have q_58 : F1 43 = (F 43) := h1.2.2.1 43 rfl
    rcases h1b with q | q
    · exact absurd q (by rw [h44]; decide)
    · skip
      have h_59 : ¬ K (F 42).toNatClampNeg = 1 := by
        rw [← g4, ← g5]
        have q := q
        first | exact q | (simp only [i_as] at q; exact q) | (simp only [i_as] at q ⊢; exact q)
      unfold mb_constantTold_4
      refine PP.bind (mp_sign (32 : Int32) F1 G1) ?_
      rintro r60 F60 G60 (⟨rfl, rfl, rfl, h60⟩ | ⟨rfl, h60, h60b⟩)
      · dsimp only
        exact absurd h1.1 h60.2
      · dsimp only
        have g_61 : G60 4 = K := Eq.trans (h60.2.2.2 4 rfl) g_55
        have g_62 : G60 5 = V := Eq.trans (h60.2.2.2 5 rfl) g_56
        have q_63 : F60 42 = (F 42) := Eq.trans (h60.2.2.1 42 rfl) (show (F1 42) = (F 42) by simp only [q_57, q_58, i_as])
        have q_64 : F60 43 = (F 43) := Eq.trans (h60.2.2.1 43 rfl) (show (F1 43) = (F 43) by simp only [q_57, q_58, i_as])
        unfold mb_constantTold_11
        refine PP.ite (fun _ => ?_) (fun c_65 => absurd (by decide) c_65)
        unfold mb_constantTold_14
        refine PP.ret ?_
        refine Or.inr ⟨rfl, h60.1, (rfl : (rconst K V fu (F 42) (F 43)) = _).trans ?_⟩
        first | rfl | (simp only [rconst, rclose, h_59, q_63, q_64, i_as, i10, eq_self, rb_yes, rb_no, ryes, rno, if_true, if_false, f_tt (p := True), reduceIte])
theorem mrj_array_384 {fu : Nat} {K V : Nat → Int32} {F0 : PF} {R0 : OR} {n297 : Nat} (ag_297 : Int32 → Int32 → Int32 → Int32 → Int32 → Int32 → Int32 → PF → PG → PR) (hag_297 : ∀ (x1 : Int32) (x2 : Int32) (x3 : Int32) (x4 : Int32) (x7 : Int32) (x8 : Int32) (x9 : Int32) (F : PF) (G : PG) (g4 : G 4 = K) (g5 : G 5 = V) (hA : (x9 = 1 ∧ F 44 = 0 ∧ F 43 = ((F0 43) + (1 : Int32)) ∧ R0 = rl_vals K V fu (F 43) n297 (F 42)) ∨ (x9 = 0 ∧ F 44 = 0 ∧ F 43 = ((F0 43) + (1 : Int32)) ∧ R0 = rclose K V 27 (F 42)) ∨ (x9 = 0 ∧ 0 < (F 44).toInt ∧ R0 = rno)), PP (ag_297 x1 x2 x3 x4 x7 x8 x9 F G) (fun r' F' _ => ROK R0 F0 r' F')) (x1 : Int32) (x2 : Int32) (x3 : Int32) (x4 : Int32) (x7 : Int32) (x8 : Int32) (F : PF) (G : PG) (g4 : G 4 = K) (g5 : G 5 = V) (hA : (F 44 = 0 ∧ F 43 = ((F0 43) + (1 : Int32)) ∧ R0 = (if sgn K V (F 42) 28 = true then rl_vals K V fu (F 43) n297 ((F 42) + 1) else rclose K V 27 (F 42))) ∨ (0 < (F 44).toInt ∧ R0 = rno)) : PP (mb_array_384 fu ag_297 x1 x2 x3 x4 x7 x8 F G) (fun r' F' _ => ROK R0 F0 r' F') := by
  rcases hA with ⟨h44, h43, hR⟩ | ⟨hf, hR⟩
  · skip
    unfold mb_array_384
    refine PP.ite (fun c_1 => ?_) (fun c_1 => ?_)
    · skip
      unfold mb_array_394
      refine PP.bind (mp_isSign (28 : Int32) F G) ?_
      rintro _ _ _ ⟨rfl, rfl, (⟨rfl, h2⟩ | ⟨rfl, h2⟩)⟩
      · dsimp only
        have h_3 : sgn K V (F 42) (28 : Int32) = true := by
          rw [← g4, ← g5]
          have q := h2
          first | exact q | (simp only [h43, i_as] at q; exact q) | (simp only [h43, i_as] at q ⊢; exact q)
        unfold mb_array_400
        refine PP.ite (fun c_4 => absurd c_4 (by decide)) (fun _ => ?_)
        unfold mb_array_403
        unfold mb_array_408
        refine PP.ite (fun c_5 => absurd c_5 (by decide)) (fun _ => ?_)
        unfold mb_array_420
        unfold mb_array_425
        unfold mb_array_429
        exact hag_297 x1 x2 x3 x4 x7 (x8 + (1 : Int32)) (1 : Int32) (fup F 42 ((F 42) + (1 : Int32))) G g4 g5 (Or.inl ⟨rfl, h44, (by first | rfl | (simp only [h43, i_as])), (hR.trans (by first | rfl | (simp only [rarray, rsize, rarr2, rl_vals, rclose, h_3, h43, i_as, i10, eq_self, rb_yes, rb_no, ryes, rno, if_true, if_false, f_tt (p := True), reduceIte])))⟩)
      · dsimp only
        have h_6 : sgn K V (F 42) (28 : Int32) = false := by
          rw [← g4, ← g5]
          have q := h2
          first | exact q | (simp only [h43, i_as] at q; exact q) | (simp only [h43, i_as] at q ⊢; exact q)
        unfold mb_array_400
        refine PP.ite (fun _ => ?_) (fun c_7 => absurd (by decide) c_7)
        unfold mb_array_407
        unfold mb_array_408
        refine PP.ite (fun _ => ?_) (fun c_8 => absurd (by decide) c_8)
        unfold mb_array_424
        unfold mb_array_425
        unfold mb_array_429
        exact hag_297 x1 x2 x3 x4 x7 (x8 + (1 : Int32)) (0 : Int32) (fup F 42 ((F 42) + (0 : Int32))) G g4 g5 (Or.inr (Or.inl ⟨rfl, h44, (by first | rfl | (simp only [h43, i_as])), (hR.trans (by first | rfl | (simp only [rarray, rsize, rarr2, rl_vals, rclose, h_6, h43, i_as, i10, eq_self, rb_yes, rb_no, ryes, rno, if_true, if_false, f_tt (p := True), reduceIte])))⟩))
    · skip
      exact absurd h44 (show ¬ ((F 44) = (0 : Int32)) from c_1)
  · skip
    unfold mb_array_384
    refine PP.ite (fun c_9 => ?_) (fun c_9 => ?_)
    · skip
      exact absurd (congrArg Int32.toInt (show (F 44) = (0 : Int32) from c_9)) (by have := hf; have l0 : (0 : Int32).toInt = 0 := rfl; omega)
    · skip
      unfold mb_array_407
      unfold mb_array_408
      refine PP.ite (fun _ => ?_) (fun c_10 => absurd (by decide) c_10)
      unfold mb_array_424
      unfold mb_array_425
      unfold mb_array_429
      exact hag_297 x1 x2 x3 x4 x7 (x8 + (1 : Int32)) (0 : Int32) (fup F 42 ((F 42) + (0 : Int32))) G g4 g5 (Or.inr (Or.inr ⟨rfl, hf, (hR.trans (by first | rfl | (simp only [rarray, rsize, rarr2, rl_vals, rclose, i_as, i10, eq_self, rb_yes, rb_no, ryes, rno, if_true, if_false, f_tt (p := True), reduceIte])))⟩))
theorem mrj_array_383 {fu : Nat} {K V : Nat → Int32} {F0 : PF} {R0 : OR} {n297 : Nat} (ag_297 : Int32 → Int32 → Int32 → Int32 → Int32 → Int32 → Int32 → PF → PG → PR) (hag_297 : ∀ (x1 : Int32) (x2 : Int32) (x3 : Int32) (x4 : Int32) (x7 : Int32) (x8 : Int32) (x9 : Int32) (F : PF) (G : PG) (g4 : G 4 = K) (g5 : G 5 = V) (hA : (x9 = 1 ∧ F 44 = 0 ∧ F 43 = ((F0 43) + (1 : Int32)) ∧ R0 = rl_vals K V fu (F 43) n297 (F 42)) ∨ (x9 = 0 ∧ F 44 = 0 ∧ F 43 = ((F0 43) + (1 : Int32)) ∧ R0 = rclose K V 27 (F 42)) ∨ (x9 = 0 ∧ 0 < (F 44).toInt ∧ R0 = rno)), PP (ag_297 x1 x2 x3 x4 x7 x8 x9 F G) (fun r' F' _ => ROK R0 F0 r' F')) (x1 : Int32) (x2 : Int32) (x3 : Int32) (x4 : Int32) (x7 : Int32) (x8 : Int32) (z0 : Int32) (z1 : Int32) (F : PF) (G : PG) (g4 : G 4 = K) (g5 : G 5 = V) (hA : (F 44 = 0 ∧ F 43 = ((F0 43) + (1 : Int32)) ∧ R0 = (if sgn K V (F 42) 28 = true then rl_vals K V fu (F 43) n297 ((F 42) + 1) else rclose K V 27 (F 42))) ∨ (0 < (F 44).toInt ∧ R0 = rno)) : PP (mb_array_383 fu ag_297 x1 x2 x3 x4 x7 x8 z0 z1 F G) (fun r' F' _ => ROK R0 F0 r' F') := by
  rcases hA with ⟨h44, h43, hR⟩ | ⟨hf, hR⟩
  · skip
    unfold mb_array_383
    refine PP.ix (fun _ => ?_)
    exact mrj_array_384 (F0 := F0) (R0 := R0) ag_297 hag_297 x1 x2 x3 x4 x7 x8 F (gup G 41 z1.toNatClampNeg z0) g4 g5 (Or.inl ⟨h44, (by first | rfl | (simp only [h43, i_as])), (hR.trans (by first | rfl | (simp only [rarray, rsize, rarr2, rl_vals, rclose, h43, i_as, i10, eq_self, rb_yes, rb_no, ryes, rno, if_true, if_false, f_tt (p := True), reduceIte])))⟩)
  · skip
    unfold mb_array_383
    refine PP.ix (fun _ => ?_)
    exact mrj_array_384 (F0 := F0) (R0 := R0) ag_297 hag_297 x1 x2 x3 x4 x7 x8 F (gup G 41 z1.toNatClampNeg z0) g4 g5 (Or.inr ⟨hf, (hR.trans (by first | rfl | (simp only [rarray, rsize, rarr2, rl_vals, rclose, i_as, i10, eq_self, rb_yes, rb_no, ryes, rno, if_true, if_false, f_tt (p := True), reduceIte])))⟩)
theorem mrj_array_345 {fu : Nat} {K V : Nat → Int32} {F0 : PF} {R0 : OR} {n297 : Nat} (ag_297 : Int32 → Int32 → Int32 → Int32 → Int32 → Int32 → Int32 → PF → PG → PR) (hag_297 : ∀ (x1 : Int32) (x2 : Int32) (x3 : Int32) (x4 : Int32) (x7 : Int32) (x8 : Int32) (x9 : Int32) (F : PF) (G : PG) (g4 : G 4 = K) (g5 : G 5 = V) (hA : (x9 = 1 ∧ F 44 = 0 ∧ F 43 = ((F0 43) + (1 : Int32)) ∧ R0 = rl_vals K V fu (F 43) n297 (F 42)) ∨ (x9 = 0 ∧ F 44 = 0 ∧ F 43 = ((F0 43) + (1 : Int32)) ∧ R0 = rclose K V 27 (F 42)) ∨ (x9 = 0 ∧ 0 < (F 44).toInt ∧ R0 = rno)), PP (ag_297 x1 x2 x3 x4 x7 x8 x9 F G) (fun r' F' _ => ROK R0 F0 r' F')) (x1 : Int32) (x2 : Int32) (x3 : Int32) (x4 : Int32) (x7 : Int32) (x8 : Int32) (x11 : Int32) (F : PF) (G : PG) (g4 : G 4 = K) (g5 : G 5 = V) (hA : (F 44 = 0 ∧ F 43 = ((F0 43) + (1 : Int32)) ∧ R0 = (if sgn K V (F 42) 28 = true then rl_vals K V fu (F 43) n297 ((F 42) + 1) else rclose K V 27 (F 42))) ∨ (0 < (F 44).toInt ∧ R0 = rno)) : PP (mb_array_345 fu ag_297 x1 x2 x3 x4 x7 x8 x11 F G) (fun r' F' _ => ROK R0 F0 r' F') := by
  rcases hA with ⟨h44, h43, hR⟩ | ⟨hf, hR⟩
  · skip
    unfold mb_array_345
    refine PP.ite (fun c_1 => ?_) (fun c_1 => ?_)
    · skip
      exact mrj_array_384 (F0 := F0) (R0 := R0) ag_297 hag_297 x1 x2 x3 x4 x7 x8 F G g4 g5 (Or.inl ⟨h44, (by first | rfl | (simp only [h43, i_as])), (hR.trans (by first | rfl | (simp only [rarray, rsize, rarr2, rl_vals, rclose, h43, i_as, i10, eq_self, rb_yes, rb_no, ryes, rno, if_true, if_false, f_tt (p := True), reduceIte])))⟩)
    · skip
      unfold mb_array_352
      refine PP.ite (fun c_2 => ?_) (fun c_2 => ?_)
      · skip
        exact mrj_array_384 (F0 := F0) (R0 := R0) ag_297 hag_297 x1 x2 x3 x4 x7 x8 F G g4 g5 (Or.inl ⟨h44, (by first | rfl | (simp only [h43, i_as])), (hR.trans (by first | rfl | (simp only [rarray, rsize, rarr2, rl_vals, rclose, h43, i_as, i10, eq_self, rb_yes, rb_no, ryes, rno, if_true, if_false, f_tt (p := True), reduceIte])))⟩)
      · skip
        unfold mb_array_359
        refine PP.ite (fun c_3 => ?_) (fun c_3 => ?_)
        · skip
          unfold mb_array_381
          exact mrj_array_383 (F0 := F0) (R0 := R0) ag_297 hag_297 x1 x2 x3 x4 x7 x8 x11 (x4 + x8) F G g4 g5 (Or.inl ⟨h44, (by first | rfl | (simp only [h43, i_as])), (hR.trans (by first | rfl | (simp only [rarray, rsize, rarr2, rl_vals, rclose, h43, i_as, i10, eq_self, rb_yes, rb_no, ryes, rno, if_true, if_false, f_tt (p := True), reduceIte])))⟩)
        · skip
          unfold mb_array_372
          exact mrj_array_383 (F0 := F0) (R0 := R0) ag_297 hag_297 x1 x2 x3 x4 x7 x8 (x11 &&& (255 : Int32)) (x4 + x8) F G g4 g5 (Or.inl ⟨h44, (by first | rfl | (simp only [h43, i_as])), (hR.trans (by first | rfl | (simp only [rarray, rsize, rarr2, rl_vals, rclose, h43, i_as, i10, eq_self, rb_yes, rb_no, ryes, rno, if_true, if_false, f_tt (p := True), reduceIte])))⟩)
  · skip
    unfold mb_array_345
    refine PP.ite (fun c_4 => ?_) (fun c_4 => ?_)
    · skip
      exact mrj_array_384 (F0 := F0) (R0 := R0) ag_297 hag_297 x1 x2 x3 x4 x7 x8 F G g4 g5 (Or.inr ⟨hf, (hR.trans (by first | rfl | (simp only [rarray, rsize, rarr2, rl_vals, rclose, i_as, i10, eq_self, rb_yes, rb_no, ryes, rno, if_true, if_false, f_tt (p := True), reduceIte])))⟩)
    · skip
      unfold mb_array_352
      refine PP.ite (fun c_5 => ?_) (fun c_5 => ?_)
      · skip
        exact mrj_array_384 (F0 := F0) (R0 := R0) ag_297 hag_297 x1 x2 x3 x4 x7 x8 F G g4 g5 (Or.inr ⟨hf, (hR.trans (by first | rfl | (simp only [rarray, rsize, rarr2, rl_vals, rclose, i_as, i10, eq_self, rb_yes, rb_no, ryes, rno, if_true, if_false, f_tt (p := True), reduceIte])))⟩)
      · skip
        unfold mb_array_359
        refine PP.ite (fun c_6 => ?_) (fun c_6 => ?_)
        · skip
          unfold mb_array_381
          exact mrj_array_383 (F0 := F0) (R0 := R0) ag_297 hag_297 x1 x2 x3 x4 x7 x8 x11 (x4 + x8) F G g4 g5 (Or.inr ⟨hf, (hR.trans (by first | rfl | (simp only [rarray, rsize, rarr2, rl_vals, rclose, i_as, i10, eq_self, rb_yes, rb_no, ryes, rno, if_true, if_false, f_tt (p := True), reduceIte])))⟩)
        · skip
          unfold mb_array_372
          exact mrj_array_383 (F0 := F0) (R0 := R0) ag_297 hag_297 x1 x2 x3 x4 x7 x8 (x11 &&& (255 : Int32)) (x4 + x8) F G g4 g5 (Or.inr ⟨hf, (hR.trans (by first | rfl | (simp only [rarray, rsize, rarr2, rl_vals, rclose, i_as, i10, eq_self, rb_yes, rb_no, ryes, rno, if_true, if_false, f_tt (p := True), reduceIte])))⟩)
theorem mrj_array_459 {fu : Nat} {K V : Nat → Int32} {F0 : PF} {R0 : OR} (z0 : Int32) (z1 : Int32) (z2 : Int32) (z3 : Int32) (z4 : Int32) (F : PF) (G : PG) (g4 : G 4 = K) (g5 : G 5 = V) (hA : (F 44 = 0 ∧ F 43 = F0 43 ∧ R0 = ryes (F 42))) : PP (mb_array_459 fu z0 z1 z2 z3 z4 F G) (fun r' F' _ => ROK R0 F0 r' F') := by
  rcases hA with ⟨h44, h43, hR⟩
  · skip
    unfold mb_array_459
    refine PP.bind (mw_declare z4 z3 z2 z1 z0 (0 : Int32) F G) ?_
    intro r1 F1 G1 hK1
    dsimp only
    have g_2 : G1 4 = K := Eq.trans (hK1.2 4 rfl) g4
    have g_3 : G1 5 = V := Eq.trans (hK1.2 5 rfl) g5
    have q_4 : F1 42 = (F 42) := hK1.1 42 rfl
    have q_5 : F1 43 = (F0 43) := Eq.trans (hK1.1 43 rfl) (show (F 43) = (F0 43) by simp only [h43, i_as])
    have q_6 : F1 44 = 0 := Eq.trans (hK1.1 44 rfl) h44
    unfold mb_array_463
    refine PP.ret ?_
    refine Or.inl ⟨rfl, q_6, ?_, hR.trans ?_⟩
    · show (F1 43) = F0 43
      first | rfl | (simp only [q_4, q_5, i_as])
    · show _ = some (some (F1 42))
      first | rfl | (simp only [rarray, rsize, rarr2, rl_vals, rclose, q_4, q_5, i_as, i10, eq_self, rb_yes, rb_no, ryes, rno, if_true, if_false, f_tt (p := True), reduceIte])
theorem mrj_array_443 {fu : Nat} {K V : Nat → Int32} {F0 : PF} {R0 : OR} (x1 : Int32) (x2 : Int32) (x3 : Int32) (x4 : Int32) (F : PF) (G : PG) (g4 : G 4 = K) (g5 : G 5 = V) (hA : (F 44 = 0 ∧ F 43 = F0 43 ∧ R0 = ryes (F 42))) : PP (mb_array_443 fu x1 x2 x3 x4 F G) (fun r' F' _ => ROK R0 F0 r' F') := by
  rcases hA with ⟨h44, h43, hR⟩
  · skip
    unfold mb_array_443
    refine PP.ite (fun c_1 => ?_) (fun c_1 => ?_)
    · skip
      unfold mb_array_454
      exact mrj_array_459 (F0 := F0) (R0 := R0) (1 : Int32) x4 x2 (2 : Int32) x1 F G g4 g5 ⟨h44, (by first | rfl | (simp only [h43, i_as])), (hR.trans (by first | rfl | (simp only [rarray, rsize, rarr2, rl_vals, rclose, h43, i_as, i10, eq_self, rb_yes, rb_no, ryes, rno, if_true, if_false, f_tt (p := True), reduceIte])))⟩
    · skip
      unfold mb_array_458
      exact mrj_array_459 (F0 := F0) (R0 := R0) x3 x4 x2 (2 : Int32) x1 F G g4 g5 ⟨h44, (by first | rfl | (simp only [h43, i_as])), (hR.trans (by first | rfl | (simp only [rarray, rsize, rarr2, rl_vals, rclose, h43, i_as, i10, eq_self, rb_yes, rb_no, ryes, rno, if_true, if_false, f_tt (p := True), reduceIte])))⟩
theorem mrz_array_297 {fu : Nat} {K V : Nat → Int32} {F0 : PF} {R0 : OR} : ∀ (n : Nat) (x1 : Int32) (x2 : Int32) (x3 : Int32) (x4 : Int32) (x7 : Int32) (x8 : Int32) (x9 : Int32) (F : PF) (G : PG) (g4 : G 4 = K) (g5 : G 5 = V) (hA : (x9 = 1 ∧ F 44 = 0 ∧ F 43 = ((F0 43) + (1 : Int32)) ∧ R0 = rl_vals K V fu (F 43) n (F 42)) ∨ (x9 = 0 ∧ F 44 = 0 ∧ F 43 = ((F0 43) + (1 : Int32)) ∧ R0 = rclose K V 27 (F 42)) ∨ (x9 = 0 ∧ 0 < (F 44).toInt ∧ R0 = rno)), PP (ml_array_297 fu n x1 x2 x3 x4 x7 x8 x9 F G) (fun r' F' _ => ROK R0 F0 r' F') := by
  intro n
  induction n with
  | zero =>
    intro x1 x2 x3 x4 x7 x8 x9 F G g4 g5 hA
    exact PP.no
  | succ n ihn =>
    intro x1 x2 x3 x4 x7 x8 x9 F G g4 g5 hA
    show PP (mb_array_297 fu (ml_array_297 fu n) x1 x2 x3 x4 x7 x8 x9 F G) _
    rcases hA with ⟨rfl, h44, h43, hR⟩ | ⟨rfl, h44, h43, hR⟩ | ⟨rfl, hf, hR⟩
    · skip
      unfold mb_array_297
      refine PP.ite (fun c_1 => absurd c_1 (by decide)) (fun _ => ?_)
      unfold mb_array_302
      refine PP.ite (fun c_2 => ?_) (fun c_2 => ?_)
      · skip
        unfold mb_array_309
        refine PP.ix (fun _ => ?_)
        refine PP.bind (PP.and (mw_value F G) (mr_value F G g4 g5 (show F 44 = 0 from h44))) ?_
        rintro r3 F3 G3 ⟨hK3, (⟨-, h3a, h3b, h3⟩ | ⟨-, h3a, h3⟩)⟩
        · dsimp only
          have g_4 : G3 4 = K := Eq.trans (hK3.2 4 rfl) g4
          have g_5 : G3 5 = V := Eq.trans (hK3.2 5 rfl) g5
          have h_6 : rS1 K V fu 300 4 (F 42) ((F0 43) + (1 : Int32)) = some (some (F3 42)) := by
            have q : rS1 K V fu 300 4 (F 42) (F 43) = some (some (F3 42)) := h3
            simp only [h43, i_as] at q; exact q
          have q_7 : F3 43 = ((F0 43) + (1 : Int32)) := by
            have q := (show F3 43 = (F 43) from h3b)
            simp only [h43, i_as] at q; exact q
          unfold mb_array_324
          refine PP.ite (fun c_8 => ?_) (fun c_8 => ?_)
          · skip
            exact mrj_array_345 (F0 := F0) (R0 := R0) (ml_array_297 fu n) ihn x1 x2 x3 x4 x7 x8 r3 F3 G3 g_4 g_5 (Or.inl ⟨h3a, (by first | rfl | (simp only [q_7, i_as])), (hR.trans (by first | rfl | (simp only [rarray, rsize, rarr2, rl_vals, rclose, h_6, q_7, i_as, i10, eq_self, rb_yes, rb_no, ryes, rno, if_true, if_false, f_tt (p := True), reduceIte])))⟩)
          · skip
            unfold mb_array_331
            refine PP.ite (fun c_9 => ?_) (fun c_9 => ?_)
            · skip
              unfold mb_array_337
              refine PP.bind (mw_note (10 : Int32) (G 6 (F 42).toNatClampNeg) F3 G3) ?_
              intro r10 F10 G10 hK10
              dsimp only
              have g_11 : G10 4 = K := Eq.trans (hK10.2 4 rfl) g_4
              have g_12 : G10 5 = V := Eq.trans (hK10.2 5 rfl) g_5
              have q_13 : F10 42 = (F3 42) := hK10.1 42 rfl
              have q_14 : F10 43 = ((F0 43) + (1 : Int32)) := Eq.trans (hK10.1 43 rfl) (show (F3 43) = ((F0 43) + (1 : Int32)) by simp only [q_7, i_as])
              have q_15 : F10 44 = 0 := Eq.trans (hK10.1 44 rfl) h3a
              exact mrj_array_345 (F0 := F0) (R0 := R0) (ml_array_297 fu n) ihn x1 x2 x3 x4 x7 x8 r3 F10 G10 g_11 g_12 (Or.inl ⟨q_15, (by first | rfl | (simp only [q_13, q_14, i_as])), (hR.trans (by first | rfl | (simp only [rarray, rsize, rarr2, rl_vals, rclose, h_6, q_13, q_14, i_as, i10, eq_self, rb_yes, rb_no, ryes, rno, if_true, if_false, f_tt (p := True), reduceIte])))⟩)
            · skip
              exact mrj_array_345 (F0 := F0) (R0 := R0) (ml_array_297 fu n) ihn x1 x2 x3 x4 x7 x8 r3 F3 G3 g_4 g_5 (Or.inl ⟨h3a, (by first | rfl | (simp only [q_7, i_as])), (hR.trans (by first | rfl | (simp only [rarray, rsize, rarr2, rl_vals, rclose, h_6, q_7, i_as, i10, eq_self, rb_yes, rb_no, ryes, rno, if_true, if_false, f_tt (p := True), reduceIte])))⟩)
        · dsimp only
          have g_16 : G3 4 = K := Eq.trans (hK3.2 4 rfl) g4
          have g_17 : G3 5 = V := Eq.trans (hK3.2 5 rfl) g5
          have h_18 : rS1 K V fu 300 4 (F 42) ((F0 43) + (1 : Int32)) = some (none) := by
            have q : rS1 K V fu 300 4 (F 42) (F 43) = some (none) := h3
            simp only [h43, i_as] at q; exact q
          unfold mb_array_324
          refine PP.ite (fun c_19 => ?_) (fun c_19 => ?_)
          · skip
            exact mrj_array_345 (F0 := F0) (R0 := R0) (ml_array_297 fu n) ihn x1 x2 x3 x4 x7 x8 r3 F3 G3 g_16 g_17 (Or.inr ⟨h3a, (hR.trans (by first | rfl | (simp only [rarray, rsize, rarr2, rl_vals, rclose, h_18, i_as, i10, eq_self, rb_yes, rb_no, ryes, rno, if_true, if_false, f_tt (p := True), reduceIte])))⟩)
          · skip
            unfold mb_array_331
            refine PP.ite (fun c_20 => ?_) (fun c_20 => ?_)
            · skip
              unfold mb_array_337
              refine PP.bind (mw_note (10 : Int32) (G 6 (F 42).toNatClampNeg) F3 G3) ?_
              intro r21 F21 G21 hK21
              dsimp only
              have g_22 : G21 4 = K := Eq.trans (hK21.2 4 rfl) g_16
              have g_23 : G21 5 = V := Eq.trans (hK21.2 5 rfl) g_17
              have q_24 : F21 42 = (F3 42) := hK21.1 42 rfl
              have q_25 : F21 43 = (F3 43) := hK21.1 43 rfl
              have q_26 : 0 < (F21 44).toInt := by rw [show F21 44 = (F3 44) from hK21.1 44 rfl]; exact h3a
              exact mrj_array_345 (F0 := F0) (R0 := R0) (ml_array_297 fu n) ihn x1 x2 x3 x4 x7 x8 r3 F21 G21 g_22 g_23 (Or.inr ⟨q_26, (hR.trans (by first | rfl | (simp only [rarray, rsize, rarr2, rl_vals, rclose, h_18, q_24, q_25, i_as, i10, eq_self, rb_yes, rb_no, ryes, rno, if_true, if_false, f_tt (p := True), reduceIte])))⟩)
            · skip
              exact mrj_array_345 (F0 := F0) (R0 := R0) (ml_array_297 fu n) ihn x1 x2 x3 x4 x7 x8 r3 F3 G3 g_16 g_17 (Or.inr ⟨h3a, (hR.trans (by first | rfl | (simp only [rarray, rsize, rarr2, rl_vals, rclose, h_18, i_as, i10, eq_self, rb_yes, rb_no, ryes, rno, if_true, if_false, f_tt (p := True), reduceIte])))⟩)
      · skip
        exact absurd h44 (show ¬ ((F 44) = (0 : Int32)) from c_2)
    · skip
      unfold mb_array_297
      refine PP.ite (fun _ => ?_) (fun c_27 => absurd (by decide) c_27)
      unfold mb_array_432
      refine PP.bind (mp_closeSign (27 : Int32) F G) ?_
      rintro r28 F28 G28 (⟨rfl, rfl, rfl, h28⟩ | ⟨rfl, h28, h28b⟩)
      · dsimp only
        have h_29 : sgn K V (F 42) (27 : Int32) = true := by
          rw [← g4, ← g5]
          have q := h28.1
          first | exact q | (simp only [h43, i_as] at q; exact q) | (simp only [h43, i_as] at q ⊢; exact q)
        unfold mb_array_438
        refine PP.ite (fun c_30 => absurd c_30 (by decide)) (fun _ => ?_)
        exact mrj_array_443 (F0 := F0) (R0 := R0) x1 x2 x3 x4 (fup (fup F 42 ((F 42) + (1 : Int32))) 43 ((F 43) - (1 : Int32))) G g4 g5 ⟨h44, (by first | rfl | (simp only [h43, i_as])), (hR.trans (by first | rfl | (simp only [rarray, rsize, rarr2, rl_vals, rclose, h_29, h43, i_as, i10, eq_self, rb_yes, rb_no, ryes, rno, if_true, if_false, f_tt (p := True), reduceIte])))⟩
      · dsimp only
        have g_31 : G28 4 = K := Eq.trans (h28.2.2.2 4 rfl) g4
        have g_32 : G28 5 = V := Eq.trans (h28.2.2.2 5 rfl) g5
        have q_33 : F28 42 = (F 42) := h28.2.2.1 42 rfl
        have q_34 : F28 43 = ((F0 43) + (1 : Int32)) := Eq.trans (h28.2.2.1 43 rfl) (show (F 43) = ((F0 43) + (1 : Int32)) by simp only [h43, i_as])
        rcases h28b with q | q
        · exact absurd q (by rw [h44]; decide)
        · skip
          have h_35 : sgn K V (F 42) (27 : Int32) = false := by
            rw [← g4, ← g5]
            have q := q
            first | exact q | (simp only [h43, i_as] at q; exact q) | (simp only [h43, i_as] at q ⊢; exact q)
          unfold mb_array_438
          refine PP.ite (fun _ => ?_) (fun c_36 => absurd (by decide) c_36)
          unfold mb_array_441
          refine PP.ret ?_
          refine Or.inr ⟨rfl, h28.1, hR.trans ?_⟩
          first | rfl | (simp only [rarray, rsize, rarr2, rl_vals, rclose, h_35, q_33, q_34, i_as, i10, eq_self, rb_yes, rb_no, ryes, rno, if_true, if_false, f_tt (p := True), reduceIte])
    · skip
      unfold mb_array_297
      refine PP.ite (fun _ => ?_) (fun c_37 => absurd (by decide) c_37)
      unfold mb_array_432
      refine PP.bind (mp_closeSign (27 : Int32) F G) ?_
      rintro r38 F38 G38 (⟨rfl, rfl, rfl, h38⟩ | ⟨rfl, h38, h38b⟩)
      · dsimp only
        exact absurd hf h38.2
      · dsimp only
        have g_39 : G38 4 = K := Eq.trans (h38.2.2.2 4 rfl) g4
        have g_40 : G38 5 = V := Eq.trans (h38.2.2.2 5 rfl) g5
        have q_41 : F38 42 = (F 42) := h38.2.2.1 42 rfl
        have q_42 : F38 43 = (F 43) := h38.2.2.1 43 rfl
        unfold mb_array_438
        refine PP.ite (fun _ => ?_) (fun c_43 => absurd (by decide) c_43)
        unfold mb_array_441
        refine PP.ret ?_
        refine Or.inr ⟨rfl, h38.1, hR.trans ?_⟩
        first | rfl | (simp only [rarray, rsize, rarr2, rl_vals, rclose, q_41, q_42, i_as, i10, eq_self, rb_yes, rb_no, ryes, rno, if_true, if_false, f_tt (p := True), reduceIte])
theorem mrz_array_224 {fu : Nat} {K V : Nat → Int32} {F0 : PF} {R0 : OR} : ∀ (n : Nat) (x1 : Int32) (x2 : Int32) (x3 : Int32) (x4 : Int32) (x7 : Int32) (x8 : Int32) (F : PF) (G : PG) (g4 : G 4 = K) (g5 : G 5 = V) (hA : (F 44 = 0 ∧ F 43 = F0 43 ∧ R0 = rarr2 K V fu (F 42) (F 43))), PP (ml_array_224 fu n x1 x2 x3 x4 x7 x8 F G) (fun r' F' _ => ROK R0 F0 r' F') := by
  intro n
  induction n with
  | zero =>
    intro x1 x2 x3 x4 x7 x8 F G g4 g5 hA
    exact PP.no
  | succ n ihn =>
    intro x1 x2 x3 x4 x7 x8 F G g4 g5 hA
    show PP (mb_array_224 fu (ml_array_224 fu n) x1 x2 x3 x4 x7 x8 F G) _
    rcases hA with ⟨h44, h43, hR⟩
    · skip
      unfold mb_array_224
      refine PP.ite (fun c_1 => ?_) (fun c_1 => ?_)
      · skip
        unfold mb_array_250
        unfold mb_array_261
        refine PP.bind (mp_isSign (32 : Int32) (fup F 37 ((F 37) + x7)) G) ?_
        rintro _ _ _ ⟨rfl, rfl, (⟨rfl, h2⟩ | ⟨rfl, h2⟩)⟩
        · dsimp only
          have h_3 : sgn K V (F 42) (32 : Int32) = true := by
            rw [← g4, ← g5]
            have q := h2
            first | exact q | (simp only [h43, i_as] at q; exact q) | (simp only [h43, i_as] at q ⊢; exact q)
          unfold mb_array_267
          refine PP.ite (fun c_4 => absurd c_4 (by decide)) (fun _ => ?_)
          unfold mb_array_270
          unfold mb_array_280
          refine PP.bind (mp_openSign (26 : Int32) (fup (fup F 37 ((F 37) + x7)) 42 ((F 42) + (1 : Int32))) G) ?_
          rintro r5 F5 G5 (⟨rfl, rfl, rfl, h5⟩ | ⟨rfl, h5, h5b⟩)
          · dsimp only
            have h_6 : sgn K V ((F 42) + (1 : Int32)) (26 : Int32) = true := by
              rw [← g4, ← g5]
              have q := h5.1
              first | exact q | (simp only [h43, i_as] at q; exact q) | (simp only [h43, i_as] at q ⊢; exact q)
            have h_7 : ¬ (F0 43) = 40 := by
              have q : ¬ (F 43) = 40 := h5.2.1
              simp only [h43, i_as] at q; exact q
            unfold mb_array_286
            refine PP.ite (fun c_8 => absurd c_8 (by decide)) (fun _ => ?_)
            unfold mb_array_291
            exact mrz_array_297 (F0 := F0) (R0 := R0) fu x1 x2 x3 x4 x7 (0 : Int32) (1 : Int32) (fup (fup (fup (fup F 37 ((F 37) + x7)) 42 ((F 42) + (1 : Int32))) 43 ((F 43) + (1 : Int32))) 42 (((F 42) + (1 : Int32)) + (1 : Int32))) G g4 g5 (Or.inl ⟨rfl, h44, (by first | rfl | (simp only [h43, i_as])), (hR.trans (by first | rfl | (simp only [rarray, rsize, rarr2, rl_vals, rclose, h_3, h_6, h_7, h43, i_as, i10, eq_self, rb_yes, rb_no, ryes, rno, if_true, if_false, f_tt (p := True), reduceIte])))⟩)
          · dsimp only
            have g_9 : G5 4 = K := Eq.trans (h5.2.2.2 4 rfl) g4
            have g_10 : G5 5 = V := Eq.trans (h5.2.2.2 5 rfl) g5
            have q_11 : F5 42 = ((F 42) + (1 : Int32)) := h5.2.2.1 42 rfl
            have q_12 : F5 43 = (F0 43) := Eq.trans (h5.2.2.1 43 rfl) (show (F 43) = (F0 43) by simp only [h43, i_as])
            rcases h5b with q | q | ⟨q, q1⟩
            · exact absurd q (by rw [h44]; decide)
            · skip
              have h_13 : sgn K V ((F 42) + (1 : Int32)) (26 : Int32) = false := by
                rw [← g4, ← g5]
                have q := q
                first | exact q | (simp only [h43, i_as] at q; exact q) | (simp only [h43, i_as] at q ⊢; exact q)
              unfold mb_array_286
              refine PP.ite (fun _ => ?_) (fun c_14 => absurd (by decide) c_14)
              unfold mb_array_289
              refine PP.ret ?_
              refine Or.inr ⟨rfl, h5.1, hR.trans ?_⟩
              first | rfl | (simp only [rarray, rsize, rarr2, rl_vals, rclose, h_3, h_13, q_11, q_12, i_as, i10, eq_self, rb_yes, rb_no, ryes, rno, if_true, if_false, f_tt (p := True), reduceIte])
            · skip
              have h_15 : sgn K V ((F 42) + (1 : Int32)) (26 : Int32) = true := by
                rw [← g4, ← g5]
                have q := q
                first | exact q | (simp only [h43, i_as] at q; exact q) | (simp only [h43, i_as] at q ⊢; exact q)
              have h_16 : (F0 43) = 40 := by
                have q : (F 43) = 40 := q1
                simp only [h43, i_as] at q; exact q
              unfold mb_array_286
              refine PP.ite (fun _ => ?_) (fun c_17 => absurd (by decide) c_17)
              unfold mb_array_289
              refine PP.ret ?_
              refine Or.inr ⟨rfl, h5.1, hR.trans ?_⟩
              first | rfl | (simp only [rarray, rsize, rarr2, rl_vals, rclose, h_3, h_15, h_16, q_11, q_12, i_as, i10, eq_self, rb_yes, rb_no, ryes, rno, if_true, if_false, f_tt (p := True), reduceIte])
        · dsimp only
          have h_18 : sgn K V (F 42) (32 : Int32) = false := by
            rw [← g4, ← g5]
            have q := h2
            first | exact q | (simp only [h43, i_as] at q; exact q) | (simp only [h43, i_as] at q ⊢; exact q)
          unfold mb_array_267
          refine PP.ite (fun _ => ?_) (fun c_19 => absurd (by decide) c_19)
          exact mrj_array_443 (F0 := F0) (R0 := R0) x1 x2 x3 x4 (fup F 37 ((F 37) + x7)) G g4 g5 ⟨h44, (by first | rfl | (simp only [h43, i_as])), (hR.trans (by first | rfl | (simp only [rarray, rsize, rarr2, rl_vals, rclose, h_18, h43, i_as, i10, eq_self, rb_yes, rb_no, ryes, rno, if_true, if_false, f_tt (p := True), reduceIte])))⟩
      · skip
        unfold mb_array_231
        refine PP.ix (fun _ => ?_)
        unfold mb_array_244
        exact ihn x1 x2 x3 x4 x7 (x8 + (1 : Int32)) F (gup G 41 ((F 37) + x8).toNatClampNeg (0 : Int32)) g4 g5 ⟨h44, (by first | rfl | (simp only [h43, i_as])), (hR.trans (by first | rfl | (simp only [rarray, rsize, rarr2, rl_vals, rclose, h43, i_as, i10, eq_self, rb_yes, rb_no, ryes, rno, if_true, if_false, f_tt (p := True), reduceIte])))⟩
theorem mrj_array_219 {fu : Nat} {K V : Nat → Int32} {F0 : PF} {R0 : OR} (x1 : Int32) (x2 : Int32) (x3 : Int32) (x4 : Int32) (z0 : Int32) (F : PF) (G : PG) (g4 : G 4 = K) (g5 : G 5 = V) (hA : (F 44 = 0 ∧ F 43 = F0 43 ∧ R0 = rarr2 K V fu (F 42) (F 43))) : PP (mb_array_219 fu x1 x2 x3 x4 z0 F G) (fun r' F' _ => ROK R0 F0 r' F') := by
  rcases hA with ⟨h44, h43, hR⟩
  · skip
    unfold mb_array_219
    exact mrz_array_224 (F0 := F0) (R0 := R0) fu x1 x2 x3 x4 z0 (0 : Int32) F G g4 g5 ⟨h44, (by first | rfl | (simp only [h43, i_as])), (hR.trans (by first | rfl | (simp only [rarray, rsize, rarr2, rl_vals, rclose, h43, i_as, i10, eq_self, rb_yes, rb_no, ryes, rno, if_true, if_false, f_tt (p := True), reduceIte])))⟩
theorem mrj_array_214 {fu : Nat} {K V : Nat → Int32} {F0 : PF} {R0 : OR} (x1 : Int32) (x2 : Int32) (x3 : Int32) (x4 : Int32) (F : PF) (G : PG) (g4 : G 4 = K) (g5 : G 5 = V) (hA : (F 44 = 0 ∧ F 43 = F0 43 ∧ R0 = rarr2 K V fu (F 42) (F 43))) : PP (mb_array_214 fu x1 x2 x3 x4 F G) (fun r' F' _ => ROK R0 F0 r' F') := by
  rcases hA with ⟨h44, h43, hR⟩
  · skip
    unfold mb_array_214
    exact mrj_array_219 (F0 := F0) (R0 := R0) x1 x2 x3 x4 (0 : Int32) F G g4 g5 ⟨h44, (by first | rfl | (simp only [h43, i_as])), (hR.trans (by first | rfl | (simp only [rarray, rsize, rarr2, rl_vals, rclose, h43, i_as, i10, eq_self, rb_yes, rb_no, ryes, rno, if_true, if_false, f_tt (p := True), reduceIte])))⟩
theorem mrj_array_193 {fu : Nat} {K V : Nat → Int32} {F0 : PF} {R0 : OR} (x1 : Int32) (x2 : Int32) (x3 : Int32) (x4 : Int32) (x5 : Int32) (x6 : Int32) (F : PF) (G : PG) (g4 : G 4 = K) (g5 : G 5 = V) (hA : (F 44 = 0 ∧ F 43 = F0 43 ∧ R0 = rarr2 K V fu (F 42) (F 43))) : PP (mb_array_193 fu x1 x2 x3 x4 x5 x6 F G) (fun r' F' _ => ROK R0 F0 r' F') := by
  rcases hA with ⟨h44, h43, hR⟩
  · skip
    unfold mb_array_193
    unfold mb_array_204
    refine PP.ite (fun c_1 => ?_) (fun c_1 => ?_)
    · skip
      exact mrj_array_214 (F0 := F0) (R0 := R0) x1 x2 x3 x4 (fup F 36 ((F 36) + x5)) G g4 g5 ⟨h44, (by first | rfl | (simp only [h43, i_as])), (hR.trans (by first | rfl | (simp only [rarray, rsize, rarr2, rl_vals, rclose, h43, i_as, i10, eq_self, rb_yes, rb_no, ryes, rno, if_true, if_false, f_tt (p := True), reduceIte])))⟩
    · skip
      unfold mb_array_209
      refine PP.ite (fun c_2 => ?_) (fun c_2 => ?_)
      · skip
        exact mrj_array_214 (F0 := F0) (R0 := R0) x1 x2 x3 x4 (fup F 36 ((F 36) + x5)) G g4 g5 ⟨h44, (by first | rfl | (simp only [h43, i_as])), (hR.trans (by first | rfl | (simp only [rarray, rsize, rarr2, rl_vals, rclose, h43, i_as, i10, eq_self, rb_yes, rb_no, ryes, rno, if_true, if_false, f_tt (p := True), reduceIte])))⟩
      · skip
        unfold mb_array_218
        exact mrj_array_219 (F0 := F0) (R0 := R0) x1 x2 x3 x4 x3 (fup F 36 ((F 36) + x5)) G g4 g5 ⟨h44, (by first | rfl | (simp only [h43, i_as])), (hR.trans (by first | rfl | (simp only [rarray, rsize, rarr2, rl_vals, rclose, h43, i_as, i10, eq_self, rb_yes, rb_no, ryes, rno, if_true, if_false, f_tt (p := True), reduceIte])))⟩
theorem mrj_array_186 {fu : Nat} {K V : Nat → Int32} {F0 : PF} {R0 : OR} {n102 : Nat} (ag_102 : Int32 → Int32 → Int32 → Int32 → Int32 → Int32 → Int32 → PF → PG → PR) (hag_102 : ∀ (x1 : Int32) (x2 : Int32) (x3 : Int32) (x4 : Int32) (x5 : Int32) (x6 : Int32) (x7 : Int32) (F : PF) (G : PG) (g4 : G 4 = K) (g5 : G 5 = V) (hA : (F 44 = 0 ∧ F 43 = F0 43 ∧ R0 = rarr2 K V fu (F 42) (F 43))), PP (ag_102 x1 x2 x3 x4 x5 x6 x7 F G) (fun r' F' _ => ROK R0 F0 r' F')) (x1 : Int32) (x2 : Int32) (x3 : Int32) (x4 : Int32) (x5 : Int32) (x6 : Int32) (x7 : Int32) (z0 : Int32) (z1 : Int32) (F : PF) (G : PG) (g4 : G 4 = K) (g5 : G 5 = V) (hA : (F 44 = 0 ∧ F 43 = F0 43 ∧ R0 = rarr2 K V fu (F 42) (F 43))) : PP (mb_array_186 fu ag_102 x1 x2 x3 x4 x5 x6 x7 z0 z1 F G) (fun r' F' _ => ROK R0 F0 r' F') := by
  rcases hA with ⟨h44, h43, hR⟩
  · skip
    unfold mb_array_186
    refine PP.ix (fun _ => ?_)
    unfold mb_array_187
    exact hag_102 x1 x2 x3 x4 x5 x6 (x7 + (1 : Int32)) F (gup G 38 z1.toNatClampNeg z0) g4 g5 ⟨h44, (by first | rfl | (simp only [h43, i_as])), (hR.trans (by first | rfl | (simp only [rarray, rsize, rarr2, rl_vals, rclose, h43, i_as, i10, eq_self, rb_yes, rb_no, ryes, rno, if_true, if_false, f_tt (p := True), reduceIte])))⟩
theorem mrj_array_142 {fu : Nat} {K V : Nat → Int32} {F0 : PF} {R0 : OR} {n102 : Nat} (ag_102 : Int32 → Int32 → Int32 → Int32 → Int32 → Int32 → Int32 → PF → PG → PR) (hag_102 : ∀ (x1 : Int32) (x2 : Int32) (x3 : Int32) (x4 : Int32) (x5 : Int32) (x6 : Int32) (x7 : Int32) (F : PF) (G : PG) (g4 : G 4 = K) (g5 : G 5 = V) (hA : (F 44 = 0 ∧ F 43 = F0 43 ∧ R0 = rarr2 K V fu (F 42) (F 43))), PP (ag_102 x1 x2 x3 x4 x5 x6 x7 F G) (fun r' F' _ => ROK R0 F0 r' F')) (x1 : Int32) (x2 : Int32) (x3 : Int32) (x4 : Int32) (x5 : Int32) (x6 : Int32) (x7 : Int32) (z0 : Int32) (z1 : Int32) (z2 : Int32) (F : PF) (G : PG) (g4 : G 4 = K) (g5 : G 5 = V) (hA : (F 44 = 0 ∧ F 43 = F0 43 ∧ R0 = rarr2 K V fu (F 42) (F 43))) : PP (mb_array_142 fu ag_102 x1 x2 x3 x4 x5 x6 x7 z0 z1 z2 F G) (fun r' F' _ => ROK R0 F0 r' F') := by
  rcases hA with ⟨h44, h43, hR⟩
  · skip
    unfold mb_array_142
    refine PP.ix (fun _ => ?_)
    unfold mb_array_144
    refine PP.ix (fun _ => ?_)
    unfold mb_array_157
    refine PP.ite (fun c_1 => ?_) (fun c_1 => ?_)
    · skip
      unfold mb_array_185
      exact mrj_array_186 (F0 := F0) (R0 := R0) ag_102 hag_102 x1 x2 x3 x4 x5 x6 x7 (1 : Int32) ((F 36) + x7) F (gup (gup G 39 z2.toNatClampNeg (z1 + z0)) 40 ((F 36) + x7).toNatClampNeg (vp_nar .boolean x2)) g4 g5 ⟨h44, (by first | rfl | (simp only [h43, i_as])), (hR.trans (by first | rfl | (simp only [rarray, rsize, rarr2, rl_vals, rclose, h43, i_as, i10, eq_self, rb_yes, rb_no, ryes, rno, if_true, if_false, f_tt (p := True), reduceIte])))⟩
    · skip
      unfold mb_array_172
      unfold mb_array_182
      exact mrj_array_186 (F0 := F0) (R0 := R0) ag_102 hag_102 x1 x2 x3 x4 x5 x6 x7 (if (x3 - ((4 : Int32) * x7)) < (4 : Int32) then (x3 - ((4 : Int32) * x7)) else (4 : Int32)) ((F 36) + x7) F (gup (gup G 39 z2.toNatClampNeg (z1 + z0)) 40 ((F 36) + x7).toNatClampNeg (vp_nar .boolean x2)) g4 g5 ⟨h44, (by first | rfl | (simp only [h43, i_as])), (hR.trans (by first | rfl | (simp only [rarray, rsize, rarr2, rl_vals, rclose, h43, i_as, i10, eq_self, rb_yes, rb_no, ryes, rno, if_true, if_false, f_tt (p := True), reduceIte])))⟩
theorem mrz_array_102 {fu : Nat} {K V : Nat → Int32} {F0 : PF} {R0 : OR} : ∀ (n : Nat) (x1 : Int32) (x2 : Int32) (x3 : Int32) (x4 : Int32) (x5 : Int32) (x6 : Int32) (x7 : Int32) (F : PF) (G : PG) (g4 : G 4 = K) (g5 : G 5 = V) (hA : (F 44 = 0 ∧ F 43 = F0 43 ∧ R0 = rarr2 K V fu (F 42) (F 43))), PP (ml_array_102 fu n x1 x2 x3 x4 x5 x6 x7 F G) (fun r' F' _ => ROK R0 F0 r' F') := by
  intro n
  induction n with
  | zero =>
    intro x1 x2 x3 x4 x5 x6 x7 F G g4 g5 hA
    exact PP.no
  | succ n ihn =>
    intro x1 x2 x3 x4 x5 x6 x7 F G g4 g5 hA
    show PP (mb_array_102 fu (ml_array_102 fu n) x1 x2 x3 x4 x5 x6 x7 F G) _
    rcases hA with ⟨h44, h43, hR⟩
    · skip
      unfold mb_array_102
      refine PP.ite (fun c_1 => ?_) (fun c_1 => ?_)
      · skip
        exact mrj_array_193 (F0 := F0) (R0 := R0) x1 x2 x3 x4 x5 x6 F G g4 g5 ⟨h44, (by first | rfl | (simp only [h43, i_as])), (hR.trans (by first | rfl | (simp only [rarray, rsize, rarr2, rl_vals, rclose, h43, i_as, i10, eq_self, rb_yes, rb_no, ryes, rno, if_true, if_false, f_tt (p := True), reduceIte])))⟩
      · skip
        unfold mb_array_109
        refine PP.ite (fun c_2 => ?_) (fun c_2 => ?_)
        · skip
          exact mrj_array_193 (F0 := F0) (R0 := R0) x1 x2 x3 x4 x5 x6 F G g4 g5 ⟨h44, (by first | rfl | (simp only [h43, i_as])), (hR.trans (by first | rfl | (simp only [rarray, rsize, rarr2, rl_vals, rclose, h43, i_as, i10, eq_self, rb_yes, rb_no, ryes, rno, if_true, if_false, f_tt (p := True), reduceIte])))⟩
        · skip
          unfold mb_array_114
          refine PP.ite (fun c_3 => ?_) (fun c_3 => ?_)
          · skip
            unfold mb_array_140
            exact mrj_array_142 (F0 := F0) (R0 := R0) (ml_array_102 fu n) ihn x1 x2 x3 x4 x5 x6 x7 x7 (F 37) ((F 36) + x7) F G g4 g5 ⟨h44, (by first | rfl | (simp only [h43, i_as])), (hR.trans (by first | rfl | (simp only [rarray, rsize, rarr2, rl_vals, rclose, h43, i_as, i10, eq_self, rb_yes, rb_no, ryes, rno, if_true, if_false, f_tt (p := True), reduceIte])))⟩
          · skip
            unfold mb_array_133
            exact mrj_array_142 (F0 := F0) (R0 := R0) (ml_array_102 fu n) ihn x1 x2 x3 x4 x5 x6 x7 ((4 : Int32) * x7) (F 37) ((F 36) + x7) F G g4 g5 ⟨h44, (by first | rfl | (simp only [h43, i_as])), (hR.trans (by first | rfl | (simp only [rarray, rsize, rarr2, rl_vals, rclose, h43, i_as, i10, eq_self, rb_yes, rb_no, ryes, rno, if_true, if_false, f_tt (p := True), reduceIte])))⟩
theorem mrj_array_99 {fu : Nat} {K V : Nat → Int32} {F0 : PF} {R0 : OR} (x1 : Int32) (x2 : Int32) (x3 : Int32) (x4 : Int32) (x5 : Int32) (x6 : Int32) (F : PF) (G : PG) (g4 : G 4 = K) (g5 : G 5 = V) (hA : (F 44 = 0 ∧ F 43 = F0 43 ∧ R0 = rarr2 K V fu (F 42) (F 43))) : PP (mb_array_99 fu x1 x2 x3 x4 x5 x6 F G) (fun r' F' _ => ROK R0 F0 r' F') := by
  rcases hA with ⟨h44, h43, hR⟩
  · skip
    unfold mb_array_99
    exact mrz_array_102 (F0 := F0) (R0 := R0) fu x1 x2 x3 x4 x5 x6 (0 : Int32) F G g4 g5 ⟨h44, (by first | rfl | (simp only [h43, i_as])), (hR.trans (by first | rfl | (simp only [rarray, rsize, rarr2, rl_vals, rclose, h43, i_as, i10, eq_self, rb_yes, rb_no, ryes, rno, if_true, if_false, f_tt (p := True), reduceIte])))⟩
theorem mrj_array_80 {fu : Nat} {K V : Nat → Int32} {F0 : PF} {R0 : OR} (x1 : Int32) (x2 : Int32) (x3 : Int32) (x4 : Int32) (x5 : Int32) (z0 : Int32) (F : PF) (G : PG) (g4 : G 4 = K) (g5 : G 5 = V) (hA : (F 44 = 0 ∧ F 43 = F0 43 ∧ R0 = rarr2 K V fu (F 42) (F 43))) : PP (mb_array_80 fu x1 x2 x3 x4 x5 z0 F G) (fun r' F' _ => ROK R0 F0 r' F') := by
  rcases hA with ⟨h44, h43, hR⟩
  · skip
    unfold mb_array_80
    refine PP.ite (fun c_1 => ?_) (fun c_1 => ?_)
    · skip
      unfold mb_array_87
      refine PP.ix (fun _ => ?_)
      refine PP.bind (mw_note (11 : Int32) (G 6 x1.toNatClampNeg) F G) ?_
      intro r2 F2 G2 hK2
      dsimp only
      have g_3 : G2 4 = K := Eq.trans (hK2.2 4 rfl) g4
      have g_4 : G2 5 = V := Eq.trans (hK2.2 5 rfl) g5
      have q_5 : F2 42 = (F 42) := hK2.1 42 rfl
      have q_6 : F2 43 = (F0 43) := Eq.trans (hK2.1 43 rfl) (show (F 43) = (F0 43) by simp only [h43, i_as])
      have q_7 : F2 44 = 0 := Eq.trans (hK2.1 44 rfl) h44
      exact mrj_array_99 (F0 := F0) (R0 := R0) x1 x2 x3 x4 x5 z0 F2 G2 g_3 g_4 ⟨q_7, (by first | rfl | (simp only [q_5, q_6, i_as])), (hR.trans (by first | rfl | (simp only [rarray, rsize, rarr2, rl_vals, rclose, q_5, q_6, i_as, i10, eq_self, rb_yes, rb_no, ryes, rno, if_true, if_false, f_tt (p := True), reduceIte])))⟩
    · skip
      exact mrj_array_99 (F0 := F0) (R0 := R0) x1 x2 x3 x4 x5 z0 F G g4 g5 ⟨h44, (by first | rfl | (simp only [h43, i_as])), (hR.trans (by first | rfl | (simp only [rarray, rsize, rarr2, rl_vals, rclose, h43, i_as, i10, eq_self, rb_yes, rb_no, ryes, rno, if_true, if_false, f_tt (p := True), reduceIte])))⟩
theorem mrj_array_60 {fu : Nat} {K V : Nat → Int32} {F0 : PF} {R0 : OR} (x1 : Int32) (x2 : Int32) (x3 : Int32) (x4 : Int32) (z0 : Int32) (F : PF) (G : PG) (g4 : G 4 = K) (g5 : G 5 = V) (hA : (F 44 = 0 ∧ F 43 = F0 43 ∧ R0 = rarr2 K V fu (F 42) (F 43))) : PP (mb_array_60 fu x1 x2 x3 x4 z0 F G) (fun r' F' _ => ROK R0 F0 r' F') := by
  rcases hA with ⟨h44, h43, hR⟩
  · skip
    unfold mb_array_60
    refine PP.ite (fun c_1 => ?_) (fun c_1 => ?_)
    · skip
      unfold mb_array_79
      exact mrj_array_80 (F0 := F0) (R0 := R0) x1 x2 x3 x4 z0 (0 : Int32) F G g4 g5 ⟨h44, (by first | rfl | (simp only [h43, i_as])), (hR.trans (by first | rfl | (simp only [rarray, rsize, rarr2, rl_vals, rclose, h43, i_as, i10, eq_self, rb_yes, rb_no, ryes, rno, if_true, if_false, f_tt (p := True), reduceIte])))⟩
    · skip
      unfold mb_array_75
      exact mrj_array_80 (F0 := F0) (R0 := R0) x1 x2 x3 x4 z0 (1 : Int32) F G g4 g5 ⟨h44, (by first | rfl | (simp only [h43, i_as])), (hR.trans (by first | rfl | (simp only [rarray, rsize, rarr2, rl_vals, rclose, h43, i_as, i10, eq_self, rb_yes, rb_no, ryes, rno, if_true, if_false, f_tt (p := True), reduceIte])))⟩
theorem mr_array {fu : Nat} {K V : Nat → Int32} (x1 : Int32) (x2 : Int32) (F : PF) (G : PG) (g4 : G 4 = K) (g5 : G 5 = V) (h44 : F 44 = 0) : PP (mf_array fu x1 x2 F G) (fun r' F' _ => ROK (rarray K V fu (F 42) (F 43)) F r' F') := by
  unfold mf_array
  unfold mb_array_0
  refine PP.bind (mw_twice x1 F G) ?_
  intro r1 F1 G1 hK1
  dsimp only
  have g_2 : G1 4 = K := Eq.trans (hK1.2 4 rfl) g4
  have g_3 : G1 5 = V := Eq.trans (hK1.2 5 rfl) g5
  have q_4 : F1 42 = (F 42) := hK1.1 42 rfl
  have q_5 : F1 43 = (F 43) := hK1.1 43 rfl
  have q_6 : F1 44 = 0 := Eq.trans (hK1.1 44 rfl) h44
  unfold mb_array_5
  refine PP.bind (mp_openSign (24 : Int32) F1 G1) ?_
  rintro r7 F7 G7 (⟨rfl, rfl, rfl, h7⟩ | ⟨rfl, h7, h7b⟩)
  · dsimp only
    have h_8 : sgn K V (F 42) (24 : Int32) = true := by
      rw [← g_2, ← g_3]
      have q := h7.1
      first | exact q | (simp only [q_4, q_5, i_as] at q; exact q) | (simp only [q_4, q_5, i_as] at q ⊢; exact q)
    have h_9 : ¬ (F 43) = 40 := by
      have q : ¬ (F1 43) = 40 := h7.2.1
      simp only [q_4, q_5, i_as] at q; exact q
    unfold mb_array_11
    refine PP.ite (fun c_10 => absurd c_10 (by decide)) (fun _ => ?_)
    unfold mb_array_16
    refine PP.bind (PP.and (mw_sizeHere (fup (fup F1 43 ((F1 43) + (1 : Int32))) 42 ((F1 42) + (1 : Int32))) G1) (mr_sizeHere (fup (fup F1 43 ((F1 43) + (1 : Int32))) 42 ((F1 42) + (1 : Int32))) G1 g_2 g_3 (show (fup (fup F1 43 ((F1 43) + (1 : Int32))) 42 ((F1 42) + (1 : Int32))) 44 = 0 from q_6))) ?_
    rintro r11 F11 G11 ⟨hK11, (⟨-, h11a, h11b, h11⟩ | ⟨-, h11a, h11⟩)⟩
    · dsimp only
      have g_12 : G11 4 = K := Eq.trans (hK11.2 4 rfl) g_2
      have g_13 : G11 5 = V := Eq.trans (hK11.2 5 rfl) g_3
      have h_14 : rS1 K V fu 300 4 ((F 42) + (1 : Int32)) ((F 43) + (1 : Int32)) = some (some (F11 42)) := by
        have q : rS1 K V fu 300 4 ((F1 42) + (1 : Int32)) ((F1 43) + (1 : Int32)) = some (some (F11 42)) := h11
        simp only [q_4, q_5, i_as] at q; exact q
      have q_15 : F11 43 = ((F 43) + (1 : Int32)) := by
        have q := (show F11 43 = ((F1 43) + (1 : Int32)) from h11b)
        simp only [q_4, q_5, i_as] at q; exact q
      unfold mb_array_20
      refine PP.bind (mp_closeSign (25 : Int32) F11 G11) ?_
      rintro r16 F16 G16 (⟨rfl, rfl, rfl, h16⟩ | ⟨rfl, h16, h16b⟩)
      · dsimp only
        have h_17 : sgn K V (F11 42) (25 : Int32) = true := by
          rw [← g_12, ← g_13]
          have q := h16.1
          first | exact q | (simp only [q_15, i_as] at q; exact q) | (simp only [q_15, i_as] at q ⊢; exact q)
        unfold mb_array_27
        refine PP.ite (fun c_18 => absurd c_18 (by decide)) (fun _ => ?_)
        unfold mb_array_32
        refine PP.ite (fun c_19 => ?_) (fun c_19 => ?_)
        · skip
          unfold mb_array_43
          exact mrj_array_60 (F0 := F) (R0 := (rarray K V fu (F 42) (F 43))) x1 x2 r11 (F11 37) (0 : Int32) (fup (fup F11 42 ((F11 42) + (1 : Int32))) 43 ((F11 43) - (1 : Int32))) G11 g_12 g_13 ⟨h11a, (by first | rfl | (simp only [q_15, i_as])), ((rfl : (rarray K V fu (F 42) (F 43)) = _).trans (by first | rfl | (simp only [rarray, rsize, rarr2, rl_vals, rclose, h_8, h_9, h_14, h_17, q_15, i_as, i10, eq_self, rb_yes, rb_no, ryes, rno, if_true, if_false, f_tt (p := True), reduceIte])))⟩
        · skip
          unfold mb_array_47
          refine PP.ite (fun c_20 => ?_) (fun c_20 => ?_)
          · skip
            unfold mb_array_59
            exact mrj_array_60 (F0 := F) (R0 := (rarray K V fu (F 42) (F 43))) x1 x2 r11 (F11 37) r11 (fup (fup F11 42 ((F11 42) + (1 : Int32))) 43 ((F11 43) - (1 : Int32))) G11 g_12 g_13 ⟨h11a, (by first | rfl | (simp only [q_15, i_as])), ((rfl : (rarray K V fu (F 42) (F 43)) = _).trans (by first | rfl | (simp only [rarray, rsize, rarr2, rl_vals, rclose, h_8, h_9, h_14, h_17, q_15, i_as, i10, eq_self, rb_yes, rb_no, ryes, rno, if_true, if_false, f_tt (p := True), reduceIte])))⟩
          · skip
            unfold mb_array_51
            exact mrj_array_60 (F0 := F) (R0 := (rarray K V fu (F 42) (F 43))) x1 x2 r11 (F11 37) ((r11 + (3 : Int32)) / (4 : Int32)) (fup (fup F11 42 ((F11 42) + (1 : Int32))) 43 ((F11 43) - (1 : Int32))) G11 g_12 g_13 ⟨h11a, (by first | rfl | (simp only [q_15, i_as])), ((rfl : (rarray K V fu (F 42) (F 43)) = _).trans (by first | rfl | (simp only [rarray, rsize, rarr2, rl_vals, rclose, h_8, h_9, h_14, h_17, q_15, i_as, i10, eq_self, rb_yes, rb_no, ryes, rno, if_true, if_false, f_tt (p := True), reduceIte])))⟩
      · dsimp only
        have g_21 : G16 4 = K := Eq.trans (h16.2.2.2 4 rfl) g_12
        have g_22 : G16 5 = V := Eq.trans (h16.2.2.2 5 rfl) g_13
        have q_23 : F16 42 = (F11 42) := h16.2.2.1 42 rfl
        have q_24 : F16 43 = ((F 43) + (1 : Int32)) := Eq.trans (h16.2.2.1 43 rfl) (show (F11 43) = ((F 43) + (1 : Int32)) by simp only [q_15, i_as])
        rcases h16b with q | q
        · exact absurd q (by rw [h11a]; decide)
        · skip
          have h_25 : sgn K V (F11 42) (25 : Int32) = false := by
            rw [← g_12, ← g_13]
            have q := q
            first | exact q | (simp only [q_15, i_as] at q; exact q) | (simp only [q_15, i_as] at q ⊢; exact q)
          unfold mb_array_27
          refine PP.ite (fun _ => ?_) (fun c_26 => absurd (by decide) c_26)
          unfold mb_array_30
          refine PP.ret ?_
          refine Or.inr ⟨rfl, h16.1, (rfl : (rarray K V fu (F 42) (F 43)) = _).trans ?_⟩
          first | rfl | (simp only [rarray, rsize, rarr2, rl_vals, rclose, h_8, h_9, h_14, h_25, q_23, q_24, i_as, i10, eq_self, rb_yes, rb_no, ryes, rno, if_true, if_false, f_tt (p := True), reduceIte])
    · dsimp only
      have g_27 : G11 4 = K := Eq.trans (hK11.2 4 rfl) g_2
      have g_28 : G11 5 = V := Eq.trans (hK11.2 5 rfl) g_3
      have h_29 : rS1 K V fu 300 4 ((F 42) + (1 : Int32)) ((F 43) + (1 : Int32)) = some (none) := by
        have q : rS1 K V fu 300 4 ((F1 42) + (1 : Int32)) ((F1 43) + (1 : Int32)) = some (none) := h11
        simp only [q_4, q_5, i_as] at q; exact q
      unfold mb_array_20
      refine PP.bind (mp_closeSign (25 : Int32) F11 G11) ?_
      rintro r30 F30 G30 (⟨rfl, rfl, rfl, h30⟩ | ⟨rfl, h30, h30b⟩)
      · dsimp only
        exact absurd h11a h30.2
      · dsimp only
        have g_31 : G30 4 = K := Eq.trans (h30.2.2.2 4 rfl) g_27
        have g_32 : G30 5 = V := Eq.trans (h30.2.2.2 5 rfl) g_28
        have q_33 : F30 42 = (F11 42) := h30.2.2.1 42 rfl
        have q_34 : F30 43 = (F11 43) := h30.2.2.1 43 rfl
        unfold mb_array_27
        refine PP.ite (fun _ => ?_) (fun c_35 => absurd (by decide) c_35)
        unfold mb_array_30
        refine PP.ret ?_
        refine Or.inr ⟨rfl, h30.1, (rfl : (rarray K V fu (F 42) (F 43)) = _).trans ?_⟩
        first | rfl | (simp only [rarray, rsize, rarr2, rl_vals, rclose, h_8, h_9, h_29, q_33, q_34, i_as, i10, eq_self, rb_yes, rb_no, ryes, rno, if_true, if_false, f_tt (p := True), reduceIte])
  · dsimp only
    have g_36 : G7 4 = K := Eq.trans (h7.2.2.2 4 rfl) g_2
    have g_37 : G7 5 = V := Eq.trans (h7.2.2.2 5 rfl) g_3
    have q_38 : F7 42 = (F 42) := Eq.trans (h7.2.2.1 42 rfl) (show (F1 42) = (F 42) by simp only [q_4, q_5, i_as])
    have q_39 : F7 43 = (F 43) := Eq.trans (h7.2.2.1 43 rfl) (show (F1 43) = (F 43) by simp only [q_4, q_5, i_as])
    rcases h7b with q | q | ⟨q, q1⟩
    · exact absurd q (by rw [q_6]; decide)
    · skip
      have h_40 : sgn K V (F 42) (24 : Int32) = false := by
        rw [← g_2, ← g_3]
        have q := q
        first | exact q | (simp only [q_4, q_5, i_as] at q; exact q) | (simp only [q_4, q_5, i_as] at q ⊢; exact q)
      unfold mb_array_11
      refine PP.ite (fun _ => ?_) (fun c_41 => absurd (by decide) c_41)
      unfold mb_array_14
      refine PP.ret ?_
      refine Or.inr ⟨rfl, h7.1, (rfl : (rarray K V fu (F 42) (F 43)) = _).trans ?_⟩
      first | rfl | (simp only [rarray, rsize, rarr2, rl_vals, rclose, h_40, q_38, q_39, i_as, i10, eq_self, rb_yes, rb_no, ryes, rno, if_true, if_false, f_tt (p := True), reduceIte])
    · skip
      have h_42 : sgn K V (F 42) (24 : Int32) = true := by
        rw [← g_2, ← g_3]
        have q := q
        first | exact q | (simp only [q_4, q_5, i_as] at q; exact q) | (simp only [q_4, q_5, i_as] at q ⊢; exact q)
      have h_43 : (F 43) = 40 := by
        have q : (F1 43) = 40 := q1
        simp only [q_4, q_5, i_as] at q; exact q
      unfold mb_array_11
      refine PP.ite (fun _ => ?_) (fun c_44 => absurd (by decide) c_44)
      unfold mb_array_14
      refine PP.ret ?_
      refine Or.inr ⟨rfl, h7.1, (rfl : (rarray K V fu (F 42) (F 43)) = _).trans ?_⟩
      first | rfl | (simp only [rarray, rsize, rarr2, rl_vals, rclose, h_42, h_43, q_38, q_39, i_as, i10, eq_self, rb_yes, rb_no, ryes, rno, if_true, if_false, f_tt (p := True), reduceIte])
theorem mrj_formalHere_185 {fu : Nat} {K V : Nat → Int32} {F0 : PF} {R0 : OR} (z0 : Int32) (F : PF) (G : PG) (g4 : G 4 = K) (g5 : G 5 = V) (hA : (F 44 = 0 ∧ F 43 = F0 43 ∧ R0 = ryes (F 42))) : PP (mb_formalHere_185 fu z0 F G) (fun r' F' _ => ROKV R0 F0 r' F') := by
  rcases hA with ⟨h44, h43, hR⟩
  · skip
    unfold mb_formalHere_185
    refine PP.ret ?_
    refine Or.inl ⟨trivial, h44, ?_, hR.trans ?_⟩
    · show (F 43) = F0 43
      first | rfl | (simp only [h43, i_as])
    · show _ = some (some (F 42))
      first | rfl | (simp only [rformal, rform2, rsq, rclose, h43, i_as, i10, eq_self, rb_yes, rb_no, ryes, rno, if_true, if_false, f_tt (p := True), reduceIte])
theorem mrj_formalHere_163 {fu : Nat} {K V : Nat → Int32} {F0 : PF} {R0 : OR} (x2 : Int32) (x4 : Int32) (z0 : Int32) (z1 : Int32) (F : PF) (G : PG) (g4 : G 4 = K) (g5 : G 5 = V) (hA : (F 44 = 0 ∧ F 43 = F0 43 ∧ R0 = ryes (F 42))) : PP (mb_formalHere_163 fu x2 x4 z0 z1 F G) (fun r' F' _ => ROKV R0 F0 r' F') := by
  rcases hA with ⟨h44, h43, hR⟩
  · skip
    unfold mb_formalHere_163
    unfold mb_formalHere_167
    refine PP.ite (fun c_1 => ?_) (fun c_1 => ?_)
    · skip
      unfold mb_formalHere_172
      exact mrj_formalHere_185 (F0 := F0) (R0 := R0) (0 : Int32) (fup F 53 (z1 + z0)) G g4 g5 ⟨h44, (by first | rfl | (simp only [h43, i_as])), (hR.trans (by first | rfl | (simp only [rformal, rform2, rsq, rclose, h43, i_as, i10, eq_self, rb_yes, rb_no, ryes, rno, if_true, if_false, f_tt (p := True), reduceIte])))⟩
    · skip
      unfold mb_formalHere_176
      refine PP.ite (fun c_2 => ?_) (fun c_2 => ?_)
      · skip
        unfold mb_formalHere_184
        exact mrj_formalHere_185 (F0 := F0) (R0 := R0) (1 : Int32) (fup F 53 (z1 + z0)) G g4 g5 ⟨h44, (by first | rfl | (simp only [h43, i_as])), (hR.trans (by first | rfl | (simp only [rformal, rform2, rsq, rclose, h43, i_as, i10, eq_self, rb_yes, rb_no, ryes, rno, if_true, if_false, f_tt (p := True), reduceIte])))⟩
      · skip
        unfold mb_formalHere_180
        exact mrj_formalHere_185 (F0 := F0) (R0 := R0) (2 : Int32) (fup F 53 (z1 + z0)) G g4 g5 ⟨h44, (by first | rfl | (simp only [h43, i_as])), (hR.trans (by first | rfl | (simp only [rformal, rform2, rsq, rclose, h43, i_as, i10, eq_self, rb_yes, rb_no, ryes, rno, if_true, if_false, f_tt (p := True), reduceIte])))⟩
theorem mrj_formalHere_144 {fu : Nat} {K V : Nat → Int32} {F0 : PF} {R0 : OR} (x2 : Int32) (x4 : Int32) (z0 : Int32) (z1 : Int32) (z2 : Int32) (z3 : Int32) (z4 : Int32) (F : PF) (G : PG) (g4 : G 4 = K) (g5 : G 5 = V) (hA : (F 44 = 0 ∧ F 43 = F0 43 ∧ R0 = ryes (F 42))) : PP (mb_formalHere_144 fu x2 x4 z0 z1 z2 z3 z4 F G) (fun r' F' _ => ROKV R0 F0 r' F') := by
  rcases hA with ⟨h44, h43, hR⟩
  · skip
    unfold mb_formalHere_144
    refine PP.bind (mw_declare z4 z3 z2 z1 z0 (1 : Int32) F G) ?_
    intro r1 F1 G1 hK1
    dsimp only
    have g_2 : G1 4 = K := Eq.trans (hK1.2 4 rfl) g4
    have g_3 : G1 5 = V := Eq.trans (hK1.2 5 rfl) g5
    have q_4 : F1 42 = (F 42) := hK1.1 42 rfl
    have q_5 : F1 43 = (F0 43) := Eq.trans (hK1.1 43 rfl) (show (F 43) = (F0 43) by simp only [h43, i_as])
    have q_6 : F1 44 = 0 := Eq.trans (hK1.1 44 rfl) h44
    unfold mb_formalHere_148
    refine PP.ite (fun c_7 => ?_) (fun c_7 => ?_)
    · skip
      unfold mb_formalHere_162
      exact mrj_formalHere_163 (F0 := F0) (R0 := R0) x2 x4 (1 : Int32) (F1 53) F1 G1 g_2 g_3 ⟨q_6, (by first | rfl | (simp only [q_4, q_5, i_as])), (hR.trans (by first | rfl | (simp only [rformal, rform2, rsq, rclose, q_4, q_5, i_as, i10, eq_self, rb_yes, rb_no, ryes, rno, if_true, if_false, f_tt (p := True), reduceIte])))⟩
    · skip
      unfold mb_formalHere_158
      exact mrj_formalHere_163 (F0 := F0) (R0 := R0) x2 x4 (2 : Int32) (F1 53) F1 G1 g_2 g_3 ⟨q_6, (by first | rfl | (simp only [q_4, q_5, i_as])), (hR.trans (by first | rfl | (simp only [rformal, rform2, rsq, rclose, q_4, q_5, i_as, i10, eq_self, rb_yes, rb_no, ryes, rno, if_true, if_false, f_tt (p := True), reduceIte])))⟩
theorem mrj_formalHere_129 {fu : Nat} {K V : Nat → Int32} {F0 : PF} {R0 : OR} (x2 : Int32) (x4 : Int32) (z0 : Int32) (z1 : Int32) (F : PF) (G : PG) (g4 : G 4 = K) (g5 : G 5 = V) (hA : (F 44 = 0 ∧ F 43 = F0 43 ∧ R0 = ryes (F 42))) : PP (mb_formalHere_129 fu x2 x4 z0 z1 F G) (fun r' F' _ => ROKV R0 F0 r' F') := by
  rcases hA with ⟨h44, h43, hR⟩
  · skip
    unfold mb_formalHere_129
    refine PP.ite (fun c_1 => ?_) (fun c_1 => ?_)
    · skip
      unfold mb_formalHere_143
      exact mrj_formalHere_144 (F0 := F0) (R0 := R0) x2 x4 (1 : Int32) (F 53) x2 z0 z1 F G g4 g5 ⟨h44, (by first | rfl | (simp only [h43, i_as])), (hR.trans (by first | rfl | (simp only [rformal, rform2, rsq, rclose, h43, i_as, i10, eq_self, rb_yes, rb_no, ryes, rno, if_true, if_false, f_tt (p := True), reduceIte])))⟩
    · skip
      unfold mb_formalHere_139
      exact mrj_formalHere_144 (F0 := F0) (R0 := R0) x2 x4 (-1 : Int32) (F 53) x2 z0 z1 F G g4 g5 ⟨h44, (by first | rfl | (simp only [h43, i_as])), (hR.trans (by first | rfl | (simp only [rformal, rform2, rsq, rclose, h43, i_as, i10, eq_self, rb_yes, rb_no, ryes, rno, if_true, if_false, f_tt (p := True), reduceIte])))⟩
theorem mrj_formalHere_117 {fu : Nat} {K V : Nat → Int32} {F0 : PF} {R0 : OR} (x2 : Int32) (x3 : Int32) (x4 : Int32) (F : PF) (G : PG) (g4 : G 4 = K) (g5 : G 5 = V) (hA : (F 44 = 0 ∧ F 43 = F0 43 ∧ R0 = ryes (F 42))) : PP (mb_formalHere_117 fu x2 x3 x4 F G) (fun r' F' _ => ROKV R0 F0 r' F') := by
  rcases hA with ⟨h44, h43, hR⟩
  · skip
    unfold mb_formalHere_117
    refine PP.ite (fun c_1 => ?_) (fun c_1 => ?_)
    · skip
      unfold mb_formalHere_128
      exact mrj_formalHere_129 (F0 := F0) (R0 := R0) x2 x4 (1 : Int32) x3 F G g4 g5 ⟨h44, (by first | rfl | (simp only [h43, i_as])), (hR.trans (by first | rfl | (simp only [rformal, rform2, rsq, rclose, h43, i_as, i10, eq_self, rb_yes, rb_no, ryes, rno, if_true, if_false, f_tt (p := True), reduceIte])))⟩
    · skip
      unfold mb_formalHere_124
      exact mrj_formalHere_129 (F0 := F0) (R0 := R0) x2 x4 (2 : Int32) x3 F G g4 g5 ⟨h44, (by first | rfl | (simp only [h43, i_as])), (hR.trans (by first | rfl | (simp only [rformal, rform2, rsq, rclose, h43, i_as, i10, eq_self, rb_yes, rb_no, ryes, rno, if_true, if_false, f_tt (p := True), reduceIte])))⟩
theorem mrj_formalHere_115 {fu : Nat} {K V : Nat → Int32} {F0 : PF} {R0 : OR} (F : PF) (G : PG) (g4 : G 4 = K) (g5 : G 5 = V) (hA : (0 < (F 44).toInt ∧ R0 = rno)) : PP (mb_formalHere_115 fu F G) (fun r' F' _ => ROKV R0 F0 r' F') := by
  rcases hA with ⟨hf, hR⟩
  · skip
    unfold mb_formalHere_115
    refine PP.ret ?_
    refine Or.inr ⟨trivial, hf, hR.trans ?_⟩
    first | rfl | (simp only [rformal, rform2, rsq, rclose, i_as, i10, eq_self, rb_yes, rb_no, ryes, rno, if_true, if_false, f_tt (p := True), reduceIte])
theorem mrj_formalHere_90 {fu : Nat} {K V : Nat → Int32} {F0 : PF} {R0 : OR} (x2 : Int32) (x3 : Int32) (z0 : Int32) (F : PF) (G : PG) (g4 : G 4 = K) (g5 : G 5 = V) (hA : (z0 = 1 ∧ F 44 = 0 ∧ F 43 = F0 43 ∧ R0 = rsq K V (F 42) (F 43)) ∨ (z0 = 0 ∧ F 44 = 0 ∧ F 43 = F0 43 ∧ R0 = ryes (F 42))) : PP (mb_formalHere_90 fu x2 x3 z0 F G) (fun r' F' _ => ROKV R0 F0 r' F') := by
  rcases hA with ⟨rfl, h44, h43, hR⟩ | ⟨rfl, h44, h43, hR⟩
  · skip
    unfold mb_formalHere_90
    refine PP.ite (fun c_1 => absurd c_1 (by decide)) (fun _ => ?_)
    unfold mb_formalHere_97
    refine PP.bind (mp_openSign (24 : Int32) F G) ?_
    rintro r2 F2 G2 (⟨rfl, rfl, rfl, h2⟩ | ⟨rfl, h2, h2b⟩)
    · dsimp only
      have h_3 : sgn K V (F 42) (24 : Int32) = true := by
        rw [← g4, ← g5]
        have q := h2.1
        first | exact q | (simp only [h43, i_as] at q; exact q) | (simp only [h43, i_as] at q ⊢; exact q)
      have h_4 : ¬ (F0 43) = 40 := by
        have q : ¬ (F 43) = 40 := h2.2.1
        simp only [h43, i_as] at q; exact q
      unfold mb_formalHere_103
      refine PP.ite (fun c_5 => absurd c_5 (by decide)) (fun _ => ?_)
      unfold mb_formalHere_106
      refine PP.bind (mp_closeSign (25 : Int32) (fup (fup F 43 ((F 43) + (1 : Int32))) 42 ((F 42) + (1 : Int32))) G) ?_
      rintro r6 F6 G6 (⟨rfl, rfl, rfl, h6⟩ | ⟨rfl, h6, h6b⟩)
      · dsimp only
        have h_7 : sgn K V ((F 42) + (1 : Int32)) (25 : Int32) = true := by
          rw [← g4, ← g5]
          have q := h6.1
          first | exact q | (simp only [h43, i_as] at q; exact q) | (simp only [h43, i_as] at q ⊢; exact q)
        unfold mb_formalHere_112
        refine PP.ite (fun c_8 => absurd c_8 (by decide)) (fun _ => ?_)
        exact mrj_formalHere_117 (F0 := F0) (R0 := R0) x2 x3 (1 : Int32) (fup (fup (fup (fup F 43 ((F 43) + (1 : Int32))) 42 ((F 42) + (1 : Int32))) 42 (((F 42) + (1 : Int32)) + (1 : Int32))) 43 (((F 43) + (1 : Int32)) - (1 : Int32))) G g4 g5 ⟨h44, (by first | rfl | (simp only [h43, i_as])), (hR.trans (by first | rfl | (simp only [rformal, rform2, rsq, rclose, h_3, h_4, h_7, h43, i_as, i10, eq_self, rb_yes, rb_no, ryes, rno, if_true, if_false, f_tt (p := True), reduceIte])))⟩
      · dsimp only
        have g_9 : G6 4 = K := Eq.trans (h6.2.2.2 4 rfl) g4
        have g_10 : G6 5 = V := Eq.trans (h6.2.2.2 5 rfl) g5
        have q_11 : F6 42 = ((F 42) + (1 : Int32)) := h6.2.2.1 42 rfl
        have q_12 : F6 43 = ((F0 43) + (1 : Int32)) := Eq.trans (h6.2.2.1 43 rfl) (show ((F 43) + (1 : Int32)) = ((F0 43) + (1 : Int32)) by simp only [h43, i_as])
        rcases h6b with q | q
        · exact absurd q (by rw [h44]; decide)
        · skip
          have h_13 : sgn K V ((F 42) + (1 : Int32)) (25 : Int32) = false := by
            rw [← g4, ← g5]
            have q := q
            first | exact q | (simp only [h43, i_as] at q; exact q) | (simp only [h43, i_as] at q ⊢; exact q)
          unfold mb_formalHere_112
          refine PP.ite (fun _ => ?_) (fun c_14 => absurd (by decide) c_14)
          exact mrj_formalHere_115 (F0 := F0) (R0 := R0) F6 G6 g_9 g_10 ⟨h6.1, (hR.trans (by first | rfl | (simp only [rformal, rform2, rsq, rclose, h_3, h_4, h_13, q_11, q_12, i_as, i10, eq_self, rb_yes, rb_no, ryes, rno, if_true, if_false, f_tt (p := True), reduceIte])))⟩
    · dsimp only
      have g_15 : G2 4 = K := Eq.trans (h2.2.2.2 4 rfl) g4
      have g_16 : G2 5 = V := Eq.trans (h2.2.2.2 5 rfl) g5
      have q_17 : F2 42 = (F 42) := h2.2.2.1 42 rfl
      have q_18 : F2 43 = (F0 43) := Eq.trans (h2.2.2.1 43 rfl) (show (F 43) = (F0 43) by simp only [h43, i_as])
      rcases h2b with q | q | ⟨q, q1⟩
      · exact absurd q (by rw [h44]; decide)
      · skip
        have h_19 : sgn K V (F 42) (24 : Int32) = false := by
          rw [← g4, ← g5]
          have q := q
          first | exact q | (simp only [h43, i_as] at q; exact q) | (simp only [h43, i_as] at q ⊢; exact q)
        unfold mb_formalHere_103
        refine PP.ite (fun _ => ?_) (fun c_20 => absurd (by decide) c_20)
        exact mrj_formalHere_115 (F0 := F0) (R0 := R0) F2 G2 g_15 g_16 ⟨h2.1, (hR.trans (by first | rfl | (simp only [rformal, rform2, rsq, rclose, h_19, q_17, q_18, i_as, i10, eq_self, rb_yes, rb_no, ryes, rno, if_true, if_false, f_tt (p := True), reduceIte])))⟩
      · skip
        have h_21 : sgn K V (F 42) (24 : Int32) = true := by
          rw [← g4, ← g5]
          have q := q
          first | exact q | (simp only [h43, i_as] at q; exact q) | (simp only [h43, i_as] at q ⊢; exact q)
        have h_22 : (F0 43) = 40 := by
          have q : (F 43) = 40 := q1
          simp only [h43, i_as] at q; exact q
        unfold mb_formalHere_103
        refine PP.ite (fun _ => ?_) (fun c_23 => absurd (by decide) c_23)
        exact mrj_formalHere_115 (F0 := F0) (R0 := R0) F2 G2 g_15 g_16 ⟨h2.1, (hR.trans (by first | rfl | (simp only [rformal, rform2, rsq, rclose, h_21, h_22, q_17, q_18, i_as, i10, eq_self, rb_yes, rb_no, ryes, rno, if_true, if_false, f_tt (p := True), reduceIte])))⟩
  · skip
    unfold mb_formalHere_90
    refine PP.ite (fun _ => ?_) (fun c_24 => absurd (by decide) c_24)
    exact mrj_formalHere_117 (F0 := F0) (R0 := R0) x2 x3 (0 : Int32) F G g4 g5 ⟨h44, (by first | rfl | (simp only [h43, i_as])), (hR.trans (by first | rfl | (simp only [rformal, rform2, rsq, rclose, h43, i_as, i10, eq_self, rb_yes, rb_no, ryes, rno, if_true, if_false, f_tt (p := True), reduceIte])))⟩
theorem mrj_formalHere_72 {fu : Nat} {K V : Nat → Int32} {F0 : PF} {R0 : OR} (x2 : Int32) (x3 : Int32) (F : PF) (G : PG) (g4 : G 4 = K) (g5 : G 5 = V) (hA : (x2 = 1 ∧ F 44 = 0 ∧ F 43 = F0 43 ∧ R0 = rform2 K V 1 (F 42) (F 43)) ∨ (x2 = 0 ∧ F 44 = 0 ∧ F 43 = F0 43 ∧ R0 = rform2 K V 0 (F 42) (F 43))) : PP (mb_formalHere_72 fu x2 x3 F G) (fun r' F' _ => ROKV R0 F0 r' F') := by
  rcases hA with ⟨rfl, h44, h43, hR⟩ | ⟨rfl, h44, h43, hR⟩
  · skip
    unfold mb_formalHere_72
    refine PP.ite (fun c_1 => absurd c_1 (by decide)) (fun _ => ?_)
    unfold mb_formalHere_85
    exact mrj_formalHere_90 (F0 := F0) (R0 := R0) (1 : Int32) x3 (1 : Int32) F G g4 g5 (Or.inl ⟨rfl, h44, (by first | rfl | (simp only [h43, i_as])), (hR.trans (by first | rfl | (simp only [rformal, rform2, rsq, rclose, h43, i_as, i10, eq_self, rb_yes, rb_no, ryes, rno, if_true, if_false, f_tt (p := True), reduceIte])))⟩)
  · skip
    unfold mb_formalHere_72
    refine PP.ite (fun _ => ?_) (fun c_2 => absurd (by decide) c_2)
    unfold mb_formalHere_76
    refine PP.bind (mp_isSign (24 : Int32) F G) ?_
    rintro _ _ _ ⟨rfl, rfl, (⟨rfl, h3⟩ | ⟨rfl, h3⟩)⟩
    · dsimp only
      have h_4 : sgn K V (F 42) (24 : Int32) = true := by
        rw [← g4, ← g5]
        have q := h3
        first | exact q | (simp only [h43, i_as] at q; exact q) | (simp only [h43, i_as] at q ⊢; exact q)
      unfold mb_formalHere_82
      refine PP.ite (fun c_5 => absurd c_5 (by decide)) (fun _ => ?_)
      unfold mb_formalHere_85
      exact mrj_formalHere_90 (F0 := F0) (R0 := R0) (0 : Int32) x3 (1 : Int32) F G g4 g5 (Or.inl ⟨rfl, h44, (by first | rfl | (simp only [h43, i_as])), (hR.trans (by first | rfl | (simp only [rformal, rform2, rsq, rclose, h_4, h43, i_as, i10, eq_self, rb_yes, rb_no, ryes, rno, if_true, if_false, f_tt (p := True), reduceIte])))⟩)
    · dsimp only
      have h_6 : sgn K V (F 42) (24 : Int32) = false := by
        rw [← g4, ← g5]
        have q := h3
        first | exact q | (simp only [h43, i_as] at q; exact q) | (simp only [h43, i_as] at q ⊢; exact q)
      unfold mb_formalHere_82
      refine PP.ite (fun _ => ?_) (fun c_7 => absurd (by decide) c_7)
      unfold mb_formalHere_89
      exact mrj_formalHere_90 (F0 := F0) (R0 := R0) (0 : Int32) x3 (0 : Int32) F G g4 g5 (Or.inr ⟨rfl, h44, (by first | rfl | (simp only [h43, i_as])), (hR.trans (by first | rfl | (simp only [rformal, rform2, rsq, rclose, h_6, h43, i_as, i10, eq_self, rb_yes, rb_no, ryes, rno, if_true, if_false, f_tt (p := True), reduceIte])))⟩)
theorem mrj_formalHere_26 {fu : Nat} {K V : Nat → Int32} {F0 : PF} {R0 : OR} (x1 : Int32) (x2 : Int32) (F : PF) (G : PG) (g4 : G 4 = K) (g5 : G 5 = V) (hA : (x2 = 1 ∧ F 44 = 0 ∧ F 43 = F0 43 ∧ R0 = (if K ((F 42) + 1).toNatClampNeg = 1 then rform2 K V 1 ((F 42) + 1 + 1) (F 43) else rno)) ∨ (x2 = 0 ∧ F 44 = 0 ∧ F 43 = F0 43 ∧ R0 = (if K ((F 42) + 1).toNatClampNeg = 1 then rform2 K V 0 ((F 42) + 1 + 1) (F 43) else rno))) : PP (mb_formalHere_26 fu x1 x2 F G) (fun r' F' _ => ROKV R0 F0 r' F') := by
  rcases hA with ⟨rfl, h44, h43, hR⟩ | ⟨rfl, h44, h43, hR⟩
  · skip
    unfold mb_formalHere_26
    unfold mb_formalHere_36
    refine PP.bind (mp_name (fup F 42 ((F 42) + (1 : Int32))) G) ?_
    rintro r1 F1 G1 (⟨rfl, rfl, rfl, h1⟩ | ⟨rfl, h1, h1b⟩)
    · dsimp only
      have h_2 : K ((F 42) + (1 : Int32)).toNatClampNeg = 1 := by
        rw [← g4, ← g5]
        have q := h1.1
        first | exact q | (simp only [h43, i_as] at q; exact q) | (simp only [h43, i_as] at q ⊢; exact q)
      unfold mb_formalHere_40
      refine PP.ite (fun c_3 => ?_) (fun c_3 => ?_)
      · skip
        unfold mb_formalHere_50
        refine PP.bind (mw_twice ((((F 42) + (1 : Int32)) + (1 : Int32)) - (1 : Int32)) (fup (fup F 42 ((F 42) + (1 : Int32))) 42 (((F 42) + (1 : Int32)) + (1 : Int32))) G) ?_
        intro r4 F4 G4 hK4
        dsimp only
        have g_5 : G4 4 = K := Eq.trans (hK4.2 4 rfl) g4
        have g_6 : G4 5 = V := Eq.trans (hK4.2 5 rfl) g5
        have q_7 : F4 42 = (((F 42) + (1 : Int32)) + (1 : Int32)) := hK4.1 42 rfl
        have q_8 : F4 43 = (F0 43) := Eq.trans (hK4.1 43 rfl) (show (F 43) = (F0 43) by simp only [h43, i_as])
        have q_9 : F4 44 = 0 := Eq.trans (hK4.1 44 rfl) h44
        unfold mb_formalHere_55
        refine PP.ite (fun c_10 => ?_) (fun c_10 => ?_)
        · skip
          unfold mb_formalHere_60
          refine PP.ix (fun _ => ?_)
          refine PP.bind (mw_note (11 : Int32) (G4 6 ((((F 42) + (1 : Int32)) + (1 : Int32)) - (1 : Int32)).toNatClampNeg) F4 G4) ?_
          intro r11 F11 G11 hK11
          dsimp only
          have g_12 : G11 4 = K := Eq.trans (hK11.2 4 rfl) g_5
          have g_13 : G11 5 = V := Eq.trans (hK11.2 5 rfl) g_6
          have q_14 : F11 42 = (((F 42) + (1 : Int32)) + (1 : Int32)) := Eq.trans (hK11.1 42 rfl) (show (F4 42) = (((F 42) + (1 : Int32)) + (1 : Int32)) by simp only [q_7, q_8, i_as])
          have q_15 : F11 43 = (F0 43) := Eq.trans (hK11.1 43 rfl) (show (F4 43) = (F0 43) by simp only [q_7, q_8, i_as])
          have q_16 : F11 44 = 0 := Eq.trans (hK11.1 44 rfl) q_9
          exact mrj_formalHere_72 (F0 := F0) (R0 := R0) (1 : Int32) ((((F 42) + (1 : Int32)) + (1 : Int32)) - (1 : Int32)) F11 G11 g_12 g_13 (Or.inl ⟨rfl, q_16, (by first | rfl | (simp only [q_14, q_15, i_as])), (hR.trans (by first | rfl | (simp only [rformal, rform2, rsq, rclose, h_2, q_14, q_15, i_as, i10, eq_self, rb_yes, rb_no, ryes, rno, if_true, if_false, f_tt (p := True), reduceIte])))⟩)
        · skip
          exact mrj_formalHere_72 (F0 := F0) (R0 := R0) (1 : Int32) ((((F 42) + (1 : Int32)) + (1 : Int32)) - (1 : Int32)) F4 G4 g_5 g_6 (Or.inl ⟨rfl, q_9, (by first | rfl | (simp only [q_7, q_8, i_as])), (hR.trans (by first | rfl | (simp only [rformal, rform2, rsq, rclose, h_2, q_7, q_8, i_as, i10, eq_self, rb_yes, rb_no, ryes, rno, if_true, if_false, f_tt (p := True), reduceIte])))⟩)
      · skip
        exact absurd (i_npos (show ¬ ((F 44) ≤ (0 : Int32)) from c_3)) (by rw [h44]; decide)
    · dsimp only
      have g_17 : G1 4 = K := Eq.trans (h1.2.2.2 4 rfl) g4
      have g_18 : G1 5 = V := Eq.trans (h1.2.2.2 5 rfl) g5
      have q_19 : F1 42 = ((F 42) + (1 : Int32)) := h1.2.2.1 42 rfl
      have q_20 : F1 43 = (F0 43) := Eq.trans (h1.2.2.1 43 rfl) (show (F 43) = (F0 43) by simp only [h43, i_as])
      rcases h1b with q | q
      · exact absurd q (by rw [h44]; decide)
      · skip
        have h_21 : ¬ K ((F 42) + (1 : Int32)).toNatClampNeg = 1 := by
          rw [← g4, ← g5]
          have q := q
          first | exact q | (simp only [h43, i_as] at q; exact q) | (simp only [h43, i_as] at q ⊢; exact q)
        unfold mb_formalHere_40
        refine PP.ite (fun c_22 => ?_) (fun c_22 => ?_)
        · skip
          exact absurd (i_le.mp (show (F1 44) ≤ (0 : Int32) from c_22)) (by have := h1.1; have l0 : (0 : Int32).toInt = 0 := rfl; omega)
        · skip
          unfold mb_formalHere_48
          refine PP.ret ?_
          refine Or.inr ⟨trivial, h1.1, hR.trans ?_⟩
          first | rfl | (simp only [rformal, rform2, rsq, rclose, h_21, q_19, q_20, i_as, i10, eq_self, rb_yes, rb_no, ryes, rno, if_true, if_false, f_tt (p := True), reduceIte])
  · skip
    unfold mb_formalHere_26
    unfold mb_formalHere_36
    refine PP.bind (mp_name (fup F 42 ((F 42) + (1 : Int32))) G) ?_
    rintro r23 F23 G23 (⟨rfl, rfl, rfl, h23⟩ | ⟨rfl, h23, h23b⟩)
    · dsimp only
      have h_24 : K ((F 42) + (1 : Int32)).toNatClampNeg = 1 := by
        rw [← g4, ← g5]
        have q := h23.1
        first | exact q | (simp only [h43, i_as] at q; exact q) | (simp only [h43, i_as] at q ⊢; exact q)
      unfold mb_formalHere_40
      refine PP.ite (fun c_25 => ?_) (fun c_25 => ?_)
      · skip
        unfold mb_formalHere_50
        refine PP.bind (mw_twice ((((F 42) + (1 : Int32)) + (1 : Int32)) - (1 : Int32)) (fup (fup F 42 ((F 42) + (1 : Int32))) 42 (((F 42) + (1 : Int32)) + (1 : Int32))) G) ?_
        intro r26 F26 G26 hK26
        dsimp only
        have g_27 : G26 4 = K := Eq.trans (hK26.2 4 rfl) g4
        have g_28 : G26 5 = V := Eq.trans (hK26.2 5 rfl) g5
        have q_29 : F26 42 = (((F 42) + (1 : Int32)) + (1 : Int32)) := hK26.1 42 rfl
        have q_30 : F26 43 = (F0 43) := Eq.trans (hK26.1 43 rfl) (show (F 43) = (F0 43) by simp only [h43, i_as])
        have q_31 : F26 44 = 0 := Eq.trans (hK26.1 44 rfl) h44
        unfold mb_formalHere_55
        refine PP.ite (fun c_32 => ?_) (fun c_32 => ?_)
        · skip
          unfold mb_formalHere_60
          refine PP.ix (fun _ => ?_)
          refine PP.bind (mw_note (11 : Int32) (G26 6 ((((F 42) + (1 : Int32)) + (1 : Int32)) - (1 : Int32)).toNatClampNeg) F26 G26) ?_
          intro r33 F33 G33 hK33
          dsimp only
          have g_34 : G33 4 = K := Eq.trans (hK33.2 4 rfl) g_27
          have g_35 : G33 5 = V := Eq.trans (hK33.2 5 rfl) g_28
          have q_36 : F33 42 = (((F 42) + (1 : Int32)) + (1 : Int32)) := Eq.trans (hK33.1 42 rfl) (show (F26 42) = (((F 42) + (1 : Int32)) + (1 : Int32)) by simp only [q_29, q_30, i_as])
          have q_37 : F33 43 = (F0 43) := Eq.trans (hK33.1 43 rfl) (show (F26 43) = (F0 43) by simp only [q_29, q_30, i_as])
          have q_38 : F33 44 = 0 := Eq.trans (hK33.1 44 rfl) q_31
          exact mrj_formalHere_72 (F0 := F0) (R0 := R0) (0 : Int32) ((((F 42) + (1 : Int32)) + (1 : Int32)) - (1 : Int32)) F33 G33 g_34 g_35 (Or.inr ⟨rfl, q_38, (by first | rfl | (simp only [q_36, q_37, i_as])), (hR.trans (by first | rfl | (simp only [rformal, rform2, rsq, rclose, h_24, q_36, q_37, i_as, i10, eq_self, rb_yes, rb_no, ryes, rno, if_true, if_false, f_tt (p := True), reduceIte])))⟩)
        · skip
          exact mrj_formalHere_72 (F0 := F0) (R0 := R0) (0 : Int32) ((((F 42) + (1 : Int32)) + (1 : Int32)) - (1 : Int32)) F26 G26 g_27 g_28 (Or.inr ⟨rfl, q_31, (by first | rfl | (simp only [q_29, q_30, i_as])), (hR.trans (by first | rfl | (simp only [rformal, rform2, rsq, rclose, h_24, q_29, q_30, i_as, i10, eq_self, rb_yes, rb_no, ryes, rno, if_true, if_false, f_tt (p := True), reduceIte])))⟩)
      · skip
        exact absurd (i_npos (show ¬ ((F 44) ≤ (0 : Int32)) from c_25)) (by rw [h44]; decide)
    · dsimp only
      have g_39 : G23 4 = K := Eq.trans (h23.2.2.2 4 rfl) g4
      have g_40 : G23 5 = V := Eq.trans (h23.2.2.2 5 rfl) g5
      have q_41 : F23 42 = ((F 42) + (1 : Int32)) := h23.2.2.1 42 rfl
      have q_42 : F23 43 = (F0 43) := Eq.trans (h23.2.2.1 43 rfl) (show (F 43) = (F0 43) by simp only [h43, i_as])
      rcases h23b with q | q
      · exact absurd q (by rw [h44]; decide)
      · skip
        have h_43 : ¬ K ((F 42) + (1 : Int32)).toNatClampNeg = 1 := by
          rw [← g4, ← g5]
          have q := q
          first | exact q | (simp only [h43, i_as] at q; exact q) | (simp only [h43, i_as] at q ⊢; exact q)
        unfold mb_formalHere_40
        refine PP.ite (fun c_44 => ?_) (fun c_44 => ?_)
        · skip
          exact absurd (i_le.mp (show (F23 44) ≤ (0 : Int32) from c_44)) (by have := h23.1; have l0 : (0 : Int32).toInt = 0 := rfl; omega)
        · skip
          unfold mb_formalHere_48
          refine PP.ret ?_
          refine Or.inr ⟨trivial, h23.1, hR.trans ?_⟩
          first | rfl | (simp only [rformal, rform2, rsq, rclose, h_43, q_41, q_42, i_as, i10, eq_self, rb_yes, rb_no, ryes, rno, if_true, if_false, f_tt (p := True), reduceIte])
theorem mr_formalHere {fu : Nat} {K V : Nat → Int32} (x1 : Int32) (F : PF) (G : PG) (g4 : G 4 = K) (g5 : G 5 = V) (h44 : F 44 = 0) : PP (mf_formalHere fu x1 F G) (fun r' F' _ => ROKV (rformal K V (F 42) (F 43)) F r' F') := by
  unfold mf_formalHere
  unfold mb_formalHere_0
  refine PP.bind (mp_isWord (1 : Int32) F G) ?_
  rintro _ _ _ ⟨rfl, rfl, (⟨rfl, h1⟩ | ⟨rfl, h1⟩)⟩
  · dsimp only
    have h_2 : wdn K V (F 42) (1 : Int32) = true := by
      rw [← g4, ← g5]
      have q := h1
      first | exact q | (simp only [i_as] at q; exact q) | (simp only [i_as] at q ⊢; exact q)
    unfold mb_formalHere_5
    refine PP.ite (fun c_3 => absurd c_3 (by decide)) (fun _ => ?_)
    exact mrj_formalHere_26 (F0 := F) (R0 := (rformal K V (F 42) (F 43))) x1 (1 : Int32) F G g4 g5 (Or.inl ⟨rfl, h44, (by first | rfl | (simp only [i_as])), ((rfl : (rformal K V (F 42) (F 43)) = _).trans (by first | rfl | (simp only [rformal, rform2, rsq, rclose, h_2, i_as, i10, eq_self, rb_yes, rb_no, ryes, rno, if_true, if_false, f_tt (p := True), reduceIte])))⟩)
  · dsimp only
    have h_4 : wdn K V (F 42) (1 : Int32) = false := by
      rw [← g4, ← g5]
      have q := h1
      first | exact q | (simp only [i_as] at q; exact q) | (simp only [i_as] at q ⊢; exact q)
    unfold mb_formalHere_5
    refine PP.ite (fun _ => ?_) (fun c_5 => absurd (by decide) c_5)
    unfold mb_formalHere_10
    refine PP.bind (mp_isWord (0 : Int32) F G) ?_
    rintro _ _ _ ⟨rfl, rfl, (⟨rfl, h6⟩ | ⟨rfl, h6⟩)⟩
    · dsimp only
      have h_7 : wdn K V (F 42) (0 : Int32) = true := by
        rw [← g4, ← g5]
        have q := h6
        first | exact q | (simp only [i_as] at q; exact q) | (simp only [i_as] at q ⊢; exact q)
      unfold mb_formalHere_15
      refine PP.ite (fun c_8 => absurd c_8 (by decide)) (fun _ => ?_)
      exact mrj_formalHere_26 (F0 := F) (R0 := (rformal K V (F 42) (F 43))) x1 (0 : Int32) F G g4 g5 (Or.inr ⟨rfl, h44, (by first | rfl | (simp only [i_as])), ((rfl : (rformal K V (F 42) (F 43)) = _).trans (by first | rfl | (simp only [rformal, rform2, rsq, rclose, h_4, h_7, i_as, i10, eq_self, rb_yes, rb_no, ryes, rno, if_true, if_false, f_tt (p := True), reduceIte])))⟩)
    · dsimp only
      have h_9 : wdn K V (F 42) (0 : Int32) = false := by
        rw [← g4, ← g5]
        have q := h6
        first | exact q | (simp only [i_as] at q; exact q) | (simp only [i_as] at q ⊢; exact q)
      unfold mb_formalHere_15
      refine PP.ite (fun _ => ?_) (fun c_10 => absurd (by decide) c_10)
      unfold mb_formalHere_18
      refine PP.bind (mp_fails (2 : Int32) (by decide) F G) ?_
      rintro r11 F11 G11 ⟨rfl, h11⟩
      dsimp only
      have g_12 : G11 4 = K := Eq.trans (h11.2.2.2 4 rfl) g4
      have g_13 : G11 5 = V := Eq.trans (h11.2.2.2 5 rfl) g5
      have q_14 : F11 42 = (F 42) := h11.2.2.1 42 rfl
      have q_15 : F11 43 = (F 43) := h11.2.2.1 43 rfl
      unfold mb_formalHere_23
      refine PP.ret ?_
      refine Or.inr ⟨trivial, h11.1, (rfl : (rformal K V (F 42) (F 43)) = _).trans ?_⟩
      first | rfl | (simp only [rformal, rform2, rsq, rclose, h_4, h_9, q_14, q_15, i_as, i10, eq_self, rb_yes, rb_no, ryes, rno, if_true, if_false, f_tt (p := True), reduceIte])
theorem mrj_function_282 {fu : Nat} {K V : Nat → Int32} {F0 : PF} {R0 : OR} (x1 : Int32) (x4 : Int32) (x5 : Int32) (F : PF) (G : PG) (g4 : G 4 = K) (g5 : G 5 = V) (hA : (F 44 = 0 ∧ F 43 = ((F0 43) + (1 : Int32)) ∧ R0 = rfend K V fu (F 42) (F 43))) : PP (mb_function_282 fu x1 x4 x5 F G) (fun r' F' _ => ROK R0 F0 r' F') := by
  rcases hA with ⟨h44, h43, hR⟩
  · skip
    unfold mb_function_282
    refine PP.bind (mp_closeSign (23 : Int32) F G) ?_
    rintro r1 F1 G1 (⟨rfl, rfl, rfl, h1⟩ | ⟨rfl, h1, h1b⟩)
    · dsimp only
      have h_2 : sgn K V (F 42) (23 : Int32) = true := by
        rw [← g4, ← g5]
        have q := h1.1
        first | exact q | (simp only [h43, i_as] at q; exact q) | (simp only [h43, i_as] at q ⊢; exact q)
      unfold mb_function_288
      refine PP.ite (fun c_3 => absurd c_3 (by decide)) (fun _ => ?_)
      unfold mb_function_293
      refine PP.ix (fun _ => ?_)
      unfold mb_function_301
      refine PP.ix (fun _ => ?_)
      unfold mb_function_311
      refine PP.bind (mp_isSign (26 : Int32) (fup (fup F 42 ((F 42) + (1 : Int32))) 43 ((F 43) - (1 : Int32))) (gup (gup G 27 x1.toNatClampNeg x5) 30 x1.toNatClampNeg (F 60))) ?_
      rintro _ _ _ ⟨rfl, rfl, (⟨rfl, h4⟩ | ⟨rfl, h4⟩)⟩
      · dsimp only
        have h_5 : sgn K V ((F 42) + (1 : Int32)) (26 : Int32) = true := by
          rw [← g4, ← g5]
          have q := h4
          first | exact q | (simp only [h43, i_as] at q; exact q) | (simp only [h43, i_as] at q ⊢; exact q)
        unfold mb_function_317
        refine PP.ite (fun c_6 => absurd c_6 (by decide)) (fun _ => ?_)
        unfold mb_function_326
        refine PP.bind (PP.and (mw_block (fup (fup F 42 ((F 42) + (1 : Int32))) 43 ((F 43) - (1 : Int32))) (gup (gup G 27 x1.toNatClampNeg x5) 30 x1.toNatClampNeg (F 60))) (mr_block (fup (fup F 42 ((F 42) + (1 : Int32))) 43 ((F 43) - (1 : Int32))) (gup (gup G 27 x1.toNatClampNeg x5) 30 x1.toNatClampNeg (F 60)) g4 g5 (show (fup (fup F 42 ((F 42) + (1 : Int32))) 43 ((F 43) - (1 : Int32))) 44 = 0 from h44))) ?_
        rintro r7 F7 G7 ⟨hK7, (⟨rfl, h7a, h7b, h7⟩ | ⟨rfl, h7a, h7⟩)⟩
        · dsimp only
          have g_8 : G7 4 = K := Eq.trans (hK7.2 4 rfl) g4
          have g_9 : G7 5 = V := Eq.trans (hK7.2 5 rfl) g5
          have h_10 : rS2 K V fu 300 0 ((F 42) + (1 : Int32)) (((F0 43) + (1 : Int32)) - (1 : Int32)) = some (some (F7 42)) := by
            have q : rS2 K V fu 300 0 ((F 42) + (1 : Int32)) ((F 43) - (1 : Int32)) = some (some (F7 42)) := h7
            simp only [h43, i_as] at q; exact q
          have q_11 : F7 43 = (((F0 43) + (1 : Int32)) - (1 : Int32)) := by
            have q := (show F7 43 = ((F 43) - (1 : Int32)) from h7b)
            simp only [h43, i_as] at q; exact q
          unfold mb_function_330
          refine PP.ite (fun c_12 => absurd c_12 (by decide)) (fun _ => ?_)
          unfold mb_function_335
          refine PP.bind (mw_step (0 : Int32) (0 : Int32) (0 : Int32) F7 G7) ?_
          intro r13 F13 G13 hK13
          dsimp only
          have g_14 : G13 4 = K := Eq.trans (hK13.2 4 rfl) g_8
          have g_15 : G13 5 = V := Eq.trans (hK13.2 5 rfl) g_9
          have q_16 : F13 42 = (F7 42) := hK13.1 42 rfl
          have q_17 : F13 43 = (((F0 43) + (1 : Int32)) - (1 : Int32)) := Eq.trans (hK13.1 43 rfl) (show (F7 43) = (((F0 43) + (1 : Int32)) - (1 : Int32)) by simp only [q_11, i_as])
          have q_18 : F13 44 = 0 := Eq.trans (hK13.1 44 rfl) h7a
          unfold mb_function_342
          refine PP.bind (mw_step (17 : Int32) (0 : Int32) (0 : Int32) F13 G13) ?_
          intro r19 F19 G19 hK19
          dsimp only
          have g_20 : G19 4 = K := Eq.trans (hK19.2 4 rfl) g_14
          have g_21 : G19 5 = V := Eq.trans (hK19.2 5 rfl) g_15
          have q_22 : F19 42 = (F7 42) := Eq.trans (hK19.1 42 rfl) (show (F13 42) = (F7 42) by simp only [q_16, q_17, i_as])
          have q_23 : F19 43 = (((F0 43) + (1 : Int32)) - (1 : Int32)) := Eq.trans (hK19.1 43 rfl) (show (F13 43) = (((F0 43) + (1 : Int32)) - (1 : Int32)) by simp only [q_16, q_17, i_as])
          have q_24 : F19 44 = 0 := Eq.trans (hK19.1 44 rfl) q_18
          unfold mb_function_351
          refine PP.ix (fun _ => ?_)
          unfold mb_function_365
          refine PP.ix (fun _ => ?_)
          unfold mb_function_375
          refine PP.bind (mw_ends (0 : Int32) F19 (gup (gup G19 28 x1.toNatClampNeg (x4 + (F19 52))) 29 x1.toNatClampNeg (F19 53))) ?_
          intro r25 F25 G25 hK25
          dsimp only
          have g_26 : G25 4 = K := Eq.trans (hK25.2 4 rfl) g_20
          have g_27 : G25 5 = V := Eq.trans (hK25.2 5 rfl) g_21
          have q_28 : F25 42 = (F7 42) := Eq.trans (hK25.1 42 rfl) (show (F19 42) = (F7 42) by simp only [q_22, q_23, i_as])
          have q_29 : F25 43 = (((F0 43) + (1 : Int32)) - (1 : Int32)) := Eq.trans (hK25.1 43 rfl) (show (F19 43) = (((F0 43) + (1 : Int32)) - (1 : Int32)) by simp only [q_22, q_23, i_as])
          have q_30 : F25 44 = 0 := Eq.trans (hK25.1 44 rfl) q_24
          unfold mb_function_380
          unfold mb_function_385
          refine PP.ret ?_
          refine Or.inl ⟨rfl, q_30, ?_, hR.trans ?_⟩
          · show (F25 43) = F0 43
            first | rfl | (simp only [q_28, q_29, i_as])
          · show _ = some (some (F25 42))
            first | rfl | (simp only [rfunction, rl_formals, rfend, h_2, h_5, h_10, q_28, q_29, i_as, i10, eq_self, rb_yes, rb_no, ryes, rno, if_true, if_false, f_tt (p := True), reduceIte])
        · dsimp only
          have g_31 : G7 4 = K := Eq.trans (hK7.2 4 rfl) g4
          have g_32 : G7 5 = V := Eq.trans (hK7.2 5 rfl) g5
          have h_33 : rS2 K V fu 300 0 ((F 42) + (1 : Int32)) (((F0 43) + (1 : Int32)) - (1 : Int32)) = some (none) := by
            have q : rS2 K V fu 300 0 ((F 42) + (1 : Int32)) ((F 43) - (1 : Int32)) = some (none) := h7
            simp only [h43, i_as] at q; exact q
          unfold mb_function_330
          refine PP.ite (fun _ => ?_) (fun c_34 => absurd (by decide) c_34)
          unfold mb_function_333
          refine PP.ret ?_
          refine Or.inr ⟨rfl, h7a, hR.trans ?_⟩
          first | rfl | (simp only [rfunction, rl_formals, rfend, h_2, h_5, h_33, i_as, i10, eq_self, rb_yes, rb_no, ryes, rno, if_true, if_false, f_tt (p := True), reduceIte])
      · dsimp only
        have h_35 : sgn K V ((F 42) + (1 : Int32)) (26 : Int32) = false := by
          rw [← g4, ← g5]
          have q := h4
          first | exact q | (simp only [h43, i_as] at q; exact q) | (simp only [h43, i_as] at q ⊢; exact q)
        unfold mb_function_317
        refine PP.ite (fun _ => ?_) (fun c_36 => absurd (by decide) c_36)
        unfold mb_function_320
        refine PP.bind (mp_fails (2 : Int32) (by decide) (fup (fup F 42 ((F 42) + (1 : Int32))) 43 ((F 43) - (1 : Int32))) (gup (gup G 27 x1.toNatClampNeg x5) 30 x1.toNatClampNeg (F 60))) ?_
        rintro r37 F37 G37 ⟨rfl, h37⟩
        dsimp only
        have g_38 : G37 4 = K := Eq.trans (h37.2.2.2 4 rfl) g4
        have g_39 : G37 5 = V := Eq.trans (h37.2.2.2 5 rfl) g5
        have q_40 : F37 42 = ((F 42) + (1 : Int32)) := h37.2.2.1 42 rfl
        have q_41 : F37 43 = (((F0 43) + (1 : Int32)) - (1 : Int32)) := Eq.trans (h37.2.2.1 43 rfl) (show ((F 43) - (1 : Int32)) = (((F0 43) + (1 : Int32)) - (1 : Int32)) by simp only [h43, i_as])
        unfold mb_function_325
        refine PP.ret ?_
        refine Or.inr ⟨rfl, h37.1, hR.trans ?_⟩
        first | rfl | (simp only [rfunction, rl_formals, rfend, h_2, h_35, q_40, q_41, i_as, i10, eq_self, rb_yes, rb_no, ryes, rno, if_true, if_false, f_tt (p := True), reduceIte])
    · dsimp only
      have g_42 : G1 4 = K := Eq.trans (h1.2.2.2 4 rfl) g4
      have g_43 : G1 5 = V := Eq.trans (h1.2.2.2 5 rfl) g5
      have q_44 : F1 42 = (F 42) := h1.2.2.1 42 rfl
      have q_45 : F1 43 = ((F0 43) + (1 : Int32)) := Eq.trans (h1.2.2.1 43 rfl) (show (F 43) = ((F0 43) + (1 : Int32)) by simp only [h43, i_as])
      rcases h1b with q | q
      · exact absurd q (by rw [h44]; decide)
      · skip
        have h_46 : sgn K V (F 42) (23 : Int32) = false := by
          rw [← g4, ← g5]
          have q := q
          first | exact q | (simp only [h43, i_as] at q; exact q) | (simp only [h43, i_as] at q ⊢; exact q)
        unfold mb_function_288
        refine PP.ite (fun _ => ?_) (fun c_47 => absurd (by decide) c_47)
        unfold mb_function_291
        refine PP.ret ?_
        refine Or.inr ⟨rfl, h1.1, hR.trans ?_⟩
        first | rfl | (simp only [rfunction, rl_formals, rfend, h_46, q_44, q_45, i_as, i10, eq_self, rb_yes, rb_no, ryes, rno, if_true, if_false, f_tt (p := True), reduceIte])
