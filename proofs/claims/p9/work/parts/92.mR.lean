def rl_vals (K V : Nat → Int32) (fu : Nat) (o : Int32) : Nat → Int32 → OR
  | 0 => fun _ => none
  | n + 1 => fun t => rb (rS1 K V fu 300 4 t o) (fun t1 => if sgn K V t1 28 = true then rl_vals K V fu o n (t1 + 1) else rclose K V 27 t1)
def rarr2 (K V : Nat → Int32) (fu : Nat) (t o : Int32) : OR := if sgn K V t 32 = true then (if sgn K V (t + 1) 26 = true then (if o = 40 then rno else rl_vals K V fu (o + 1) fu (t + 1 + 1)) else rno) else ryes t
def rarray (K V : Nat → Int32) (fu : Nat) (t o : Int32) : OR := rb (rsize K V fu t o) (fun t1 => rarr2 K V fu t1 o)
def rconst (K V : Nat → Int32) (fu : Nat) (t o : Int32) : OR := if K t.toNatClampNeg = 1 then (if sgn K V (t + 1) 32 = true then rb (rS1 K V fu 300 4 (t + 1 + 1) o) (fun t1 => rclose K V 29 t1) else rno) else rno
def rsq (K V : Nat → Int32) (t o : Int32) : OR := if sgn K V t 24 = true then (if o = 40 then rno else rclose K V 25 (t + 1)) else rno
def rform2 (K V : Nat → Int32) (b : Int32) (t o : Int32) : OR := if b = 0 then (if sgn K V t 24 = true then rsq K V t o else ryes t) else rsq K V t o
def rformal (K V : Nat → Int32) (t o : Int32) : OR := if wdn K V t 1 = true then (if K (t + 1).toNatClampNeg = 1 then rform2 K V 1 (t + 1 + 1) o else rno) else if wdn K V t 0 = true then (if K (t + 1).toNatClampNeg = 1 then rform2 K V 0 (t + 1 + 1) o else rno) else rno
def rfend (K V : Nat → Int32) (fu : Nat) (t o : Int32) : OR := if sgn K V t 23 = true then (if sgn K V (t + 1) 26 = true then rS2 K V fu 300 0 (t + 1) (o - 1) else rno) else rno
def rl_formals (K V : Nat → Int32) (fu : Nat) (o : Int32) : Nat → Int32 → OR
  | 0 => fun _ => none
  | n + 1 => fun t => rb (rformal K V t o) (fun t1 => if sgn K V t1 28 = true then rl_formals K V fu o n (t1 + 1) else rfend K V fu t1 o)
def rfunction (K V : Nat → Int32) (fu : Nat) (t o : Int32) : OR := if sgn K V t 22 = true then (if o = 40 then rno else if sgn K V (t + 1) 23 = true then rfend K V fu (t + 1) (o + 1) else rl_formals K V fu (o + 1) fu (t + 1)) else rno
def rtl3 (K V : Nat → Int32) (fu : Nat) (v b : Int32) (t o : Int32) : OR := if v = 0 then (if b = 0 then (if sgn K V t 29 = true then rclose K V 29 t else if sgn K V t 32 = true then rb (rS1 K V fu 300 4 (t + 1) o) (fun t1 => rclose K V 29 t1) else rb (rarray K V fu t o) (fun t1 => rclose K V 29 t1)) else rb (rarray K V fu t o) (fun t1 => rclose K V 29 t1)) else rno
def rtl2 (K V : Nat → Int32) (fu : Nat) (v b : Int32) (t o : Int32) : OR := if b = 0 then (if sgn K V t 22 = true then rfunction K V fu t o else rtl3 K V fu v b t o) else rtl3 K V fu v b t o
def rtl1 (K V : Nat → Int32) (fu : Nat) (v b : Int32) (t o : Int32) : OR := if K (t + 1).toNatClampNeg = 1 then rtl2 K V fu v b (t + 1 + 1) o else rno
def rtells (K V : Nat → Int32) (fu : Nat) (t o : Int32) : OR := if wdn K V t 3 = true then (if wdn K V (t + 1) 0 = true then rconst K V fu (t + 1 + 1) o else rno) else if wdn K V t 2 = true then rtl1 K V fu 1 0 t o else if wdn K V t 1 = true then rtl1 K V fu 0 1 t o else if wdn K V t 0 = true then rtl1 K V fu 0 0 t o else rno
theorem wdn_ne {K V : Nat → Int32} {t a b : Int32} (h : wdn K V t a = true) (e : a ≠ b) : wdn K V t b = false := decide_eq_false (fun q => e ((of_decide_eq_true h).2.symm.trans q.2))
theorem mr_globalInt {fu : Nat} (x1 : Int32) (F : PF) (G : PG) : PP (mf_globalInt fu x1 F G) (fun r _ _ => r = 1) := by
  unfold mf_globalInt mb_globalInt_0
  refine PP.bind (mw_globalAt x1 F G) ?_
  intro r1 F1 G1 h1
  dsimp only
  unfold mb_globalInt_5 mb_globalInt_21
  refine PP.ix (fun _ => ?_)
  refine PP.bind (mw_declare _ _ _ _ _ _ F1 G1) ?_
  intro r2 F2 G2 h2
  dsimp only
  exact PP.ret rfl

theorem mr_constantTold {fu : Nat} {K V : Nat → Int32} (F : PF) (G : PG) (g4 : G 4 = K) (g5 : G 5 = V) (h44 : F 44 = 0) : PP (mf_constantTold fu F G) (fun r' F' _ => ROK (rconst K V fu (F 42) (F 43)) F r' F') := by
  unfold mf_constantTold
  unfold mb_constantTold_0
  refine PP.bind (mp_name F G) ?_
  rintro r1 F1 G1 (⟨rfl, rfl, rfl, u1⟩ | ⟨rfl, u1, u1b⟩)
  · dsimp only
    have h_2 : K (F 42).toNatClampNeg = 1 := by
      rw [← g4]
      have q := u1.1
      first | exact q | (simp only [i_as] at q; exact q)
    have h_3 := eq_true h_2
    unfold mb_constantTold_4
    refine PP.bind (mp_sign (32 : Int32) (fup F 42 ((F 42) + (1 : Int32))) G) ?_
    rintro r4 F4 G4 (⟨rfl, rfl, rfl, u4⟩ | ⟨rfl, u4, u4b⟩)
    · dsimp only
      have h_5 : sgn K V ((F 42) + (1 : Int32)) (32 : Int32) = true := by
        rw [← g4, ← g5]
        have q := u4.1
        first | exact q | (simp only [i_as] at q; exact q)
      unfold mb_constantTold_11
      refine PP.ite (fun c_6 => absurd c_6 (by decide)) (fun _ => ?_)
      unfold mb_constantTold_16
      refine PP.bind (PP.and (mw_value (fup (fup F 42 ((F 42) + (1 : Int32))) 42 (((F 42) + (1 : Int32)) + (1 : Int32))) G) (mr_value (fup (fup F 42 ((F 42) + (1 : Int32))) 42 (((F 42) + (1 : Int32)) + (1 : Int32))) G g4 g5 (show (fup (fup F 42 ((F 42) + (1 : Int32))) 42 (((F 42) + (1 : Int32)) + (1 : Int32))) 44 = 0 from h44))) ?_
      rintro r7 F7 G7 ⟨hK7, (⟨-, u7a, u7b, u7⟩ | ⟨-, u7a, u7⟩)⟩
      · dsimp only
        have g_8 : G7 4 = K := Eq.trans (hK7.2 4 rfl) g4
        have g_9 : G7 5 = V := Eq.trans (hK7.2 5 rfl) g5
        have h_10 : rS1 K V fu 300 4 (((F 42) + (1 : Int32)) + (1 : Int32)) (F 43) = some (some (F7 42)) := u7
        have q_11 : F7 43 = (F 43) := (show F7 43 = (F 43) from u7b)
        unfold mb_constantTold_20
        refine PP.ite (fun c_12 => ?_) (fun c_12 => ?_)
        · skip
          unfold mb_constantTold_30
          refine PP.bind (mw_twice (((F 42) + (1 : Int32)) - (1 : Int32)) F7 G7) ?_
          intro r13 F13 G13 hK13
          dsimp only
          have g_14 : G13 4 = K := Eq.trans (hK13.2 4 rfl) g_8
          have g_15 : G13 5 = V := Eq.trans (hK13.2 5 rfl) g_9
          have q_16 : F13 42 = (F7 42) := hK13.1 42 rfl
          have q_17 : F13 43 = (F 43) := Eq.trans (hK13.1 43 rfl) (show (F7 43) = (F 43) by simp only [q_11, i_as])
          have q_18 : F13 44 = 0 := Eq.trans (hK13.1 44 rfl) u7a
          unfold mb_constantTold_40
          refine PP.ite (fun c_19 => ?_) (fun c_19 => ?_)
          · skip
            unfold mb_constantTold_53
            unfold mb_constantTold_54
            refine PP.bind (mw_declare (((F 42) + (1 : Int32)) - (1 : Int32)) (0 : Int32) (0 : Int32) r7 (1 : Int32) (0 : Int32) F13 G13) ?_
            intro r20 F20 G20 hK20
            dsimp only
            have g_21 : G20 4 = K := Eq.trans (hK20.2 4 rfl) g_14
            have g_22 : G20 5 = V := Eq.trans (hK20.2 5 rfl) g_15
            have q_23 : F20 42 = (F7 42) := Eq.trans (hK20.1 42 rfl) (show (F13 42) = (F7 42) by simp only [q_16, q_17, i_as])
            have q_24 : F20 43 = (F 43) := Eq.trans (hK20.1 43 rfl) (show (F13 43) = (F 43) by simp only [q_16, q_17, i_as])
            have q_25 : F20 44 = 0 := Eq.trans (hK20.1 44 rfl) q_18
            unfold mb_constantTold_58
            refine PP.bind (mp_sign (29 : Int32) F20 G20) ?_
            rintro r26 F26 G26 (⟨rfl, rfl, rfl, u26⟩ | ⟨rfl, u26, u26b⟩)
            · dsimp only
              have h_27 : sgn K V (F7 42) (29 : Int32) = true := by
                rw [← g_21, ← g_22]
                have q := u26.1
                first | exact q | (simp only [q_23, q_24, i_as] at q; exact q)
              unfold mb_constantTold_64
              refine PP.ret ?_
              refine Or.inl ⟨rfl, q_25, ?_, (rfl : (rconst K V fu (F 42) (F 43)) = _).trans ?_⟩
              · show (F20 43) = F 43
                first | with_reducible rfl | (simp only [q_11, q_16, q_17, q_23, q_24, i_as, fup, Nat.reduceEqDiff, reduceIte, if_false]) | rfl
              · show _ = some (some ((F20 42) + (1 : Int32)))
                first | with_reducible rfl | (simp only [rconst, rclose, h_3, h_5, h_10, h_27, q_11, q_16, q_17, q_23, q_24, i_as, fup, i_a0, i0m, i10, eq_self, rb_yes, rb_no, ryes, rno, if_true, if_false, f_tt (p := True), reduceIte, Nat.reduceEqDiff]) | rfl
            · dsimp only
              have g_28 : G26 4 = K := Eq.trans (u26.2.2.2 4 rfl) g_21
              have g_29 : G26 5 = V := Eq.trans (u26.2.2.2 5 rfl) g_22
              have q_30 : F26 42 = (F7 42) := Eq.trans (u26.2.2.1 42 rfl) (show (F20 42) = (F7 42) by simp only [q_23, q_24, i_as])
              have q_31 : F26 43 = (F 43) := Eq.trans (u26.2.2.1 43 rfl) (show (F20 43) = (F 43) by simp only [q_23, q_24, i_as])
              rcases u26b with q | q
              · exact absurd q (show ¬ 0 < (F20 44).toInt by rw [q_25]; decide)
              · skip
                have h_32 : sgn K V (F7 42) (29 : Int32) = false := by
                  rw [← g_21, ← g_22]
                  have q := q
                  first | exact q | (simp only [q_23, q_24, i_as] at q; exact q)
                unfold mb_constantTold_64
                refine PP.ret ?_
                refine Or.inr ⟨rfl, u26.1, (rfl : (rconst K V fu (F 42) (F 43)) = _).trans ?_⟩
                first | with_reducible rfl | (simp only [rconst, rclose, h_3, h_5, h_10, h_32, q_11, q_16, q_17, q_23, q_24, q_30, q_31, i_as, fup, i_a0, i0m, i10, eq_self, rb_yes, rb_no, ryes, rno, if_true, if_false, f_tt (p := True), reduceIte, Nat.reduceEqDiff]) | rfl
          · skip
            unfold mb_constantTold_49
            unfold mb_constantTold_54
            refine PP.bind (mw_declare (((F 42) + (1 : Int32)) - (1 : Int32)) (0 : Int32) (0 : Int32) r7 (-1 : Int32) (0 : Int32) F13 G13) ?_
            intro r33 F33 G33 hK33
            dsimp only
            have g_34 : G33 4 = K := Eq.trans (hK33.2 4 rfl) g_14
            have g_35 : G33 5 = V := Eq.trans (hK33.2 5 rfl) g_15
            have q_36 : F33 42 = (F7 42) := Eq.trans (hK33.1 42 rfl) (show (F13 42) = (F7 42) by simp only [q_16, q_17, i_as])
            have q_37 : F33 43 = (F 43) := Eq.trans (hK33.1 43 rfl) (show (F13 43) = (F 43) by simp only [q_16, q_17, i_as])
            have q_38 : F33 44 = 0 := Eq.trans (hK33.1 44 rfl) q_18
            unfold mb_constantTold_58
            refine PP.bind (mp_sign (29 : Int32) F33 G33) ?_
            rintro r39 F39 G39 (⟨rfl, rfl, rfl, u39⟩ | ⟨rfl, u39, u39b⟩)
            · dsimp only
              have h_40 : sgn K V (F7 42) (29 : Int32) = true := by
                rw [← g_34, ← g_35]
                have q := u39.1
                first | exact q | (simp only [q_36, q_37, i_as] at q; exact q)
              unfold mb_constantTold_64
              refine PP.ret ?_
              refine Or.inl ⟨rfl, q_38, ?_, (rfl : (rconst K V fu (F 42) (F 43)) = _).trans ?_⟩
              · show (F33 43) = F 43
                first | with_reducible rfl | (simp only [q_11, q_16, q_17, q_36, q_37, i_as, fup, Nat.reduceEqDiff, reduceIte, if_false]) | rfl
              · show _ = some (some ((F33 42) + (1 : Int32)))
                first | with_reducible rfl | (simp only [rconst, rclose, h_3, h_5, h_10, h_40, q_11, q_16, q_17, q_36, q_37, i_as, fup, i_a0, i0m, i10, eq_self, rb_yes, rb_no, ryes, rno, if_true, if_false, f_tt (p := True), reduceIte, Nat.reduceEqDiff]) | rfl
            · dsimp only
              have g_41 : G39 4 = K := Eq.trans (u39.2.2.2 4 rfl) g_34
              have g_42 : G39 5 = V := Eq.trans (u39.2.2.2 5 rfl) g_35
              have q_43 : F39 42 = (F7 42) := Eq.trans (u39.2.2.1 42 rfl) (show (F33 42) = (F7 42) by simp only [q_36, q_37, i_as])
              have q_44 : F39 43 = (F 43) := Eq.trans (u39.2.2.1 43 rfl) (show (F33 43) = (F 43) by simp only [q_36, q_37, i_as])
              rcases u39b with q | q
              · exact absurd q (show ¬ 0 < (F33 44).toInt by rw [q_38]; decide)
              · skip
                have h_45 : sgn K V (F7 42) (29 : Int32) = false := by
                  rw [← g_34, ← g_35]
                  have q := q
                  first | exact q | (simp only [q_36, q_37, i_as] at q; exact q)
                unfold mb_constantTold_64
                refine PP.ret ?_
                refine Or.inr ⟨rfl, u39.1, (rfl : (rconst K V fu (F 42) (F 43)) = _).trans ?_⟩
                first | with_reducible rfl | (simp only [rconst, rclose, h_3, h_5, h_10, h_45, q_11, q_16, q_17, q_36, q_37, q_43, q_44, i_as, fup, i_a0, i0m, i10, eq_self, rb_yes, rb_no, ryes, rno, if_true, if_false, f_tt (p := True), reduceIte, Nat.reduceEqDiff]) | rfl
        · skip
          exact absurd (i_npos (show ¬ ((F7 44) ≤ (0 : Int32)) from c_12)) (by rw [u7a]; decide)
      · dsimp only
        have g_46 : G7 4 = K := Eq.trans (hK7.2 4 rfl) g4
        have g_47 : G7 5 = V := Eq.trans (hK7.2 5 rfl) g5
        have h_48 : rS1 K V fu 300 4 (((F 42) + (1 : Int32)) + (1 : Int32)) (F 43) = some (none) := u7
        unfold mb_constantTold_20
        refine PP.ite (fun c_49 => ?_) (fun c_49 => ?_)
        · skip
          exact absurd (i_le.mp (show (F7 44) ≤ (0 : Int32) from c_49)) (by have := u7a; have l0 : (0 : Int32).toInt = 0 := rfl; omega)
        · skip
          unfold mb_constantTold_28
          refine PP.ret ?_
          refine Or.inr ⟨rfl, u7a, (rfl : (rconst K V fu (F 42) (F 43)) = _).trans ?_⟩
          first | with_reducible rfl | (simp only [rconst, rclose, h_3, h_5, h_48, i_as, fup, i_a0, i0m, i10, eq_self, rb_yes, rb_no, ryes, rno, if_true, if_false, f_tt (p := True), reduceIte, Nat.reduceEqDiff]) | rfl
    · dsimp only
      have g_50 : G4 4 = K := Eq.trans (u4.2.2.2 4 rfl) g4
      have g_51 : G4 5 = V := Eq.trans (u4.2.2.2 5 rfl) g5
      have q_52 : F4 42 = ((F 42) + (1 : Int32)) := u4.2.2.1 42 rfl
      have q_53 : F4 43 = (F 43) := u4.2.2.1 43 rfl
      rcases u4b with q | q
      · exact absurd q (show ¬ 0 < (F 44).toInt by rw [h44]; decide)
      · skip
        have h_54 : sgn K V ((F 42) + (1 : Int32)) (32 : Int32) = false := by
          rw [← g4, ← g5]
          have q := q
          first | exact q | (simp only [i_as] at q; exact q)
        unfold mb_constantTold_11
        refine PP.ite (fun _ => ?_) (fun c_55 => absurd (by decide) c_55)
        unfold mb_constantTold_14
        refine PP.ret ?_
        refine Or.inr ⟨rfl, u4.1, (rfl : (rconst K V fu (F 42) (F 43)) = _).trans ?_⟩
        first | with_reducible rfl | (simp only [rconst, rclose, h_3, h_54, q_52, q_53, i_as, fup, i_a0, i0m, i10, eq_self, rb_yes, rb_no, ryes, rno, if_true, if_false, f_tt (p := True), reduceIte, Nat.reduceEqDiff]) | rfl
  · dsimp only
    have g_56 : G1 4 = K := Eq.trans (u1.2.2.2 4 rfl) g4
    have g_57 : G1 5 = V := Eq.trans (u1.2.2.2 5 rfl) g5
    have q_58 : F1 42 = (F 42) := u1.2.2.1 42 rfl
    have q_59 : F1 43 = (F 43) := u1.2.2.1 43 rfl
    rcases u1b with q | q
    · exact absurd q (show ¬ 0 < (F 44).toInt by rw [h44]; decide)
    · skip
      have h_60 : ¬ K (F 42).toNatClampNeg = 1 := by
        rw [← g4]
        have q := q
        first | exact q | (simp only [i_as] at q; exact q)
      unfold mb_constantTold_4
      refine PP.bind (mp_sign (32 : Int32) F1 G1) ?_
      rintro r61 F61 G61 (⟨rfl, rfl, rfl, u61⟩ | ⟨rfl, u61, u61b⟩)
      · dsimp only
        exact absurd u1.1 u61.2
      · dsimp only
        have g_62 : G61 4 = K := Eq.trans (u61.2.2.2 4 rfl) g_56
        have g_63 : G61 5 = V := Eq.trans (u61.2.2.2 5 rfl) g_57
        have q_64 : F61 42 = (F 42) := Eq.trans (u61.2.2.1 42 rfl) (show (F1 42) = (F 42) by simp only [q_58, q_59, i_as])
        have q_65 : F61 43 = (F 43) := Eq.trans (u61.2.2.1 43 rfl) (show (F1 43) = (F 43) by simp only [q_58, q_59, i_as])
        unfold mb_constantTold_11
        refine PP.ite (fun _ => ?_) (fun c_66 => absurd (by decide) c_66)
        unfold mb_constantTold_14
        refine PP.ret ?_
        refine Or.inr ⟨rfl, u61.1, (rfl : (rconst K V fu (F 42) (F 43)) = _).trans ?_⟩
        first | with_reducible rfl | (simp only [rconst, rclose, h_60, q_58, q_59, q_64, q_65, i_as, fup, i_a0, i0m, i10, eq_self, rb_yes, rb_no, ryes, rno, if_true, if_false, f_tt (p := True), reduceIte, Nat.reduceEqDiff]) | rfl
theorem mrj_array_384 {fu : Nat} {K V : Nat → Int32} {F0 : PF} {R0 : OR} {n297 : Nat} (ag_297 : Int32 → Int32 → Int32 → Int32 → Int32 → Int32 → Int32 → PF → PG → PR) (hag_297 : ∀ (x1 : Int32) (x2 : Int32) (x3 : Int32) (x4 : Int32) (x7 : Int32) (x8 : Int32) (x9 : Int32) (F : PF) (G : PG) (g4 : G 4 = K) (g5 : G 5 = V) (hA : (x9 = 1 ∧ F 44 = 0 ∧ F 43 = ((F0 43) + (1 : Int32)) ∧ R0 = rl_vals K V fu (F 43) n297 (F 42)) ∨ (x9 = 0 ∧ F 44 = 0 ∧ F 43 = ((F0 43) + (1 : Int32)) ∧ R0 = rclose K V 27 (F 42)) ∨ (x9 = 0 ∧ 0 < (F 44).toInt ∧ R0 = rno)), PP (ag_297 x1 x2 x3 x4 x7 x8 x9 F G) (fun r' F' _ => ROK R0 F0 r' F')) (x1 : Int32) (x2 : Int32) (x3 : Int32) (x4 : Int32) (x7 : Int32) (x8 : Int32) (F : PF) (G : PG) (g4 : G 4 = K) (g5 : G 5 = V) (hA : (F 44 = 0 ∧ F 43 = ((F0 43) + (1 : Int32)) ∧ R0 = (if sgn K V (F 42) 28 = true then rl_vals K V fu (F 43) n297 ((F 42) + 1) else rclose K V 27 (F 42))) ∨ (0 < (F 44).toInt ∧ R0 = rno)) : PP (mb_array_384 fu ag_297 x1 x2 x3 x4 x7 x8 F G) (fun r' F' _ => ROK R0 F0 r' F') := by
  rcases hA with ⟨h44, h43, hR⟩ | ⟨hf, hR⟩
  · skip
    unfold mb_array_384
    refine PP.ite (fun c_1 => ?_) (fun c_1 => ?_)
    · skip
      unfold mb_array_394
      refine PP.bind (mp_isSign (28 : Int32) F G) ?_
      rintro _ _ _ ⟨rfl, rfl, (⟨rfl, u2⟩ | ⟨rfl, u2⟩)⟩
      · dsimp only
        have h_3 : sgn K V (F 42) (28 : Int32) = true := by
          rw [← g4, ← g5]
          have q := u2
          first | exact q | (simp only [h43, i_as] at q; exact q)
        unfold mb_array_400
        refine PP.ite (fun c_4 => absurd c_4 (by decide)) (fun _ => ?_)
        unfold mb_array_403
        unfold mb_array_408
        refine PP.ite (fun c_5 => absurd c_5 (by decide)) (fun _ => ?_)
        unfold mb_array_420
        unfold mb_array_425
        unfold mb_array_429
        exact hag_297 x1 x2 x3 x4 x7 (x8 + (1 : Int32)) (1 : Int32) (fup F 42 ((F 42) + (1 : Int32))) G g4 g5 (Or.inl ⟨rfl, h44, (by first | with_reducible rfl | (simp only [h43, i_as, fup, Nat.reduceEqDiff, reduceIte, if_false]) | rfl), (hR.trans (by first | with_reducible rfl | (simp only [rarray, rsize, rarr2, rl_vals, rclose, h_3, h43, i_as, fup, i_a0, i0m, i10, eq_self, rb_yes, rb_no, ryes, rno, if_true, if_false, f_tt (p := True), reduceIte, Nat.reduceEqDiff]) | rfl))⟩)
      · dsimp only
        have h_6 : sgn K V (F 42) (28 : Int32) = false := by
          rw [← g4, ← g5]
          have q := u2
          first | exact q | (simp only [h43, i_as] at q; exact q)
        unfold mb_array_400
        refine PP.ite (fun _ => ?_) (fun c_7 => absurd (by decide) c_7)
        unfold mb_array_407
        unfold mb_array_408
        refine PP.ite (fun _ => ?_) (fun c_8 => absurd (by decide) c_8)
        unfold mb_array_424
        unfold mb_array_425
        unfold mb_array_429
        exact hag_297 x1 x2 x3 x4 x7 (x8 + (1 : Int32)) (0 : Int32) (fup F 42 ((F 42) + (0 : Int32))) G g4 g5 (Or.inr (Or.inl ⟨rfl, h44, (by first | with_reducible rfl | (simp only [h43, i_as, fup, Nat.reduceEqDiff, reduceIte, if_false]) | rfl), (hR.trans (by first | with_reducible rfl | (simp only [rarray, rsize, rarr2, rl_vals, rclose, h_6, h43, i_as, fup, i_a0, i0m, i10, eq_self, rb_yes, rb_no, ryes, rno, if_true, if_false, f_tt (p := True), reduceIte, Nat.reduceEqDiff]) | rfl))⟩))
    · skip
      exact absurd h44 (show ¬ ((F 44) = (0 : Int32)) from c_1)
  · skip
    unfold mb_array_384
    refine PP.ite (fun c_9 => ?_) (fun c_9 => ?_)
    · skip
      exact absurd (congrArg Int32.toInt (show (F 44) = (0 : Int32) from c_9)) (by have := hf; have l0 : (0 : Int32).toInt = 0 := rfl; omega)
    · skip
      unfold mb_array_407
      unfold mb_array_408
      refine PP.ite (fun _ => ?_) (fun c_10 => absurd (by decide) c_10)
      unfold mb_array_424
      unfold mb_array_425
      unfold mb_array_429
      exact hag_297 x1 x2 x3 x4 x7 (x8 + (1 : Int32)) (0 : Int32) (fup F 42 ((F 42) + (0 : Int32))) G g4 g5 (Or.inr (Or.inr ⟨rfl, hf, (hR.trans (by first | with_reducible rfl | (simp only [rarray, rsize, rarr2, rl_vals, rclose, i_as, fup, i_a0, i0m, i10, eq_self, rb_yes, rb_no, ryes, rno, if_true, if_false, f_tt (p := True), reduceIte, Nat.reduceEqDiff]) | rfl))⟩))
theorem mrj_array_383 {fu : Nat} {K V : Nat → Int32} {F0 : PF} {R0 : OR} {n297 : Nat} (ag_297 : Int32 → Int32 → Int32 → Int32 → Int32 → Int32 → Int32 → PF → PG → PR) (hag_297 : ∀ (x1 : Int32) (x2 : Int32) (x3 : Int32) (x4 : Int32) (x7 : Int32) (x8 : Int32) (x9 : Int32) (F : PF) (G : PG) (g4 : G 4 = K) (g5 : G 5 = V) (hA : (x9 = 1 ∧ F 44 = 0 ∧ F 43 = ((F0 43) + (1 : Int32)) ∧ R0 = rl_vals K V fu (F 43) n297 (F 42)) ∨ (x9 = 0 ∧ F 44 = 0 ∧ F 43 = ((F0 43) + (1 : Int32)) ∧ R0 = rclose K V 27 (F 42)) ∨ (x9 = 0 ∧ 0 < (F 44).toInt ∧ R0 = rno)), PP (ag_297 x1 x2 x3 x4 x7 x8 x9 F G) (fun r' F' _ => ROK R0 F0 r' F')) (x1 : Int32) (x2 : Int32) (x3 : Int32) (x4 : Int32) (x7 : Int32) (x8 : Int32) (z0 : Int32) (z1 : Int32) (F : PF) (G : PG) (g4 : G 4 = K) (g5 : G 5 = V) (hA : (F 44 = 0 ∧ F 43 = ((F0 43) + (1 : Int32)) ∧ R0 = (if sgn K V (F 42) 28 = true then rl_vals K V fu (F 43) n297 ((F 42) + 1) else rclose K V 27 (F 42))) ∨ (0 < (F 44).toInt ∧ R0 = rno)) : PP (mb_array_383 fu ag_297 x1 x2 x3 x4 x7 x8 z0 z1 F G) (fun r' F' _ => ROK R0 F0 r' F') := by
  rcases hA with ⟨h44, h43, hR⟩ | ⟨hf, hR⟩
  · skip
    unfold mb_array_383
    refine PP.ix (fun _ => ?_)
    exact mrj_array_384 (F0 := F0) (R0 := R0) (n297 := n297) ag_297 hag_297 x1 x2 x3 x4 x7 x8 F (gup G 41 z1.toNatClampNeg z0) g4 g5 (Or.inl ⟨h44, (by first | with_reducible rfl | (simp only [h43, i_as, fup, Nat.reduceEqDiff, reduceIte, if_false]) | rfl), (hR.trans (by first | with_reducible rfl | (simp only [rarray, rsize, rarr2, rl_vals, rclose, h43, i_as, fup, i_a0, i0m, i10, eq_self, rb_yes, rb_no, ryes, rno, if_true, if_false, f_tt (p := True), reduceIte, Nat.reduceEqDiff]) | rfl))⟩)
  · skip
    unfold mb_array_383
    refine PP.ix (fun _ => ?_)
    exact mrj_array_384 (F0 := F0) (R0 := R0) (n297 := n297) ag_297 hag_297 x1 x2 x3 x4 x7 x8 F (gup G 41 z1.toNatClampNeg z0) g4 g5 (Or.inr ⟨hf, (hR.trans (by first | with_reducible rfl | (simp only [rarray, rsize, rarr2, rl_vals, rclose, i_as, fup, i_a0, i0m, i10, eq_self, rb_yes, rb_no, ryes, rno, if_true, if_false, f_tt (p := True), reduceIte, Nat.reduceEqDiff]) | rfl))⟩)
theorem mrj_array_345 {fu : Nat} {K V : Nat → Int32} {F0 : PF} {R0 : OR} {n297 : Nat} (ag_297 : Int32 → Int32 → Int32 → Int32 → Int32 → Int32 → Int32 → PF → PG → PR) (hag_297 : ∀ (x1 : Int32) (x2 : Int32) (x3 : Int32) (x4 : Int32) (x7 : Int32) (x8 : Int32) (x9 : Int32) (F : PF) (G : PG) (g4 : G 4 = K) (g5 : G 5 = V) (hA : (x9 = 1 ∧ F 44 = 0 ∧ F 43 = ((F0 43) + (1 : Int32)) ∧ R0 = rl_vals K V fu (F 43) n297 (F 42)) ∨ (x9 = 0 ∧ F 44 = 0 ∧ F 43 = ((F0 43) + (1 : Int32)) ∧ R0 = rclose K V 27 (F 42)) ∨ (x9 = 0 ∧ 0 < (F 44).toInt ∧ R0 = rno)), PP (ag_297 x1 x2 x3 x4 x7 x8 x9 F G) (fun r' F' _ => ROK R0 F0 r' F')) (x1 : Int32) (x2 : Int32) (x3 : Int32) (x4 : Int32) (x7 : Int32) (x8 : Int32) (x11 : Int32) (F : PF) (G : PG) (g4 : G 4 = K) (g5 : G 5 = V) (hA : (F 44 = 0 ∧ F 43 = ((F0 43) + (1 : Int32)) ∧ R0 = (if sgn K V (F 42) 28 = true then rl_vals K V fu (F 43) n297 ((F 42) + 1) else rclose K V 27 (F 42))) ∨ (0 < (F 44).toInt ∧ R0 = rno)) : PP (mb_array_345 fu ag_297 x1 x2 x3 x4 x7 x8 x11 F G) (fun r' F' _ => ROK R0 F0 r' F') := by
  rcases hA with ⟨h44, h43, hR⟩ | ⟨hf, hR⟩
  · skip
    unfold mb_array_345
    refine PP.ite (fun c_1 => ?_) (fun c_1 => ?_)
    · skip
      exact mrj_array_384 (F0 := F0) (R0 := R0) (n297 := n297) ag_297 hag_297 x1 x2 x3 x4 x7 x8 F G g4 g5 (Or.inl ⟨h44, (by first | with_reducible rfl | (simp only [h43, i_as, fup, Nat.reduceEqDiff, reduceIte, if_false]) | rfl), (hR.trans (by first | with_reducible rfl | (simp only [rarray, rsize, rarr2, rl_vals, rclose, h43, i_as, fup, i_a0, i0m, i10, eq_self, rb_yes, rb_no, ryes, rno, if_true, if_false, f_tt (p := True), reduceIte, Nat.reduceEqDiff]) | rfl))⟩)
    · skip
      unfold mb_array_352
      refine PP.ite (fun c_2 => ?_) (fun c_2 => ?_)
      · skip
        exact mrj_array_384 (F0 := F0) (R0 := R0) (n297 := n297) ag_297 hag_297 x1 x2 x3 x4 x7 x8 F G g4 g5 (Or.inl ⟨h44, (by first | with_reducible rfl | (simp only [h43, i_as, fup, Nat.reduceEqDiff, reduceIte, if_false]) | rfl), (hR.trans (by first | with_reducible rfl | (simp only [rarray, rsize, rarr2, rl_vals, rclose, h43, i_as, fup, i_a0, i0m, i10, eq_self, rb_yes, rb_no, ryes, rno, if_true, if_false, f_tt (p := True), reduceIte, Nat.reduceEqDiff]) | rfl))⟩)
      · skip
        unfold mb_array_359
        refine PP.ite (fun c_3 => ?_) (fun c_3 => ?_)
        · skip
          unfold mb_array_381
          exact mrj_array_383 (F0 := F0) (R0 := R0) (n297 := n297) ag_297 hag_297 x1 x2 x3 x4 x7 x8 x11 (x4 + x8) F G g4 g5 (Or.inl ⟨h44, (by first | with_reducible rfl | (simp only [h43, i_as, fup, Nat.reduceEqDiff, reduceIte, if_false]) | rfl), (hR.trans (by first | with_reducible rfl | (simp only [rarray, rsize, rarr2, rl_vals, rclose, h43, i_as, fup, i_a0, i0m, i10, eq_self, rb_yes, rb_no, ryes, rno, if_true, if_false, f_tt (p := True), reduceIte, Nat.reduceEqDiff]) | rfl))⟩)
        · skip
          unfold mb_array_372
          exact mrj_array_383 (F0 := F0) (R0 := R0) (n297 := n297) ag_297 hag_297 x1 x2 x3 x4 x7 x8 (x11 &&& (255 : Int32)) (x4 + x8) F G g4 g5 (Or.inl ⟨h44, (by first | with_reducible rfl | (simp only [h43, i_as, fup, Nat.reduceEqDiff, reduceIte, if_false]) | rfl), (hR.trans (by first | with_reducible rfl | (simp only [rarray, rsize, rarr2, rl_vals, rclose, h43, i_as, fup, i_a0, i0m, i10, eq_self, rb_yes, rb_no, ryes, rno, if_true, if_false, f_tt (p := True), reduceIte, Nat.reduceEqDiff]) | rfl))⟩)
  · skip
    unfold mb_array_345
    refine PP.ite (fun c_4 => ?_) (fun c_4 => ?_)
    · skip
      exact mrj_array_384 (F0 := F0) (R0 := R0) (n297 := n297) ag_297 hag_297 x1 x2 x3 x4 x7 x8 F G g4 g5 (Or.inr ⟨hf, (hR.trans (by first | with_reducible rfl | (simp only [rarray, rsize, rarr2, rl_vals, rclose, i_as, fup, i_a0, i0m, i10, eq_self, rb_yes, rb_no, ryes, rno, if_true, if_false, f_tt (p := True), reduceIte, Nat.reduceEqDiff]) | rfl))⟩)
    · skip
      unfold mb_array_352
      refine PP.ite (fun c_5 => ?_) (fun c_5 => ?_)
      · skip
        exact mrj_array_384 (F0 := F0) (R0 := R0) (n297 := n297) ag_297 hag_297 x1 x2 x3 x4 x7 x8 F G g4 g5 (Or.inr ⟨hf, (hR.trans (by first | with_reducible rfl | (simp only [rarray, rsize, rarr2, rl_vals, rclose, i_as, fup, i_a0, i0m, i10, eq_self, rb_yes, rb_no, ryes, rno, if_true, if_false, f_tt (p := True), reduceIte, Nat.reduceEqDiff]) | rfl))⟩)
      · skip
        unfold mb_array_359
        refine PP.ite (fun c_6 => ?_) (fun c_6 => ?_)
        · skip
          unfold mb_array_381
          exact mrj_array_383 (F0 := F0) (R0 := R0) (n297 := n297) ag_297 hag_297 x1 x2 x3 x4 x7 x8 x11 (x4 + x8) F G g4 g5 (Or.inr ⟨hf, (hR.trans (by first | with_reducible rfl | (simp only [rarray, rsize, rarr2, rl_vals, rclose, i_as, fup, i_a0, i0m, i10, eq_self, rb_yes, rb_no, ryes, rno, if_true, if_false, f_tt (p := True), reduceIte, Nat.reduceEqDiff]) | rfl))⟩)
        · skip
          unfold mb_array_372
          exact mrj_array_383 (F0 := F0) (R0 := R0) (n297 := n297) ag_297 hag_297 x1 x2 x3 x4 x7 x8 (x11 &&& (255 : Int32)) (x4 + x8) F G g4 g5 (Or.inr ⟨hf, (hR.trans (by first | with_reducible rfl | (simp only [rarray, rsize, rarr2, rl_vals, rclose, i_as, fup, i_a0, i0m, i10, eq_self, rb_yes, rb_no, ryes, rno, if_true, if_false, f_tt (p := True), reduceIte, Nat.reduceEqDiff]) | rfl))⟩)
theorem mrj_array_459 {fu : Nat} {K V : Nat → Int32} {F0 : PF} {R0 : OR} (z0 : Int32) (z1 : Int32) (z2 : Int32) (z3 : Int32) (z4 : Int32) (F : PF) (G : PG) (g4 : G 4 = K) (g5 : G 5 = V) (hA : (F 44 = 0 ∧ F 43 = F0 43 ∧ R0 = ryes (F 42))) : PP (mb_array_459 fu z0 z1 z2 z3 z4 F G) (fun r' F' _ => ROK R0 F0 r' F') := by
  rcases hA with ⟨h44, h43, hR⟩
  · skip
    unfold mb_array_459
    refine PP.bind (mw_declare z4 z3 z2 z1 z0 (0 : Int32) F G) ?_
    intro r1 F1 G1 hK1
    dsimp only
    have g_2 : G1 4 = K := Eq.trans (hK1.2 4 rfl) g4
    have g_3 : G1 5 = V := Eq.trans (hK1.2 5 rfl) g5
    have q_4 : F1 42 = (F 42) := hK1.1 42 rfl
    have q_5 : F1 43 = (F0 43) := Eq.trans (hK1.1 43 rfl) (show (F 43) = (F0 43) by simp only [h43, i_as])
    have q_6 : F1 44 = 0 := Eq.trans (hK1.1 44 rfl) h44
    unfold mb_array_463
    refine PP.ret ?_
    refine Or.inl ⟨rfl, q_6, ?_, hR.trans ?_⟩
    · show (F1 43) = F0 43
      first | with_reducible rfl | (simp only [h43, q_4, q_5, i_as, fup, Nat.reduceEqDiff, reduceIte, if_false]) | rfl
    · show _ = some (some (F1 42))
      first | with_reducible rfl | (simp only [rarray, rsize, rarr2, rl_vals, rclose, h43, q_4, q_5, i_as, fup, i_a0, i0m, i10, eq_self, rb_yes, rb_no, ryes, rno, if_true, if_false, f_tt (p := True), reduceIte, Nat.reduceEqDiff]) | rfl
theorem mrj_array_443 {fu : Nat} {K V : Nat → Int32} {F0 : PF} {R0 : OR} (x1 : Int32) (x2 : Int32) (x3 : Int32) (x4 : Int32) (F : PF) (G : PG) (g4 : G 4 = K) (g5 : G 5 = V) (hA : (F 44 = 0 ∧ F 43 = F0 43 ∧ R0 = ryes (F 42))) : PP (mb_array_443 fu x1 x2 x3 x4 F G) (fun r' F' _ => ROK R0 F0 r' F') := by
  rcases hA with ⟨h44, h43, hR⟩
  · skip
    unfold mb_array_443
    refine PP.ite (fun c_1 => ?_) (fun c_1 => ?_)
    · skip
      unfold mb_array_454
      exact mrj_array_459 (F0 := F0) (R0 := R0) (1 : Int32) x4 x2 (2 : Int32) x1 F G g4 g5 ⟨h44, (by first | with_reducible rfl | (simp only [h43, i_as, fup, Nat.reduceEqDiff, reduceIte, if_false]) | rfl), (hR.trans (by first | with_reducible rfl | (simp only [rarray, rsize, rarr2, rl_vals, rclose, h43, i_as, fup, i_a0, i0m, i10, eq_self, rb_yes, rb_no, ryes, rno, if_true, if_false, f_tt (p := True), reduceIte, Nat.reduceEqDiff]) | rfl))⟩
    · skip
      unfold mb_array_458
      exact mrj_array_459 (F0 := F0) (R0 := R0) x3 x4 x2 (2 : Int32) x1 F G g4 g5 ⟨h44, (by first | with_reducible rfl | (simp only [h43, i_as, fup, Nat.reduceEqDiff, reduceIte, if_false]) | rfl), (hR.trans (by first | with_reducible rfl | (simp only [rarray, rsize, rarr2, rl_vals, rclose, h43, i_as, fup, i_a0, i0m, i10, eq_self, rb_yes, rb_no, ryes, rno, if_true, if_false, f_tt (p := True), reduceIte, Nat.reduceEqDiff]) | rfl))⟩
theorem mrz_array_297 {fu : Nat} {K V : Nat → Int32} {F0 : PF} {R0 : OR} : ∀ (n : Nat) (x1 : Int32) (x2 : Int32) (x3 : Int32) (x4 : Int32) (x7 : Int32) (x8 : Int32) (x9 : Int32) (F : PF) (G : PG) (g4 : G 4 = K) (g5 : G 5 = V) (hA : (x9 = 1 ∧ F 44 = 0 ∧ F 43 = ((F0 43) + (1 : Int32)) ∧ R0 = rl_vals K V fu (F 43) n (F 42)) ∨ (x9 = 0 ∧ F 44 = 0 ∧ F 43 = ((F0 43) + (1 : Int32)) ∧ R0 = rclose K V 27 (F 42)) ∨ (x9 = 0 ∧ 0 < (F 44).toInt ∧ R0 = rno)), PP (ml_array_297 fu n x1 x2 x3 x4 x7 x8 x9 F G) (fun r' F' _ => ROK R0 F0 r' F') := by
  intro n
  induction n with
  | zero =>
    intro x1 x2 x3 x4 x7 x8 x9 F G g4 g5 hA
    exact PP.no
  | succ n ihn =>
    intro x1 x2 x3 x4 x7 x8 x9 F G g4 g5 hA
    show PP (mb_array_297 fu (ml_array_297 fu n) x1 x2 x3 x4 x7 x8 x9 F G) _
    rcases hA with ⟨rfl, h44, h43, hR⟩ | ⟨rfl, h44, h43, hR⟩ | ⟨rfl, hf, hR⟩
    · skip
      unfold mb_array_297
      refine PP.ite (fun c_1 => absurd c_1 (by decide)) (fun _ => ?_)
      unfold mb_array_302
      refine PP.ite (fun c_2 => ?_) (fun c_2 => ?_)
      · skip
        unfold mb_array_309
        refine PP.ix (fun _ => ?_)
        refine PP.bind (PP.and (mw_value F G) (mr_value F G g4 g5 (show F 44 = 0 from h44))) ?_
        rintro r3 F3 G3 ⟨hK3, (⟨-, u3a, u3b, u3⟩ | ⟨-, u3a, u3⟩)⟩
        · dsimp only
          have g_4 : G3 4 = K := Eq.trans (hK3.2 4 rfl) g4
          have g_5 : G3 5 = V := Eq.trans (hK3.2 5 rfl) g5
          have h_6 : rS1 K V fu 300 4 (F 42) ((F0 43) + (1 : Int32)) = some (some (F3 42)) := by
            have q : rS1 K V fu 300 4 (F 42) (F 43) = some (some (F3 42)) := u3
            simp only [h43, i_as] at q; exact q
          have q_7 : F3 43 = ((F0 43) + (1 : Int32)) := by
            have q := (show F3 43 = (F 43) from u3b)
            simp only [h43, i_as] at q; exact q
          unfold mb_array_324
          refine PP.ite (fun c_8 => ?_) (fun c_8 => ?_)
          · skip
            exact mrj_array_345 (F0 := F0) (R0 := R0) (n297 := n) (ml_array_297 fu n) ihn x1 x2 x3 x4 x7 x8 r3 F3 G3 g_4 g_5 (Or.inl ⟨u3a, (by first | with_reducible rfl | (simp only [h43, q_7, i_as, fup, Nat.reduceEqDiff, reduceIte, if_false]) | rfl), (hR.trans (by first | with_reducible rfl | (simp only [rarray, rsize, rarr2, rl_vals, rclose, h_6, h43, q_7, i_as, fup, i_a0, i0m, i10, eq_self, rb_yes, rb_no, ryes, rno, if_true, if_false, f_tt (p := True), reduceIte, Nat.reduceEqDiff]) | rfl))⟩)
          · skip
            unfold mb_array_331
            refine PP.ite (fun c_9 => ?_) (fun c_9 => ?_)
            · skip
              unfold mb_array_337
              refine PP.bind (mw_note (10 : Int32) (G 6 (F 42).toNatClampNeg) F3 G3) ?_
              intro r10 F10 G10 hK10
              dsimp only
              have g_11 : G10 4 = K := Eq.trans (hK10.2 4 rfl) g_4
              have g_12 : G10 5 = V := Eq.trans (hK10.2 5 rfl) g_5
              have q_13 : F10 42 = (F3 42) := hK10.1 42 rfl
              have q_14 : F10 43 = ((F0 43) + (1 : Int32)) := Eq.trans (hK10.1 43 rfl) (show (F3 43) = ((F0 43) + (1 : Int32)) by simp only [q_7, i_as])
              have q_15 : F10 44 = 0 := Eq.trans (hK10.1 44 rfl) u3a
              exact mrj_array_345 (F0 := F0) (R0 := R0) (n297 := n) (ml_array_297 fu n) ihn x1 x2 x3 x4 x7 x8 r3 F10 G10 g_11 g_12 (Or.inl ⟨q_15, (by first | with_reducible rfl | (simp only [h43, q_7, q_13, q_14, i_as, fup, Nat.reduceEqDiff, reduceIte, if_false]) | rfl), (hR.trans (by first | with_reducible rfl | (simp only [rarray, rsize, rarr2, rl_vals, rclose, h_6, h43, q_7, q_13, q_14, i_as, fup, i_a0, i0m, i10, eq_self, rb_yes, rb_no, ryes, rno, if_true, if_false, f_tt (p := True), reduceIte, Nat.reduceEqDiff]) | rfl))⟩)
            · skip
              exact mrj_array_345 (F0 := F0) (R0 := R0) (n297 := n) (ml_array_297 fu n) ihn x1 x2 x3 x4 x7 x8 r3 F3 G3 g_4 g_5 (Or.inl ⟨u3a, (by first | with_reducible rfl | (simp only [h43, q_7, i_as, fup, Nat.reduceEqDiff, reduceIte, if_false]) | rfl), (hR.trans (by first | with_reducible rfl | (simp only [rarray, rsize, rarr2, rl_vals, rclose, h_6, h43, q_7, i_as, fup, i_a0, i0m, i10, eq_self, rb_yes, rb_no, ryes, rno, if_true, if_false, f_tt (p := True), reduceIte, Nat.reduceEqDiff]) | rfl))⟩)
        · dsimp only
          have g_16 : G3 4 = K := Eq.trans (hK3.2 4 rfl) g4
          have g_17 : G3 5 = V := Eq.trans (hK3.2 5 rfl) g5
          have h_18 : rS1 K V fu 300 4 (F 42) ((F0 43) + (1 : Int32)) = some (none) := by
            have q : rS1 K V fu 300 4 (F 42) (F 43) = some (none) := u3
            simp only [h43, i_as] at q; exact q
          unfold mb_array_324
          refine PP.ite (fun c_19 => ?_) (fun c_19 => ?_)
          · skip
            exact mrj_array_345 (F0 := F0) (R0 := R0) (n297 := n) (ml_array_297 fu n) ihn x1 x2 x3 x4 x7 x8 r3 F3 G3 g_16 g_17 (Or.inr ⟨u3a, (hR.trans (by first | with_reducible rfl | (simp only [rarray, rsize, rarr2, rl_vals, rclose, h_18, h43, i_as, fup, i_a0, i0m, i10, eq_self, rb_yes, rb_no, ryes, rno, if_true, if_false, f_tt (p := True), reduceIte, Nat.reduceEqDiff]) | rfl))⟩)
          · skip
            unfold mb_array_331
            refine PP.ite (fun c_20 => ?_) (fun c_20 => ?_)
            · skip
              unfold mb_array_337
              refine PP.bind (mw_note (10 : Int32) (G 6 (F 42).toNatClampNeg) F3 G3) ?_
              intro r21 F21 G21 hK21
              dsimp only
              have g_22 : G21 4 = K := Eq.trans (hK21.2 4 rfl) g_16
              have g_23 : G21 5 = V := Eq.trans (hK21.2 5 rfl) g_17
              have q_24 : F21 42 = (F3 42) := hK21.1 42 rfl
              have q_25 : F21 43 = (F3 43) := hK21.1 43 rfl
              have q_26 : 0 < (F21 44).toInt := by rw [show F21 44 = (F3 44) from hK21.1 44 rfl]; exact u3a
              exact mrj_array_345 (F0 := F0) (R0 := R0) (n297 := n) (ml_array_297 fu n) ihn x1 x2 x3 x4 x7 x8 r3 F21 G21 g_22 g_23 (Or.inr ⟨q_26, (hR.trans (by first | with_reducible rfl | (simp only [rarray, rsize, rarr2, rl_vals, rclose, h_18, h43, q_24, q_25, i_as, fup, i_a0, i0m, i10, eq_self, rb_yes, rb_no, ryes, rno, if_true, if_false, f_tt (p := True), reduceIte, Nat.reduceEqDiff]) | rfl))⟩)
            · skip
              exact mrj_array_345 (F0 := F0) (R0 := R0) (n297 := n) (ml_array_297 fu n) ihn x1 x2 x3 x4 x7 x8 r3 F3 G3 g_16 g_17 (Or.inr ⟨u3a, (hR.trans (by first | with_reducible rfl | (simp only [rarray, rsize, rarr2, rl_vals, rclose, h_18, h43, i_as, fup, i_a0, i0m, i10, eq_self, rb_yes, rb_no, ryes, rno, if_true, if_false, f_tt (p := True), reduceIte, Nat.reduceEqDiff]) | rfl))⟩)
      · skip
        exact absurd h44 (show ¬ ((F 44) = (0 : Int32)) from c_2)
    · skip
      unfold mb_array_297
      refine PP.ite (fun _ => ?_) (fun c_27 => absurd (by decide) c_27)
      unfold mb_array_432
      refine PP.bind (mp_closeSign (27 : Int32) F G) ?_
      rintro r28 F28 G28 (⟨rfl, rfl, rfl, u28⟩ | ⟨rfl, u28, u28b⟩)
      · dsimp only
        have h_29 : sgn K V (F 42) (27 : Int32) = true := by
          rw [← g4, ← g5]
          have q := u28.1
          first | exact q | (simp only [h43, i_as] at q; exact q)
        unfold mb_array_438
        refine PP.ite (fun c_30 => absurd c_30 (by decide)) (fun _ => ?_)
        exact mrj_array_443 (F0 := F0) (R0 := R0) x1 x2 x3 x4 (fup (fup F 42 ((F 42) + (1 : Int32))) 43 ((F 43) - (1 : Int32))) G g4 g5 ⟨h44, (by first | with_reducible rfl | (simp only [h43, i_as, fup, Nat.reduceEqDiff, reduceIte, if_false]) | rfl), (hR.trans (by first | with_reducible rfl | (simp only [rarray, rsize, rarr2, rl_vals, rclose, h_29, h43, i_as, fup, i_a0, i0m, i10, eq_self, rb_yes, rb_no, ryes, rno, if_true, if_false, f_tt (p := True), reduceIte, Nat.reduceEqDiff]) | rfl))⟩
      · dsimp only
        have g_31 : G28 4 = K := Eq.trans (u28.2.2.2 4 rfl) g4
        have g_32 : G28 5 = V := Eq.trans (u28.2.2.2 5 rfl) g5
        have q_33 : F28 42 = (F 42) := u28.2.2.1 42 rfl
        have q_34 : F28 43 = ((F0 43) + (1 : Int32)) := Eq.trans (u28.2.2.1 43 rfl) (show (F 43) = ((F0 43) + (1 : Int32)) by simp only [h43, i_as])
        rcases u28b with q | q
        · exact absurd q (show ¬ 0 < (F 44).toInt by rw [h44]; decide)
        · skip
          have h_35 : sgn K V (F 42) (27 : Int32) = false := by
            rw [← g4, ← g5]
            have q := q
            first | exact q | (simp only [h43, i_as] at q; exact q)
          unfold mb_array_438
          refine PP.ite (fun _ => ?_) (fun c_36 => absurd (by decide) c_36)
          unfold mb_array_441
          refine PP.ret ?_
          refine Or.inr ⟨rfl, u28.1, hR.trans ?_⟩
          first | with_reducible rfl | (simp only [rarray, rsize, rarr2, rl_vals, rclose, h_35, h43, q_33, q_34, i_as, fup, i_a0, i0m, i10, eq_self, rb_yes, rb_no, ryes, rno, if_true, if_false, f_tt (p := True), reduceIte, Nat.reduceEqDiff]) | rfl
    · skip
      unfold mb_array_297
      refine PP.ite (fun _ => ?_) (fun c_37 => absurd (by decide) c_37)
      unfold mb_array_432
      refine PP.bind (mp_closeSign (27 : Int32) F G) ?_
      rintro r38 F38 G38 (⟨rfl, rfl, rfl, u38⟩ | ⟨rfl, u38, u38b⟩)
      · dsimp only
        exact absurd hf u38.2
      · dsimp only
        have g_39 : G38 4 = K := Eq.trans (u38.2.2.2 4 rfl) g4
        have g_40 : G38 5 = V := Eq.trans (u38.2.2.2 5 rfl) g5
        have q_41 : F38 42 = (F 42) := u38.2.2.1 42 rfl
        have q_42 : F38 43 = (F 43) := u38.2.2.1 43 rfl
        unfold mb_array_438
        refine PP.ite (fun _ => ?_) (fun c_43 => absurd (by decide) c_43)
        unfold mb_array_441
        refine PP.ret ?_
        refine Or.inr ⟨rfl, u38.1, hR.trans ?_⟩
        first | with_reducible rfl | (simp only [rarray, rsize, rarr2, rl_vals, rclose, q_41, q_42, i_as, fup, i_a0, i0m, i10, eq_self, rb_yes, rb_no, ryes, rno, if_true, if_false, f_tt (p := True), reduceIte, Nat.reduceEqDiff]) | rfl
theorem mrz_array_224 {fu : Nat} {K V : Nat → Int32} {F0 : PF} {R0 : OR} : ∀ (n : Nat) (x1 : Int32) (x2 : Int32) (x3 : Int32) (x4 : Int32) (x7 : Int32) (x8 : Int32) (F : PF) (G : PG) (g4 : G 4 = K) (g5 : G 5 = V) (hA : (F 44 = 0 ∧ F 43 = F0 43 ∧ R0 = rarr2 K V fu (F 42) (F 43))), PP (ml_array_224 fu n x1 x2 x3 x4 x7 x8 F G) (fun r' F' _ => ROK R0 F0 r' F') := by
  intro n
  induction n with
  | zero =>
    intro x1 x2 x3 x4 x7 x8 F G g4 g5 hA
    exact PP.no
  | succ n ihn =>
    intro x1 x2 x3 x4 x7 x8 F G g4 g5 hA
    show PP (mb_array_224 fu (ml_array_224 fu n) x1 x2 x3 x4 x7 x8 F G) _
    rcases hA with ⟨h44, h43, hR⟩
    · skip
      unfold mb_array_224
      refine PP.ite (fun c_1 => ?_) (fun c_1 => ?_)
      · skip
        unfold mb_array_250
        unfold mb_array_261
        refine PP.bind (mp_isSign (32 : Int32) (fup F 37 ((F 37) + x7)) G) ?_
        rintro _ _ _ ⟨rfl, rfl, (⟨rfl, u2⟩ | ⟨rfl, u2⟩)⟩
        · dsimp only
          have h_3 : sgn K V (F 42) (32 : Int32) = true := by
            rw [← g4, ← g5]
            have q := u2
            first | exact q | (simp only [h43, i_as] at q; exact q) | (simp only [h43, i_as, fup, Nat.reduceEqDiff, reduceIte, if_false] at q; exact q)
          unfold mb_array_267
          refine PP.ite (fun c_4 => absurd c_4 (by decide)) (fun _ => ?_)
          unfold mb_array_270
          unfold mb_array_280
          refine PP.bind (mp_openSign (26 : Int32) (fup (fup F 37 ((F 37) + x7)) 42 ((F 42) + (1 : Int32))) G) ?_
          rintro r5 F5 G5 (⟨rfl, rfl, rfl, u5⟩ | ⟨rfl, u5, u5b⟩)
          · dsimp only
            have h_6 : sgn K V ((F 42) + (1 : Int32)) (26 : Int32) = true := by
              rw [← g4, ← g5]
              have q := u5.1
              first | exact q | (simp only [h43, i_as] at q; exact q) | (simp only [h43, i_as, fup, Nat.reduceEqDiff, reduceIte, if_false] at q; exact q)
            have h_7 : ¬ (F0 43) = 40 := by
              have q : ¬ (F 43) = 40 := u5.2.1
              first | exact q | (simp only [h43, i_as] at q; exact q)
            unfold mb_array_286
            refine PP.ite (fun c_8 => absurd c_8 (by decide)) (fun _ => ?_)
            unfold mb_array_291
            exact mrz_array_297 (F0 := F0) (R0 := R0) fu x1 x2 x3 x4 x7 (0 : Int32) (1 : Int32) (fup (fup (fup (fup F 37 ((F 37) + x7)) 42 ((F 42) + (1 : Int32))) 43 ((F 43) + (1 : Int32))) 42 (((F 42) + (1 : Int32)) + (1 : Int32))) G g4 g5 (Or.inl ⟨rfl, h44, (by first | with_reducible rfl | (simp only [h43, i_as, fup, Nat.reduceEqDiff, reduceIte, if_false]) | rfl), (hR.trans (by first | with_reducible rfl | (simp only [rarray, rsize, rarr2, rl_vals, rclose, h_3, h_6, h_7, h43, i_as, fup, i_a0, i0m, i10, eq_self, rb_yes, rb_no, ryes, rno, if_true, if_false, f_tt (p := True), reduceIte, Nat.reduceEqDiff]) | rfl))⟩)
          · dsimp only
            have g_9 : G5 4 = K := Eq.trans (u5.2.2.2 4 rfl) g4
            have g_10 : G5 5 = V := Eq.trans (u5.2.2.2 5 rfl) g5
            have q_11 : F5 42 = ((F 42) + (1 : Int32)) := u5.2.2.1 42 rfl
            have q_12 : F5 43 = (F0 43) := Eq.trans (u5.2.2.1 43 rfl) (show (F 43) = (F0 43) by simp only [h43, i_as])
            rcases u5b with q | q | ⟨q, q1⟩
            · exact absurd q (show ¬ 0 < (F 44).toInt by rw [h44]; decide)
            · skip
              have h_13 : sgn K V ((F 42) + (1 : Int32)) (26 : Int32) = false := by
                rw [← g4, ← g5]
                have q := q
                first | exact q | (simp only [h43, i_as] at q; exact q) | (simp only [h43, i_as, fup, Nat.reduceEqDiff, reduceIte, if_false] at q; exact q)
              unfold mb_array_286
              refine PP.ite (fun _ => ?_) (fun c_14 => absurd (by decide) c_14)
              unfold mb_array_289
              refine PP.ret ?_
              refine Or.inr ⟨rfl, u5.1, hR.trans ?_⟩
              first | with_reducible rfl | (simp only [rarray, rsize, rarr2, rl_vals, rclose, h_3, h_13, h43, q_11, q_12, i_as, fup, i_a0, i0m, i10, eq_self, rb_yes, rb_no, ryes, rno, if_true, if_false, f_tt (p := True), reduceIte, Nat.reduceEqDiff]) | rfl
            · skip
              have h_15 : sgn K V ((F 42) + (1 : Int32)) (26 : Int32) = true := by
                rw [← g4, ← g5]
                have q := q
                first | exact q | (simp only [h43, i_as] at q; exact q) | (simp only [h43, i_as, fup, Nat.reduceEqDiff, reduceIte, if_false] at q; exact q)
              have h_16 : ((F0 43) = 40) = True := by
                have q : (F 43) = 40 := q1
                first | exact eq_true q | (simp only [h43, i_as] at q; exact eq_true q)
              unfold mb_array_286
              refine PP.ite (fun _ => ?_) (fun c_17 => absurd (by decide) c_17)
              unfold mb_array_289
              refine PP.ret ?_
              refine Or.inr ⟨rfl, u5.1, hR.trans ?_⟩
              first | with_reducible rfl | (simp only [rarray, rsize, rarr2, rl_vals, rclose, h_3, h_15, h_16, h43, q_11, q_12, i_as, fup, i_a0, i0m, i10, eq_self, rb_yes, rb_no, ryes, rno, if_true, if_false, f_tt (p := True), reduceIte, Nat.reduceEqDiff]) | rfl
        · dsimp only
          have h_18 : sgn K V (F 42) (32 : Int32) = false := by
            rw [← g4, ← g5]
            have q := u2
            first | exact q | (simp only [h43, i_as] at q; exact q) | (simp only [h43, i_as, fup, Nat.reduceEqDiff, reduceIte, if_false] at q; exact q)
          unfold mb_array_267
          refine PP.ite (fun _ => ?_) (fun c_19 => absurd (by decide) c_19)
          exact mrj_array_443 (F0 := F0) (R0 := R0) x1 x2 x3 x4 (fup F 37 ((F 37) + x7)) G g4 g5 ⟨h44, (by first | with_reducible rfl | (simp only [h43, i_as, fup, Nat.reduceEqDiff, reduceIte, if_false]) | rfl), (hR.trans (by first | with_reducible rfl | (simp only [rarray, rsize, rarr2, rl_vals, rclose, h_18, h43, i_as, fup, i_a0, i0m, i10, eq_self, rb_yes, rb_no, ryes, rno, if_true, if_false, f_tt (p := True), reduceIte, Nat.reduceEqDiff]) | rfl))⟩
      · skip
        unfold mb_array_231
        refine PP.ix (fun _ => ?_)
        unfold mb_array_244
        exact ihn x1 x2 x3 x4 x7 (x8 + (1 : Int32)) F (gup G 41 ((F 37) + x8).toNatClampNeg (0 : Int32)) g4 g5 ⟨h44, (by first | with_reducible rfl | (simp only [h43, i_as, fup, Nat.reduceEqDiff, reduceIte, if_false]) | rfl), (hR.trans (by first | with_reducible rfl | (simp only [rarray, rsize, rarr2, rl_vals, rclose, h43, i_as, fup, i_a0, i0m, i10, eq_self, rb_yes, rb_no, ryes, rno, if_true, if_false, f_tt (p := True), reduceIte, Nat.reduceEqDiff]) | rfl))⟩
theorem mrj_array_219 {fu : Nat} {K V : Nat → Int32} {F0 : PF} {R0 : OR} (x1 : Int32) (x2 : Int32) (x3 : Int32) (x4 : Int32) (z0 : Int32) (F : PF) (G : PG) (g4 : G 4 = K) (g5 : G 5 = V) (hA : (F 44 = 0 ∧ F 43 = F0 43 ∧ R0 = rarr2 K V fu (F 42) (F 43))) : PP (mb_array_219 fu x1 x2 x3 x4 z0 F G) (fun r' F' _ => ROK R0 F0 r' F') := by
  rcases hA with ⟨h44, h43, hR⟩
  · skip
    unfold mb_array_219
    exact mrz_array_224 (F0 := F0) (R0 := R0) fu x1 x2 x3 x4 z0 (0 : Int32) F G g4 g5 ⟨h44, (by first | with_reducible rfl | (simp only [h43, i_as, fup, Nat.reduceEqDiff, reduceIte, if_false]) | rfl), (hR.trans (by first | with_reducible rfl | (simp only [rarray, rsize, rarr2, rl_vals, rclose, h43, i_as, fup, i_a0, i0m, i10, eq_self, rb_yes, rb_no, ryes, rno, if_true, if_false, f_tt (p := True), reduceIte, Nat.reduceEqDiff]) | rfl))⟩
theorem mrj_array_214 {fu : Nat} {K V : Nat → Int32} {F0 : PF} {R0 : OR} (x1 : Int32) (x2 : Int32) (x3 : Int32) (x4 : Int32) (F : PF) (G : PG) (g4 : G 4 = K) (g5 : G 5 = V) (hA : (F 44 = 0 ∧ F 43 = F0 43 ∧ R0 = rarr2 K V fu (F 42) (F 43))) : PP (mb_array_214 fu x1 x2 x3 x4 F G) (fun r' F' _ => ROK R0 F0 r' F') := by
  rcases hA with ⟨h44, h43, hR⟩
  · skip
    unfold mb_array_214
    exact mrj_array_219 (F0 := F0) (R0 := R0) x1 x2 x3 x4 (0 : Int32) F G g4 g5 ⟨h44, (by first | with_reducible rfl | (simp only [h43, i_as, fup, Nat.reduceEqDiff, reduceIte, if_false]) | rfl), (hR.trans (by first | with_reducible rfl | (simp only [rarray, rsize, rarr2, rl_vals, rclose, h43, i_as, fup, i_a0, i0m, i10, eq_self, rb_yes, rb_no, ryes, rno, if_true, if_false, f_tt (p := True), reduceIte, Nat.reduceEqDiff]) | rfl))⟩
theorem mrj_array_193 {fu : Nat} {K V : Nat → Int32} {F0 : PF} {R0 : OR} (x1 : Int32) (x2 : Int32) (x3 : Int32) (x4 : Int32) (x5 : Int32) (x6 : Int32) (F : PF) (G : PG) (g4 : G 4 = K) (g5 : G 5 = V) (hA : (F 44 = 0 ∧ F 43 = F0 43 ∧ R0 = rarr2 K V fu (F 42) (F 43))) : PP (mb_array_193 fu x1 x2 x3 x4 x5 x6 F G) (fun r' F' _ => ROK R0 F0 r' F') := by
  rcases hA with ⟨h44, h43, hR⟩
  · skip
    unfold mb_array_193
    unfold mb_array_204
    refine PP.ite (fun c_1 => ?_) (fun c_1 => ?_)
    · skip
      exact mrj_array_214 (F0 := F0) (R0 := R0) x1 x2 x3 x4 (fup F 36 ((F 36) + x5)) G g4 g5 ⟨h44, (by first | with_reducible rfl | (simp only [h43, i_as, fup, Nat.reduceEqDiff, reduceIte, if_false]) | rfl), (hR.trans (by first | with_reducible rfl | (simp only [rarray, rsize, rarr2, rl_vals, rclose, h43, i_as, fup, i_a0, i0m, i10, eq_self, rb_yes, rb_no, ryes, rno, if_true, if_false, f_tt (p := True), reduceIte, Nat.reduceEqDiff]) | rfl))⟩
    · skip
      unfold mb_array_209
      refine PP.ite (fun c_2 => ?_) (fun c_2 => ?_)
      · skip
        exact mrj_array_214 (F0 := F0) (R0 := R0) x1 x2 x3 x4 (fup F 36 ((F 36) + x5)) G g4 g5 ⟨h44, (by first | with_reducible rfl | (simp only [h43, i_as, fup, Nat.reduceEqDiff, reduceIte, if_false]) | rfl), (hR.trans (by first | with_reducible rfl | (simp only [rarray, rsize, rarr2, rl_vals, rclose, h43, i_as, fup, i_a0, i0m, i10, eq_self, rb_yes, rb_no, ryes, rno, if_true, if_false, f_tt (p := True), reduceIte, Nat.reduceEqDiff]) | rfl))⟩
      · skip
        unfold mb_array_218
        exact mrj_array_219 (F0 := F0) (R0 := R0) x1 x2 x3 x4 x3 (fup F 36 ((F 36) + x5)) G g4 g5 ⟨h44, (by first | with_reducible rfl | (simp only [h43, i_as, fup, Nat.reduceEqDiff, reduceIte, if_false]) | rfl), (hR.trans (by first | with_reducible rfl | (simp only [rarray, rsize, rarr2, rl_vals, rclose, h43, i_as, fup, i_a0, i0m, i10, eq_self, rb_yes, rb_no, ryes, rno, if_true, if_false, f_tt (p := True), reduceIte, Nat.reduceEqDiff]) | rfl))⟩
theorem mrj_array_186 {fu : Nat} {K V : Nat → Int32} {F0 : PF} {R0 : OR} {n102 : Nat} (ag_102 : Int32 → Int32 → Int32 → Int32 → Int32 → Int32 → Int32 → PF → PG → PR) (hag_102 : ∀ (x1 : Int32) (x2 : Int32) (x3 : Int32) (x4 : Int32) (x5 : Int32) (x6 : Int32) (x7 : Int32) (F : PF) (G : PG) (g4 : G 4 = K) (g5 : G 5 = V) (hA : (F 44 = 0 ∧ F 43 = F0 43 ∧ R0 = rarr2 K V fu (F 42) (F 43))), PP (ag_102 x1 x2 x3 x4 x5 x6 x7 F G) (fun r' F' _ => ROK R0 F0 r' F')) (x1 : Int32) (x2 : Int32) (x3 : Int32) (x4 : Int32) (x5 : Int32) (x6 : Int32) (x7 : Int32) (z0 : Int32) (z1 : Int32) (F : PF) (G : PG) (g4 : G 4 = K) (g5 : G 5 = V) (hA : (F 44 = 0 ∧ F 43 = F0 43 ∧ R0 = rarr2 K V fu (F 42) (F 43))) : PP (mb_array_186 fu ag_102 x1 x2 x3 x4 x5 x6 x7 z0 z1 F G) (fun r' F' _ => ROK R0 F0 r' F') := by
  rcases hA with ⟨h44, h43, hR⟩
  · skip
    unfold mb_array_186
    refine PP.ix (fun _ => ?_)
    unfold mb_array_187
    exact hag_102 x1 x2 x3 x4 x5 x6 (x7 + (1 : Int32)) F (gup G 38 z1.toNatClampNeg z0) g4 g5 ⟨h44, (by first | with_reducible rfl | (simp only [h43, i_as, fup, Nat.reduceEqDiff, reduceIte, if_false]) | rfl), (hR.trans (by first | with_reducible rfl | (simp only [rarray, rsize, rarr2, rl_vals, rclose, h43, i_as, fup, i_a0, i0m, i10, eq_self, rb_yes, rb_no, ryes, rno, if_true, if_false, f_tt (p := True), reduceIte, Nat.reduceEqDiff]) | rfl))⟩
theorem mrj_array_142 {fu : Nat} {K V : Nat → Int32} {F0 : PF} {R0 : OR} {n102 : Nat} (ag_102 : Int32 → Int32 → Int32 → Int32 → Int32 → Int32 → Int32 → PF → PG → PR) (hag_102 : ∀ (x1 : Int32) (x2 : Int32) (x3 : Int32) (x4 : Int32) (x5 : Int32) (x6 : Int32) (x7 : Int32) (F : PF) (G : PG) (g4 : G 4 = K) (g5 : G 5 = V) (hA : (F 44 = 0 ∧ F 43 = F0 43 ∧ R0 = rarr2 K V fu (F 42) (F 43))), PP (ag_102 x1 x2 x3 x4 x5 x6 x7 F G) (fun r' F' _ => ROK R0 F0 r' F')) (x1 : Int32) (x2 : Int32) (x3 : Int32) (x4 : Int32) (x5 : Int32) (x6 : Int32) (x7 : Int32) (z0 : Int32) (z1 : Int32) (z2 : Int32) (F : PF) (G : PG) (g4 : G 4 = K) (g5 : G 5 = V) (hA : (F 44 = 0 ∧ F 43 = F0 43 ∧ R0 = rarr2 K V fu (F 42) (F 43))) : PP (mb_array_142 fu ag_102 x1 x2 x3 x4 x5 x6 x7 z0 z1 z2 F G) (fun r' F' _ => ROK R0 F0 r' F') := by
  rcases hA with ⟨h44, h43, hR⟩
  · skip
    unfold mb_array_142
    refine PP.ix (fun _ => ?_)
    unfold mb_array_144
    refine PP.ix (fun _ => ?_)
    unfold mb_array_157
    refine PP.ite (fun c_1 => ?_) (fun c_1 => ?_)
    · skip
      unfold mb_array_185
      exact mrj_array_186 (F0 := F0) (R0 := R0) (n102 := n102) ag_102 hag_102 x1 x2 x3 x4 x5 x6 x7 (1 : Int32) ((F 36) + x7) F (gup (gup G 39 z2.toNatClampNeg (z1 + z0)) 40 ((F 36) + x7).toNatClampNeg (vp_nar .boolean x2)) g4 g5 ⟨h44, (by first | with_reducible rfl | (simp only [h43, i_as, fup, Nat.reduceEqDiff, reduceIte, if_false]) | rfl), (hR.trans (by first | with_reducible rfl | (simp only [rarray, rsize, rarr2, rl_vals, rclose, h43, i_as, fup, i_a0, i0m, i10, eq_self, rb_yes, rb_no, ryes, rno, if_true, if_false, f_tt (p := True), reduceIte, Nat.reduceEqDiff]) | rfl))⟩
    · skip
      unfold mb_array_172
      unfold mb_array_182
      exact mrj_array_186 (F0 := F0) (R0 := R0) (n102 := n102) ag_102 hag_102 x1 x2 x3 x4 x5 x6 x7 (if (x3 - ((4 : Int32) * x7)) < (4 : Int32) then (x3 - ((4 : Int32) * x7)) else (4 : Int32)) ((F 36) + x7) F (gup (gup G 39 z2.toNatClampNeg (z1 + z0)) 40 ((F 36) + x7).toNatClampNeg (vp_nar .boolean x2)) g4 g5 ⟨h44, (by first | with_reducible rfl | (simp only [h43, i_as, fup, Nat.reduceEqDiff, reduceIte, if_false]) | rfl), (hR.trans (by first | with_reducible rfl | (simp only [rarray, rsize, rarr2, rl_vals, rclose, h43, i_as, fup, i_a0, i0m, i10, eq_self, rb_yes, rb_no, ryes, rno, if_true, if_false, f_tt (p := True), reduceIte, Nat.reduceEqDiff]) | rfl))⟩
theorem mrz_array_102 {fu : Nat} {K V : Nat → Int32} {F0 : PF} {R0 : OR} : ∀ (n : Nat) (x1 : Int32) (x2 : Int32) (x3 : Int32) (x4 : Int32) (x5 : Int32) (x6 : Int32) (x7 : Int32) (F : PF) (G : PG) (g4 : G 4 = K) (g5 : G 5 = V) (hA : (F 44 = 0 ∧ F 43 = F0 43 ∧ R0 = rarr2 K V fu (F 42) (F 43))), PP (ml_array_102 fu n x1 x2 x3 x4 x5 x6 x7 F G) (fun r' F' _ => ROK R0 F0 r' F') := by
  intro n
  induction n with
  | zero =>
    intro x1 x2 x3 x4 x5 x6 x7 F G g4 g5 hA
    exact PP.no
  | succ n ihn =>
    intro x1 x2 x3 x4 x5 x6 x7 F G g4 g5 hA
    show PP (mb_array_102 fu (ml_array_102 fu n) x1 x2 x3 x4 x5 x6 x7 F G) _
    rcases hA with ⟨h44, h43, hR⟩
    · skip
      unfold mb_array_102
      refine PP.ite (fun c_1 => ?_) (fun c_1 => ?_)
      · skip
        exact mrj_array_193 (F0 := F0) (R0 := R0) x1 x2 x3 x4 x5 x6 F G g4 g5 ⟨h44, (by first | with_reducible rfl | (simp only [h43, i_as, fup, Nat.reduceEqDiff, reduceIte, if_false]) | rfl), (hR.trans (by first | with_reducible rfl | (simp only [rarray, rsize, rarr2, rl_vals, rclose, h43, i_as, fup, i_a0, i0m, i10, eq_self, rb_yes, rb_no, ryes, rno, if_true, if_false, f_tt (p := True), reduceIte, Nat.reduceEqDiff]) | rfl))⟩
      · skip
        unfold mb_array_109
        refine PP.ite (fun c_2 => ?_) (fun c_2 => ?_)
        · skip
          exact mrj_array_193 (F0 := F0) (R0 := R0) x1 x2 x3 x4 x5 x6 F G g4 g5 ⟨h44, (by first | with_reducible rfl | (simp only [h43, i_as, fup, Nat.reduceEqDiff, reduceIte, if_false]) | rfl), (hR.trans (by first | with_reducible rfl | (simp only [rarray, rsize, rarr2, rl_vals, rclose, h43, i_as, fup, i_a0, i0m, i10, eq_self, rb_yes, rb_no, ryes, rno, if_true, if_false, f_tt (p := True), reduceIte, Nat.reduceEqDiff]) | rfl))⟩
        · skip
          unfold mb_array_114
          refine PP.ite (fun c_3 => ?_) (fun c_3 => ?_)
          · skip
            unfold mb_array_140
            exact mrj_array_142 (F0 := F0) (R0 := R0) (n102 := n) (ml_array_102 fu n) ihn x1 x2 x3 x4 x5 x6 x7 x7 (F 37) ((F 36) + x7) F G g4 g5 ⟨h44, (by first | with_reducible rfl | (simp only [h43, i_as, fup, Nat.reduceEqDiff, reduceIte, if_false]) | rfl), (hR.trans (by first | with_reducible rfl | (simp only [rarray, rsize, rarr2, rl_vals, rclose, h43, i_as, fup, i_a0, i0m, i10, eq_self, rb_yes, rb_no, ryes, rno, if_true, if_false, f_tt (p := True), reduceIte, Nat.reduceEqDiff]) | rfl))⟩
          · skip
            unfold mb_array_133
            exact mrj_array_142 (F0 := F0) (R0 := R0) (n102 := n) (ml_array_102 fu n) ihn x1 x2 x3 x4 x5 x6 x7 ((4 : Int32) * x7) (F 37) ((F 36) + x7) F G g4 g5 ⟨h44, (by first | with_reducible rfl | (simp only [h43, i_as, fup, Nat.reduceEqDiff, reduceIte, if_false]) | rfl), (hR.trans (by first | with_reducible rfl | (simp only [rarray, rsize, rarr2, rl_vals, rclose, h43, i_as, fup, i_a0, i0m, i10, eq_self, rb_yes, rb_no, ryes, rno, if_true, if_false, f_tt (p := True), reduceIte, Nat.reduceEqDiff]) | rfl))⟩
theorem mrj_array_99 {fu : Nat} {K V : Nat → Int32} {F0 : PF} {R0 : OR} (x1 : Int32) (x2 : Int32) (x3 : Int32) (x4 : Int32) (x5 : Int32) (x6 : Int32) (F : PF) (G : PG) (g4 : G 4 = K) (g5 : G 5 = V) (hA : (F 44 = 0 ∧ F 43 = F0 43 ∧ R0 = rarr2 K V fu (F 42) (F 43))) : PP (mb_array_99 fu x1 x2 x3 x4 x5 x6 F G) (fun r' F' _ => ROK R0 F0 r' F') := by
  rcases hA with ⟨h44, h43, hR⟩
  · skip
    unfold mb_array_99
    exact mrz_array_102 (F0 := F0) (R0 := R0) fu x1 x2 x3 x4 x5 x6 (0 : Int32) F G g4 g5 ⟨h44, (by first | with_reducible rfl | (simp only [h43, i_as, fup, Nat.reduceEqDiff, reduceIte, if_false]) | rfl), (hR.trans (by first | with_reducible rfl | (simp only [rarray, rsize, rarr2, rl_vals, rclose, h43, i_as, fup, i_a0, i0m, i10, eq_self, rb_yes, rb_no, ryes, rno, if_true, if_false, f_tt (p := True), reduceIte, Nat.reduceEqDiff]) | rfl))⟩
theorem mrj_array_80 {fu : Nat} {K V : Nat → Int32} {F0 : PF} {R0 : OR} (x1 : Int32) (x2 : Int32) (x3 : Int32) (x4 : Int32) (x5 : Int32) (z0 : Int32) (F : PF) (G : PG) (g4 : G 4 = K) (g5 : G 5 = V) (hA : (F 44 = 0 ∧ F 43 = F0 43 ∧ R0 = rarr2 K V fu (F 42) (F 43))) : PP (mb_array_80 fu x1 x2 x3 x4 x5 z0 F G) (fun r' F' _ => ROK R0 F0 r' F') := by
  rcases hA with ⟨h44, h43, hR⟩
  · skip
    unfold mb_array_80
    refine PP.ite (fun c_1 => ?_) (fun c_1 => ?_)
    · skip
      unfold mb_array_87
      refine PP.ix (fun _ => ?_)
      refine PP.bind (mw_note (11 : Int32) (G 6 x1.toNatClampNeg) F G) ?_
      intro r2 F2 G2 hK2
      dsimp only
      have g_3 : G2 4 = K := Eq.trans (hK2.2 4 rfl) g4
      have g_4 : G2 5 = V := Eq.trans (hK2.2 5 rfl) g5
      have q_5 : F2 42 = (F 42) := hK2.1 42 rfl
      have q_6 : F2 43 = (F0 43) := Eq.trans (hK2.1 43 rfl) (show (F 43) = (F0 43) by simp only [h43, i_as])
      have q_7 : F2 44 = 0 := Eq.trans (hK2.1 44 rfl) h44
      exact mrj_array_99 (F0 := F0) (R0 := R0) x1 x2 x3 x4 x5 z0 F2 G2 g_3 g_4 ⟨q_7, (by first | with_reducible rfl | (simp only [h43, q_5, q_6, i_as, fup, Nat.reduceEqDiff, reduceIte, if_false]) | rfl), (hR.trans (by first | with_reducible rfl | (simp only [rarray, rsize, rarr2, rl_vals, rclose, h43, q_5, q_6, i_as, fup, i_a0, i0m, i10, eq_self, rb_yes, rb_no, ryes, rno, if_true, if_false, f_tt (p := True), reduceIte, Nat.reduceEqDiff]) | rfl))⟩
    · skip
      exact mrj_array_99 (F0 := F0) (R0 := R0) x1 x2 x3 x4 x5 z0 F G g4 g5 ⟨h44, (by first | with_reducible rfl | (simp only [h43, i_as, fup, Nat.reduceEqDiff, reduceIte, if_false]) | rfl), (hR.trans (by first | with_reducible rfl | (simp only [rarray, rsize, rarr2, rl_vals, rclose, h43, i_as, fup, i_a0, i0m, i10, eq_self, rb_yes, rb_no, ryes, rno, if_true, if_false, f_tt (p := True), reduceIte, Nat.reduceEqDiff]) | rfl))⟩
theorem mrj_array_60 {fu : Nat} {K V : Nat → Int32} {F0 : PF} {R0 : OR} (x1 : Int32) (x2 : Int32) (x3 : Int32) (x4 : Int32) (z0 : Int32) (F : PF) (G : PG) (g4 : G 4 = K) (g5 : G 5 = V) (hA : (F 44 = 0 ∧ F 43 = F0 43 ∧ R0 = rarr2 K V fu (F 42) (F 43))) : PP (mb_array_60 fu x1 x2 x3 x4 z0 F G) (fun r' F' _ => ROK R0 F0 r' F') := by
  rcases hA with ⟨h44, h43, hR⟩
  · skip
    unfold mb_array_60
    refine PP.ite (fun c_1 => ?_) (fun c_1 => ?_)
    · skip
      unfold mb_array_79
      exact mrj_array_80 (F0 := F0) (R0 := R0) x1 x2 x3 x4 z0 (0 : Int32) F G g4 g5 ⟨h44, (by first | with_reducible rfl | (simp only [h43, i_as, fup, Nat.reduceEqDiff, reduceIte, if_false]) | rfl), (hR.trans (by first | with_reducible rfl | (simp only [rarray, rsize, rarr2, rl_vals, rclose, h43, i_as, fup, i_a0, i0m, i10, eq_self, rb_yes, rb_no, ryes, rno, if_true, if_false, f_tt (p := True), reduceIte, Nat.reduceEqDiff]) | rfl))⟩
    · skip
      unfold mb_array_75
      exact mrj_array_80 (F0 := F0) (R0 := R0) x1 x2 x3 x4 z0 (1 : Int32) F G g4 g5 ⟨h44, (by first | with_reducible rfl | (simp only [h43, i_as, fup, Nat.reduceEqDiff, reduceIte, if_false]) | rfl), (hR.trans (by first | with_reducible rfl | (simp only [rarray, rsize, rarr2, rl_vals, rclose, h43, i_as, fup, i_a0, i0m, i10, eq_self, rb_yes, rb_no, ryes, rno, if_true, if_false, f_tt (p := True), reduceIte, Nat.reduceEqDiff]) | rfl))⟩
theorem mr_array {fu : Nat} {K V : Nat → Int32} (x1 : Int32) (x2 : Int32) (F : PF) (G : PG) (g4 : G 4 = K) (g5 : G 5 = V) (h44 : F 44 = 0) : PP (mf_array fu x1 x2 F G) (fun r' F' _ => ROK (rarray K V fu (F 42) (F 43)) F r' F') := by
  unfold mf_array
  unfold mb_array_0
  refine PP.bind (mw_twice x1 F G) ?_
  intro r1 F1 G1 hK1
  dsimp only
  have g_2 : G1 4 = K := Eq.trans (hK1.2 4 rfl) g4
  have g_3 : G1 5 = V := Eq.trans (hK1.2 5 rfl) g5
  have q_4 : F1 42 = (F 42) := hK1.1 42 rfl
  have q_5 : F1 43 = (F 43) := hK1.1 43 rfl
  have q_6 : F1 44 = 0 := Eq.trans (hK1.1 44 rfl) h44
  unfold mb_array_5
  refine PP.bind (mp_openSign (24 : Int32) F1 G1) ?_
  rintro r7 F7 G7 (⟨rfl, rfl, rfl, u7⟩ | ⟨rfl, u7, u7b⟩)
  · dsimp only
    have h_8 : sgn K V (F 42) (24 : Int32) = true := by
      rw [← g_2, ← g_3]
      have q := u7.1
      first | exact q | (simp only [q_4, q_5, i_as] at q; exact q)
    have h_9 : ¬ (F 43) = 40 := by
      have q : ¬ (F1 43) = 40 := u7.2.1
      first | exact q | (simp only [q_4, q_5, i_as] at q; exact q)
    unfold mb_array_11
    refine PP.ite (fun c_10 => absurd c_10 (by decide)) (fun _ => ?_)
    unfold mb_array_16
    refine PP.bind (PP.and (mw_sizeHere (fup (fup F1 43 ((F1 43) + (1 : Int32))) 42 ((F1 42) + (1 : Int32))) G1) (mr_sizeHere (fup (fup F1 43 ((F1 43) + (1 : Int32))) 42 ((F1 42) + (1 : Int32))) G1 g_2 g_3 (show (fup (fup F1 43 ((F1 43) + (1 : Int32))) 42 ((F1 42) + (1 : Int32))) 44 = 0 from q_6))) ?_
    rintro r11 F11 G11 ⟨hK11, (⟨-, u11a, u11b, u11⟩ | ⟨-, u11a, u11⟩)⟩
    · dsimp only
      have g_12 : G11 4 = K := Eq.trans (hK11.2 4 rfl) g_2
      have g_13 : G11 5 = V := Eq.trans (hK11.2 5 rfl) g_3
      have h_14 : rS1 K V fu 300 4 ((F 42) + (1 : Int32)) ((F 43) + (1 : Int32)) = some (some (F11 42)) := by
        have q : rS1 K V fu 300 4 ((F1 42) + (1 : Int32)) ((F1 43) + (1 : Int32)) = some (some (F11 42)) := u11
        simp only [q_4, q_5, i_as] at q; exact q
      have q_15 : F11 43 = ((F 43) + (1 : Int32)) := by
        have q := (show F11 43 = ((F1 43) + (1 : Int32)) from u11b)
        simp only [q_4, q_5, i_as] at q; exact q
      unfold mb_array_20
      refine PP.bind (mp_closeSign (25 : Int32) F11 G11) ?_
      rintro r16 F16 G16 (⟨rfl, rfl, rfl, u16⟩ | ⟨rfl, u16, u16b⟩)
      · dsimp only
        have h_17 : sgn K V (F11 42) (25 : Int32) = true := by
          rw [← g_12, ← g_13]
          have q := u16.1
          first | exact q | (simp only [q_15, i_as] at q; exact q)
        unfold mb_array_27
        refine PP.ite (fun c_18 => absurd c_18 (by decide)) (fun _ => ?_)
        unfold mb_array_32
        refine PP.ite (fun c_19 => ?_) (fun c_19 => ?_)
        · skip
          unfold mb_array_43
          exact mrj_array_60 (F0 := F) (R0 := (rarray K V fu (F 42) (F 43))) x1 x2 r11 (F11 37) (0 : Int32) (fup (fup F11 42 ((F11 42) + (1 : Int32))) 43 ((F11 43) - (1 : Int32))) G11 g_12 g_13 ⟨u11a, (by first | with_reducible rfl | (simp only [q_4, q_5, q_15, i_as, fup, Nat.reduceEqDiff, reduceIte, if_false]) | rfl), ((rfl : (rarray K V fu (F 42) (F 43)) = _).trans (by first | with_reducible rfl | (simp only [rarray, rsize, rarr2, rl_vals, rclose, h_8, h_9, h_14, h_17, q_4, q_5, q_15, i_as, fup, i_a0, i0m, i10, eq_self, rb_yes, rb_no, ryes, rno, if_true, if_false, f_tt (p := True), reduceIte, Nat.reduceEqDiff]) | rfl))⟩
        · skip
          unfold mb_array_47
          refine PP.ite (fun c_20 => ?_) (fun c_20 => ?_)
          · skip
            unfold mb_array_59
            exact mrj_array_60 (F0 := F) (R0 := (rarray K V fu (F 42) (F 43))) x1 x2 r11 (F11 37) r11 (fup (fup F11 42 ((F11 42) + (1 : Int32))) 43 ((F11 43) - (1 : Int32))) G11 g_12 g_13 ⟨u11a, (by first | with_reducible rfl | (simp only [q_4, q_5, q_15, i_as, fup, Nat.reduceEqDiff, reduceIte, if_false]) | rfl), ((rfl : (rarray K V fu (F 42) (F 43)) = _).trans (by first | with_reducible rfl | (simp only [rarray, rsize, rarr2, rl_vals, rclose, h_8, h_9, h_14, h_17, q_4, q_5, q_15, i_as, fup, i_a0, i0m, i10, eq_self, rb_yes, rb_no, ryes, rno, if_true, if_false, f_tt (p := True), reduceIte, Nat.reduceEqDiff]) | rfl))⟩
          · skip
            unfold mb_array_51
            exact mrj_array_60 (F0 := F) (R0 := (rarray K V fu (F 42) (F 43))) x1 x2 r11 (F11 37) ((r11 + (3 : Int32)) / (4 : Int32)) (fup (fup F11 42 ((F11 42) + (1 : Int32))) 43 ((F11 43) - (1 : Int32))) G11 g_12 g_13 ⟨u11a, (by first | with_reducible rfl | (simp only [q_4, q_5, q_15, i_as, fup, Nat.reduceEqDiff, reduceIte, if_false]) | rfl), ((rfl : (rarray K V fu (F 42) (F 43)) = _).trans (by first | with_reducible rfl | (simp only [rarray, rsize, rarr2, rl_vals, rclose, h_8, h_9, h_14, h_17, q_4, q_5, q_15, i_as, fup, i_a0, i0m, i10, eq_self, rb_yes, rb_no, ryes, rno, if_true, if_false, f_tt (p := True), reduceIte, Nat.reduceEqDiff]) | rfl))⟩
      · dsimp only
        have g_21 : G16 4 = K := Eq.trans (u16.2.2.2 4 rfl) g_12
        have g_22 : G16 5 = V := Eq.trans (u16.2.2.2 5 rfl) g_13
        have q_23 : F16 42 = (F11 42) := u16.2.2.1 42 rfl
        have q_24 : F16 43 = ((F 43) + (1 : Int32)) := Eq.trans (u16.2.2.1 43 rfl) (show (F11 43) = ((F 43) + (1 : Int32)) by simp only [q_15, i_as])
        rcases u16b with q | q
        · exact absurd q (show ¬ 0 < (F11 44).toInt by rw [u11a]; decide)
        · skip
          have h_25 : sgn K V (F11 42) (25 : Int32) = false := by
            rw [← g_12, ← g_13]
            have q := q
            first | exact q | (simp only [q_15, i_as] at q; exact q)
          unfold mb_array_27
          refine PP.ite (fun _ => ?_) (fun c_26 => absurd (by decide) c_26)
          unfold mb_array_30
          refine PP.ret ?_
          refine Or.inr ⟨rfl, u16.1, (rfl : (rarray K V fu (F 42) (F 43)) = _).trans ?_⟩
          first | with_reducible rfl | (simp only [rarray, rsize, rarr2, rl_vals, rclose, h_8, h_9, h_14, h_25, q_4, q_5, q_15, q_23, q_24, i_as, fup, i_a0, i0m, i10, eq_self, rb_yes, rb_no, ryes, rno, if_true, if_false, f_tt (p := True), reduceIte, Nat.reduceEqDiff]) | rfl
    · dsimp only
      have g_27 : G11 4 = K := Eq.trans (hK11.2 4 rfl) g_2
      have g_28 : G11 5 = V := Eq.trans (hK11.2 5 rfl) g_3
      have h_29 : rS1 K V fu 300 4 ((F 42) + (1 : Int32)) ((F 43) + (1 : Int32)) = some (none) := by
        have q : rS1 K V fu 300 4 ((F1 42) + (1 : Int32)) ((F1 43) + (1 : Int32)) = some (none) := u11
        simp only [q_4, q_5, i_as] at q; exact q
      unfold mb_array_20
      refine PP.bind (mp_closeSign (25 : Int32) F11 G11) ?_
      rintro r30 F30 G30 (⟨rfl, rfl, rfl, u30⟩ | ⟨rfl, u30, u30b⟩)
      · dsimp only
        exact absurd u11a u30.2
      · dsimp only
        have g_31 : G30 4 = K := Eq.trans (u30.2.2.2 4 rfl) g_27
        have g_32 : G30 5 = V := Eq.trans (u30.2.2.2 5 rfl) g_28
        have q_33 : F30 42 = (F11 42) := u30.2.2.1 42 rfl
        have q_34 : F30 43 = (F11 43) := u30.2.2.1 43 rfl
        unfold mb_array_27
        refine PP.ite (fun _ => ?_) (fun c_35 => absurd (by decide) c_35)
        unfold mb_array_30
        refine PP.ret ?_
        refine Or.inr ⟨rfl, u30.1, (rfl : (rarray K V fu (F 42) (F 43)) = _).trans ?_⟩
        first | with_reducible rfl | (simp only [rarray, rsize, rarr2, rl_vals, rclose, h_8, h_9, h_29, q_4, q_5, q_33, q_34, i_as, fup, i_a0, i0m, i10, eq_self, rb_yes, rb_no, ryes, rno, if_true, if_false, f_tt (p := True), reduceIte, Nat.reduceEqDiff]) | rfl
  · dsimp only
    have g_36 : G7 4 = K := Eq.trans (u7.2.2.2 4 rfl) g_2
    have g_37 : G7 5 = V := Eq.trans (u7.2.2.2 5 rfl) g_3
    have q_38 : F7 42 = (F 42) := Eq.trans (u7.2.2.1 42 rfl) (show (F1 42) = (F 42) by simp only [q_4, q_5, i_as])
    have q_39 : F7 43 = (F 43) := Eq.trans (u7.2.2.1 43 rfl) (show (F1 43) = (F 43) by simp only [q_4, q_5, i_as])
    rcases u7b with q | q | ⟨q, q1⟩
    · exact absurd q (show ¬ 0 < (F1 44).toInt by rw [q_6]; decide)
    · skip
      have h_40 : sgn K V (F 42) (24 : Int32) = false := by
        rw [← g_2, ← g_3]
        have q := q
        first | exact q | (simp only [q_4, q_5, i_as] at q; exact q)
      unfold mb_array_11
      refine PP.ite (fun _ => ?_) (fun c_41 => absurd (by decide) c_41)
      unfold mb_array_14
      refine PP.ret ?_
      refine Or.inr ⟨rfl, u7.1, (rfl : (rarray K V fu (F 42) (F 43)) = _).trans ?_⟩
      first | with_reducible rfl | (simp only [rarray, rsize, rarr2, rl_vals, rclose, h_40, q_4, q_5, q_38, q_39, i_as, fup, i_a0, i0m, i10, eq_self, rb_yes, rb_no, ryes, rno, if_true, if_false, f_tt (p := True), reduceIte, Nat.reduceEqDiff]) | rfl
    · skip
      have h_42 : sgn K V (F 42) (24 : Int32) = true := by
        rw [← g_2, ← g_3]
        have q := q
        first | exact q | (simp only [q_4, q_5, i_as] at q; exact q)
      have h_43 : ((F 43) = 40) = True := by
        have q : (F1 43) = 40 := q1
        first | exact eq_true q | (simp only [q_4, q_5, i_as] at q; exact eq_true q)
      unfold mb_array_11
      refine PP.ite (fun _ => ?_) (fun c_44 => absurd (by decide) c_44)
      unfold mb_array_14
      refine PP.ret ?_
      refine Or.inr ⟨rfl, u7.1, (rfl : (rarray K V fu (F 42) (F 43)) = _).trans ?_⟩
      first | with_reducible rfl | (simp only [rarray, rsize, rarr2, rl_vals, rclose, h_42, h_43, q_4, q_5, q_38, q_39, i_as, fup, i_a0, i0m, i10, eq_self, rb_yes, rb_no, ryes, rno, if_true, if_false, f_tt (p := True), reduceIte, Nat.reduceEqDiff]) | rfl
theorem mrj_formalHere_185 {fu : Nat} {K V : Nat → Int32} {F0 : PF} {R0 : OR} (z0 : Int32) (F : PF) (G : PG) (g4 : G 4 = K) (g5 : G 5 = V) (hA : (F 44 = 0 ∧ F 43 = F0 43 ∧ R0 = ryes (F 42))) : PP (mb_formalHere_185 fu z0 F G) (fun r' F' _ => ROKV R0 F0 r' F') := by
  rcases hA with ⟨h44, h43, hR⟩
  · skip
    unfold mb_formalHere_185
    refine PP.ret ?_
    refine Or.inl ⟨trivial, h44, ?_, hR.trans ?_⟩
    · show (F 43) = F0 43
      first | with_reducible rfl | (simp only [h43, i_as, fup, Nat.reduceEqDiff, reduceIte, if_false]) | rfl
    · show _ = some (some (F 42))
      first | with_reducible rfl | (simp only [rformal, rform2, rsq, rclose, h43, i_as, fup, i_a0, i0m, i10, eq_self, rb_yes, rb_no, ryes, rno, if_true, if_false, f_tt (p := True), reduceIte, Nat.reduceEqDiff]) | rfl
theorem mrj_formalHere_163 {fu : Nat} {K V : Nat → Int32} {F0 : PF} {R0 : OR} (x2 : Int32) (x4 : Int32) (z0 : Int32) (z1 : Int32) (F : PF) (G : PG) (g4 : G 4 = K) (g5 : G 5 = V) (hA : (F 44 = 0 ∧ F 43 = F0 43 ∧ R0 = ryes (F 42))) : PP (mb_formalHere_163 fu x2 x4 z0 z1 F G) (fun r' F' _ => ROKV R0 F0 r' F') := by
  rcases hA with ⟨h44, h43, hR⟩
  · skip
    unfold mb_formalHere_163
    unfold mb_formalHere_167
    refine PP.ite (fun c_1 => ?_) (fun c_1 => ?_)
    · skip
      unfold mb_formalHere_172
      exact mrj_formalHere_185 (F0 := F0) (R0 := R0) (0 : Int32) (fup F 53 (z1 + z0)) G g4 g5 ⟨h44, (by first | with_reducible rfl | (simp only [h43, i_as, fup, Nat.reduceEqDiff, reduceIte, if_false]) | rfl), (hR.trans (by first | with_reducible rfl | (simp only [rformal, rform2, rsq, rclose, h43, i_as, fup, i_a0, i0m, i10, eq_self, rb_yes, rb_no, ryes, rno, if_true, if_false, f_tt (p := True), reduceIte, Nat.reduceEqDiff]) | rfl))⟩
    · skip
      unfold mb_formalHere_176
      refine PP.ite (fun c_2 => ?_) (fun c_2 => ?_)
      · skip
        unfold mb_formalHere_184
        exact mrj_formalHere_185 (F0 := F0) (R0 := R0) (1 : Int32) (fup F 53 (z1 + z0)) G g4 g5 ⟨h44, (by first | with_reducible rfl | (simp only [h43, i_as, fup, Nat.reduceEqDiff, reduceIte, if_false]) | rfl), (hR.trans (by first | with_reducible rfl | (simp only [rformal, rform2, rsq, rclose, h43, i_as, fup, i_a0, i0m, i10, eq_self, rb_yes, rb_no, ryes, rno, if_true, if_false, f_tt (p := True), reduceIte, Nat.reduceEqDiff]) | rfl))⟩
      · skip
        unfold mb_formalHere_180
        exact mrj_formalHere_185 (F0 := F0) (R0 := R0) (2 : Int32) (fup F 53 (z1 + z0)) G g4 g5 ⟨h44, (by first | with_reducible rfl | (simp only [h43, i_as, fup, Nat.reduceEqDiff, reduceIte, if_false]) | rfl), (hR.trans (by first | with_reducible rfl | (simp only [rformal, rform2, rsq, rclose, h43, i_as, fup, i_a0, i0m, i10, eq_self, rb_yes, rb_no, ryes, rno, if_true, if_false, f_tt (p := True), reduceIte, Nat.reduceEqDiff]) | rfl))⟩
theorem mrj_formalHere_144 {fu : Nat} {K V : Nat → Int32} {F0 : PF} {R0 : OR} (x2 : Int32) (x4 : Int32) (z0 : Int32) (z1 : Int32) (z2 : Int32) (z3 : Int32) (z4 : Int32) (F : PF) (G : PG) (g4 : G 4 = K) (g5 : G 5 = V) (hA : (F 44 = 0 ∧ F 43 = F0 43 ∧ R0 = ryes (F 42))) : PP (mb_formalHere_144 fu x2 x4 z0 z1 z2 z3 z4 F G) (fun r' F' _ => ROKV R0 F0 r' F') := by
  rcases hA with ⟨h44, h43, hR⟩
  · skip
    unfold mb_formalHere_144
    refine PP.bind (mw_declare z4 z3 z2 z1 z0 (1 : Int32) F G) ?_
    intro r1 F1 G1 hK1
    dsimp only
    have g_2 : G1 4 = K := Eq.trans (hK1.2 4 rfl) g4
    have g_3 : G1 5 = V := Eq.trans (hK1.2 5 rfl) g5
    have q_4 : F1 42 = (F 42) := hK1.1 42 rfl
    have q_5 : F1 43 = (F0 43) := Eq.trans (hK1.1 43 rfl) (show (F 43) = (F0 43) by simp only [h43, i_as])
    have q_6 : F1 44 = 0 := Eq.trans (hK1.1 44 rfl) h44
    unfold mb_formalHere_148
    refine PP.ite (fun c_7 => ?_) (fun c_7 => ?_)
    · skip
      unfold mb_formalHere_162
      exact mrj_formalHere_163 (F0 := F0) (R0 := R0) x2 x4 (1 : Int32) (F1 53) F1 G1 g_2 g_3 ⟨q_6, (by first | with_reducible rfl | (simp only [h43, q_4, q_5, i_as, fup, Nat.reduceEqDiff, reduceIte, if_false]) | rfl), (hR.trans (by first | with_reducible rfl | (simp only [rformal, rform2, rsq, rclose, h43, q_4, q_5, i_as, fup, i_a0, i0m, i10, eq_self, rb_yes, rb_no, ryes, rno, if_true, if_false, f_tt (p := True), reduceIte, Nat.reduceEqDiff]) | rfl))⟩
    · skip
      unfold mb_formalHere_158
      exact mrj_formalHere_163 (F0 := F0) (R0 := R0) x2 x4 (2 : Int32) (F1 53) F1 G1 g_2 g_3 ⟨q_6, (by first | with_reducible rfl | (simp only [h43, q_4, q_5, i_as, fup, Nat.reduceEqDiff, reduceIte, if_false]) | rfl), (hR.trans (by first | with_reducible rfl | (simp only [rformal, rform2, rsq, rclose, h43, q_4, q_5, i_as, fup, i_a0, i0m, i10, eq_self, rb_yes, rb_no, ryes, rno, if_true, if_false, f_tt (p := True), reduceIte, Nat.reduceEqDiff]) | rfl))⟩
theorem mrj_formalHere_129 {fu : Nat} {K V : Nat → Int32} {F0 : PF} {R0 : OR} (x2 : Int32) (x4 : Int32) (z0 : Int32) (z1 : Int32) (F : PF) (G : PG) (g4 : G 4 = K) (g5 : G 5 = V) (hA : (F 44 = 0 ∧ F 43 = F0 43 ∧ R0 = ryes (F 42))) : PP (mb_formalHere_129 fu x2 x4 z0 z1 F G) (fun r' F' _ => ROKV R0 F0 r' F') := by
  rcases hA with ⟨h44, h43, hR⟩
  · skip
    unfold mb_formalHere_129
    refine PP.ite (fun c_1 => ?_) (fun c_1 => ?_)
    · skip
      unfold mb_formalHere_143
      exact mrj_formalHere_144 (F0 := F0) (R0 := R0) x2 x4 (1 : Int32) (F 53) x2 z0 z1 F G g4 g5 ⟨h44, (by first | with_reducible rfl | (simp only [h43, i_as, fup, Nat.reduceEqDiff, reduceIte, if_false]) | rfl), (hR.trans (by first | with_reducible rfl | (simp only [rformal, rform2, rsq, rclose, h43, i_as, fup, i_a0, i0m, i10, eq_self, rb_yes, rb_no, ryes, rno, if_true, if_false, f_tt (p := True), reduceIte, Nat.reduceEqDiff]) | rfl))⟩
    · skip
      unfold mb_formalHere_139
      exact mrj_formalHere_144 (F0 := F0) (R0 := R0) x2 x4 (-1 : Int32) (F 53) x2 z0 z1 F G g4 g5 ⟨h44, (by first | with_reducible rfl | (simp only [h43, i_as, fup, Nat.reduceEqDiff, reduceIte, if_false]) | rfl), (hR.trans (by first | with_reducible rfl | (simp only [rformal, rform2, rsq, rclose, h43, i_as, fup, i_a0, i0m, i10, eq_self, rb_yes, rb_no, ryes, rno, if_true, if_false, f_tt (p := True), reduceIte, Nat.reduceEqDiff]) | rfl))⟩
theorem mrj_formalHere_117 {fu : Nat} {K V : Nat → Int32} {F0 : PF} {R0 : OR} (x2 : Int32) (x3 : Int32) (x4 : Int32) (F : PF) (G : PG) (g4 : G 4 = K) (g5 : G 5 = V) (hA : (F 44 = 0 ∧ F 43 = F0 43 ∧ R0 = ryes (F 42))) : PP (mb_formalHere_117 fu x2 x3 x4 F G) (fun r' F' _ => ROKV R0 F0 r' F') := by
  rcases hA with ⟨h44, h43, hR⟩
  · skip
    unfold mb_formalHere_117
    refine PP.ite (fun c_1 => ?_) (fun c_1 => ?_)
    · skip
      unfold mb_formalHere_128
      exact mrj_formalHere_129 (F0 := F0) (R0 := R0) x2 x4 (1 : Int32) x3 F G g4 g5 ⟨h44, (by first | with_reducible rfl | (simp only [h43, i_as, fup, Nat.reduceEqDiff, reduceIte, if_false]) | rfl), (hR.trans (by first | with_reducible rfl | (simp only [rformal, rform2, rsq, rclose, h43, i_as, fup, i_a0, i0m, i10, eq_self, rb_yes, rb_no, ryes, rno, if_true, if_false, f_tt (p := True), reduceIte, Nat.reduceEqDiff]) | rfl))⟩
    · skip
      unfold mb_formalHere_124
      exact mrj_formalHere_129 (F0 := F0) (R0 := R0) x2 x4 (2 : Int32) x3 F G g4 g5 ⟨h44, (by first | with_reducible rfl | (simp only [h43, i_as, fup, Nat.reduceEqDiff, reduceIte, if_false]) | rfl), (hR.trans (by first | with_reducible rfl | (simp only [rformal, rform2, rsq, rclose, h43, i_as, fup, i_a0, i0m, i10, eq_self, rb_yes, rb_no, ryes, rno, if_true, if_false, f_tt (p := True), reduceIte, Nat.reduceEqDiff]) | rfl))⟩
theorem mrj_formalHere_115 {fu : Nat} {K V : Nat → Int32} {F0 : PF} {R0 : OR} (F : PF) (G : PG) (g4 : G 4 = K) (g5 : G 5 = V) (hA : (0 < (F 44).toInt ∧ R0 = rno)) : PP (mb_formalHere_115 fu F G) (fun r' F' _ => ROKV R0 F0 r' F') := by
  rcases hA with ⟨hf, hR⟩
  · skip
    unfold mb_formalHere_115
    refine PP.ret ?_
    refine Or.inr ⟨trivial, hf, hR.trans ?_⟩
    first | with_reducible rfl | (simp only [rformal, rform2, rsq, rclose, i_as, fup, i_a0, i0m, i10, eq_self, rb_yes, rb_no, ryes, rno, if_true, if_false, f_tt (p := True), reduceIte, Nat.reduceEqDiff]) | rfl
theorem mrj_formalHere_90 {fu : Nat} {K V : Nat → Int32} {F0 : PF} {R0 : OR} (x2 : Int32) (x3 : Int32) (z0 : Int32) (F : PF) (G : PG) (g4 : G 4 = K) (g5 : G 5 = V) (hA : (z0 = 1 ∧ F 44 = 0 ∧ F 43 = F0 43 ∧ R0 = rsq K V (F 42) (F 43)) ∨ (z0 = 0 ∧ F 44 = 0 ∧ F 43 = F0 43 ∧ R0 = ryes (F 42))) : PP (mb_formalHere_90 fu x2 x3 z0 F G) (fun r' F' _ => ROKV R0 F0 r' F') := by
  rcases hA with ⟨rfl, h44, h43, hR⟩ | ⟨rfl, h44, h43, hR⟩
  · skip
    unfold mb_formalHere_90
    refine PP.ite (fun c_1 => absurd c_1 (by decide)) (fun _ => ?_)
    unfold mb_formalHere_97
    refine PP.bind (mp_openSign (24 : Int32) F G) ?_
    rintro r2 F2 G2 (⟨rfl, rfl, rfl, u2⟩ | ⟨rfl, u2, u2b⟩)
    · dsimp only
      have h_3 : sgn K V (F 42) (24 : Int32) = true := by
        rw [← g4, ← g5]
        have q := u2.1
        first | exact q | (simp only [h43, i_as] at q; exact q)
      have h_4 : ¬ (F0 43) = 40 := by
        have q : ¬ (F 43) = 40 := u2.2.1
        first | exact q | (simp only [h43, i_as] at q; exact q)
      unfold mb_formalHere_103
      refine PP.ite (fun c_5 => absurd c_5 (by decide)) (fun _ => ?_)
      unfold mb_formalHere_106
      refine PP.bind (mp_closeSign (25 : Int32) (fup (fup F 43 ((F 43) + (1 : Int32))) 42 ((F 42) + (1 : Int32))) G) ?_
      rintro r6 F6 G6 (⟨rfl, rfl, rfl, u6⟩ | ⟨rfl, u6, u6b⟩)
      · dsimp only
        have h_7 : sgn K V ((F 42) + (1 : Int32)) (25 : Int32) = true := by
          rw [← g4, ← g5]
          have q := u6.1
          first | exact q | (simp only [h43, i_as] at q; exact q) | (simp only [h43, i_as, fup, Nat.reduceEqDiff, reduceIte, if_false] at q; exact q)
        unfold mb_formalHere_112
        refine PP.ite (fun c_8 => absurd c_8 (by decide)) (fun _ => ?_)
        exact mrj_formalHere_117 (F0 := F0) (R0 := R0) x2 x3 (1 : Int32) (fup (fup (fup (fup F 43 ((F 43) + (1 : Int32))) 42 ((F 42) + (1 : Int32))) 42 (((F 42) + (1 : Int32)) + (1 : Int32))) 43 (((F 43) + (1 : Int32)) - (1 : Int32))) G g4 g5 ⟨h44, (by first | with_reducible rfl | (simp only [h43, i_as, fup, Nat.reduceEqDiff, reduceIte, if_false]) | rfl), (hR.trans (by first | with_reducible rfl | (simp only [rformal, rform2, rsq, rclose, h_3, h_4, h_7, h43, i_as, fup, i_a0, i0m, i10, eq_self, rb_yes, rb_no, ryes, rno, if_true, if_false, f_tt (p := True), reduceIte, Nat.reduceEqDiff]) | rfl))⟩
      · dsimp only
        have g_9 : G6 4 = K := Eq.trans (u6.2.2.2 4 rfl) g4
        have g_10 : G6 5 = V := Eq.trans (u6.2.2.2 5 rfl) g5
        have q_11 : F6 42 = ((F 42) + (1 : Int32)) := u6.2.2.1 42 rfl
        have q_12 : F6 43 = ((F0 43) + (1 : Int32)) := Eq.trans (u6.2.2.1 43 rfl) (show ((F 43) + (1 : Int32)) = ((F0 43) + (1 : Int32)) by simp only [h43, i_as])
        rcases u6b with q | q
        · exact absurd q (show ¬ 0 < (F 44).toInt by rw [h44]; decide)
        · skip
          have h_13 : sgn K V ((F 42) + (1 : Int32)) (25 : Int32) = false := by
            rw [← g4, ← g5]
            have q := q
            first | exact q | (simp only [h43, i_as] at q; exact q) | (simp only [h43, i_as, fup, Nat.reduceEqDiff, reduceIte, if_false] at q; exact q)
          unfold mb_formalHere_112
          refine PP.ite (fun _ => ?_) (fun c_14 => absurd (by decide) c_14)
          exact mrj_formalHere_115 (F0 := F0) (R0 := R0) F6 G6 g_9 g_10 ⟨u6.1, (hR.trans (by first | with_reducible rfl | (simp only [rformal, rform2, rsq, rclose, h_3, h_4, h_13, h43, q_11, q_12, i_as, fup, i_a0, i0m, i10, eq_self, rb_yes, rb_no, ryes, rno, if_true, if_false, f_tt (p := True), reduceIte, Nat.reduceEqDiff]) | rfl))⟩
    · dsimp only
      have g_15 : G2 4 = K := Eq.trans (u2.2.2.2 4 rfl) g4
      have g_16 : G2 5 = V := Eq.trans (u2.2.2.2 5 rfl) g5
      have q_17 : F2 42 = (F 42) := u2.2.2.1 42 rfl
      have q_18 : F2 43 = (F0 43) := Eq.trans (u2.2.2.1 43 rfl) (show (F 43) = (F0 43) by simp only [h43, i_as])
      rcases u2b with q | q | ⟨q, q1⟩
      · exact absurd q (show ¬ 0 < (F 44).toInt by rw [h44]; decide)
      · skip
        have h_19 : sgn K V (F 42) (24 : Int32) = false := by
          rw [← g4, ← g5]
          have q := q
          first | exact q | (simp only [h43, i_as] at q; exact q)
        unfold mb_formalHere_103
        refine PP.ite (fun _ => ?_) (fun c_20 => absurd (by decide) c_20)
        exact mrj_formalHere_115 (F0 := F0) (R0 := R0) F2 G2 g_15 g_16 ⟨u2.1, (hR.trans (by first | with_reducible rfl | (simp only [rformal, rform2, rsq, rclose, h_19, h43, q_17, q_18, i_as, fup, i_a0, i0m, i10, eq_self, rb_yes, rb_no, ryes, rno, if_true, if_false, f_tt (p := True), reduceIte, Nat.reduceEqDiff]) | rfl))⟩
      · skip
        have h_21 : sgn K V (F 42) (24 : Int32) = true := by
          rw [← g4, ← g5]
          have q := q
          first | exact q | (simp only [h43, i_as] at q; exact q)
        have h_22 : ((F0 43) = 40) = True := by
          have q : (F 43) = 40 := q1
          first | exact eq_true q | (simp only [h43, i_as] at q; exact eq_true q)
        unfold mb_formalHere_103
        refine PP.ite (fun _ => ?_) (fun c_23 => absurd (by decide) c_23)
        exact mrj_formalHere_115 (F0 := F0) (R0 := R0) F2 G2 g_15 g_16 ⟨u2.1, (hR.trans (by first | with_reducible rfl | (simp only [rformal, rform2, rsq, rclose, h_21, h_22, h43, q_17, q_18, i_as, fup, i_a0, i0m, i10, eq_self, rb_yes, rb_no, ryes, rno, if_true, if_false, f_tt (p := True), reduceIte, Nat.reduceEqDiff]) | rfl))⟩
  · skip
    unfold mb_formalHere_90
    refine PP.ite (fun _ => ?_) (fun c_24 => absurd (by decide) c_24)
    exact mrj_formalHere_117 (F0 := F0) (R0 := R0) x2 x3 (0 : Int32) F G g4 g5 ⟨h44, (by first | with_reducible rfl | (simp only [h43, i_as, fup, Nat.reduceEqDiff, reduceIte, if_false]) | rfl), (hR.trans (by first | with_reducible rfl | (simp only [rformal, rform2, rsq, rclose, h43, i_as, fup, i_a0, i0m, i10, eq_self, rb_yes, rb_no, ryes, rno, if_true, if_false, f_tt (p := True), reduceIte, Nat.reduceEqDiff]) | rfl))⟩
theorem mrj_formalHere_72 {fu : Nat} {K V : Nat → Int32} {F0 : PF} {R0 : OR} (x2 : Int32) (x3 : Int32) (F : PF) (G : PG) (g4 : G 4 = K) (g5 : G 5 = V) (hA : (x2 = 1 ∧ F 44 = 0 ∧ F 43 = F0 43 ∧ R0 = rform2 K V 1 (F 42) (F 43)) ∨ (x2 = 0 ∧ F 44 = 0 ∧ F 43 = F0 43 ∧ R0 = rform2 K V 0 (F 42) (F 43))) : PP (mb_formalHere_72 fu x2 x3 F G) (fun r' F' _ => ROKV R0 F0 r' F') := by
  rcases hA with ⟨rfl, h44, h43, hR⟩ | ⟨rfl, h44, h43, hR⟩
  · skip
    unfold mb_formalHere_72
    refine PP.ite (fun c_1 => absurd c_1 (by decide)) (fun _ => ?_)
    unfold mb_formalHere_85
    exact mrj_formalHere_90 (F0 := F0) (R0 := R0) (1 : Int32) x3 (1 : Int32) F G g4 g5 (Or.inl ⟨rfl, h44, (by first | with_reducible rfl | (simp only [h43, i_as, fup, Nat.reduceEqDiff, reduceIte, if_false]) | rfl), (hR.trans (by first | with_reducible rfl | (simp only [rformal, rform2, rsq, rclose, h43, i_as, fup, i_a0, i0m, i10, eq_self, rb_yes, rb_no, ryes, rno, if_true, if_false, f_tt (p := True), reduceIte, Nat.reduceEqDiff]) | rfl))⟩)
  · skip
    unfold mb_formalHere_72
    refine PP.ite (fun _ => ?_) (fun c_2 => absurd (by decide) c_2)
    unfold mb_formalHere_76
    refine PP.bind (mp_isSign (24 : Int32) F G) ?_
    rintro _ _ _ ⟨rfl, rfl, (⟨rfl, u3⟩ | ⟨rfl, u3⟩)⟩
    · dsimp only
      have h_4 : sgn K V (F 42) (24 : Int32) = true := by
        rw [← g4, ← g5]
        have q := u3
        first | exact q | (simp only [h43, i_as] at q; exact q)
      unfold mb_formalHere_82
      refine PP.ite (fun c_5 => absurd c_5 (by decide)) (fun _ => ?_)
      unfold mb_formalHere_85
      exact mrj_formalHere_90 (F0 := F0) (R0 := R0) (0 : Int32) x3 (1 : Int32) F G g4 g5 (Or.inl ⟨rfl, h44, (by first | with_reducible rfl | (simp only [h43, i_as, fup, Nat.reduceEqDiff, reduceIte, if_false]) | rfl), (hR.trans (by first | with_reducible rfl | (simp only [rformal, rform2, rsq, rclose, h_4, h43, i_as, fup, i_a0, i0m, i10, eq_self, rb_yes, rb_no, ryes, rno, if_true, if_false, f_tt (p := True), reduceIte, Nat.reduceEqDiff]) | rfl))⟩)
    · dsimp only
      have h_6 : sgn K V (F 42) (24 : Int32) = false := by
        rw [← g4, ← g5]
        have q := u3
        first | exact q | (simp only [h43, i_as] at q; exact q)
      unfold mb_formalHere_82
      refine PP.ite (fun _ => ?_) (fun c_7 => absurd (by decide) c_7)
      unfold mb_formalHere_89
      exact mrj_formalHere_90 (F0 := F0) (R0 := R0) (0 : Int32) x3 (0 : Int32) F G g4 g5 (Or.inr ⟨rfl, h44, (by first | with_reducible rfl | (simp only [h43, i_as, fup, Nat.reduceEqDiff, reduceIte, if_false]) | rfl), (hR.trans (by first | with_reducible rfl | (simp only [rformal, rform2, rsq, rclose, h_6, h43, i_as, fup, i_a0, i0m, i10, eq_self, rb_yes, rb_no, ryes, rno, if_true, if_false, f_tt (p := True), reduceIte, Nat.reduceEqDiff]) | rfl))⟩)
theorem mrj_formalHere_26 {fu : Nat} {K V : Nat → Int32} {F0 : PF} {R0 : OR} (x1 : Int32) (x2 : Int32) (F : PF) (G : PG) (g4 : G 4 = K) (g5 : G 5 = V) (hA : (x2 = 1 ∧ F 44 = 0 ∧ F 43 = F0 43 ∧ R0 = (if K ((F 42) + 1).toNatClampNeg = 1 then rform2 K V 1 ((F 42) + 1 + 1) (F 43) else rno)) ∨ (x2 = 0 ∧ F 44 = 0 ∧ F 43 = F0 43 ∧ R0 = (if K ((F 42) + 1).toNatClampNeg = 1 then rform2 K V 0 ((F 42) + 1 + 1) (F 43) else rno))) : PP (mb_formalHere_26 fu x1 x2 F G) (fun r' F' _ => ROKV R0 F0 r' F') := by
  rcases hA with ⟨rfl, h44, h43, hR⟩ | ⟨rfl, h44, h43, hR⟩
  · skip
    unfold mb_formalHere_26
    unfold mb_formalHere_36
    refine PP.bind (mp_name (fup F 42 ((F 42) + (1 : Int32))) G) ?_
    rintro r1 F1 G1 (⟨rfl, rfl, rfl, u1⟩ | ⟨rfl, u1, u1b⟩)
    · dsimp only
      have h_2 : K ((F 42) + (1 : Int32)).toNatClampNeg = 1 := by
        rw [← g4]
        have q := u1.1
        first | exact q | (simp only [h43, i_as] at q; exact q) | (simp only [h43, i_as, fup, Nat.reduceEqDiff, reduceIte, if_false] at q; exact q)
      have h_3 := eq_true h_2
      unfold mb_formalHere_40
      refine PP.ite (fun c_4 => ?_) (fun c_4 => ?_)
      · skip
        unfold mb_formalHere_50
        refine PP.bind (mw_twice ((((F 42) + (1 : Int32)) + (1 : Int32)) - (1 : Int32)) (fup (fup F 42 ((F 42) + (1 : Int32))) 42 (((F 42) + (1 : Int32)) + (1 : Int32))) G) ?_
        intro r5 F5 G5 hK5
        dsimp only
        have g_6 : G5 4 = K := Eq.trans (hK5.2 4 rfl) g4
        have g_7 : G5 5 = V := Eq.trans (hK5.2 5 rfl) g5
        have q_8 : F5 42 = (((F 42) + (1 : Int32)) + (1 : Int32)) := hK5.1 42 rfl
        have q_9 : F5 43 = (F0 43) := Eq.trans (hK5.1 43 rfl) (show (F 43) = (F0 43) by simp only [h43, i_as])
        have q_10 : F5 44 = 0 := Eq.trans (hK5.1 44 rfl) h44
        unfold mb_formalHere_55
        refine PP.ite (fun c_11 => ?_) (fun c_11 => ?_)
        · skip
          unfold mb_formalHere_60
          refine PP.ix (fun _ => ?_)
          refine PP.bind (mw_note (11 : Int32) (G5 6 ((((F 42) + (1 : Int32)) + (1 : Int32)) - (1 : Int32)).toNatClampNeg) F5 G5) ?_
          intro r12 F12 G12 hK12
          dsimp only
          have g_13 : G12 4 = K := Eq.trans (hK12.2 4 rfl) g_6
          have g_14 : G12 5 = V := Eq.trans (hK12.2 5 rfl) g_7
          have q_15 : F12 42 = (((F 42) + (1 : Int32)) + (1 : Int32)) := Eq.trans (hK12.1 42 rfl) (show (F5 42) = (((F 42) + (1 : Int32)) + (1 : Int32)) by simp only [q_8, q_9, i_as])
          have q_16 : F12 43 = (F0 43) := Eq.trans (hK12.1 43 rfl) (show (F5 43) = (F0 43) by simp only [q_8, q_9, i_as])
          have q_17 : F12 44 = 0 := Eq.trans (hK12.1 44 rfl) q_10
          exact mrj_formalHere_72 (F0 := F0) (R0 := R0) (1 : Int32) ((((F 42) + (1 : Int32)) + (1 : Int32)) - (1 : Int32)) F12 G12 g_13 g_14 (Or.inl ⟨rfl, q_17, (by first | with_reducible rfl | (simp only [h43, q_8, q_9, q_15, q_16, i_as, fup, Nat.reduceEqDiff, reduceIte, if_false]) | rfl), (hR.trans (by first | with_reducible rfl | (simp only [rformal, rform2, rsq, rclose, h_3, h43, q_8, q_9, q_15, q_16, i_as, fup, i_a0, i0m, i10, eq_self, rb_yes, rb_no, ryes, rno, if_true, if_false, f_tt (p := True), reduceIte, Nat.reduceEqDiff]) | rfl))⟩)
        · skip
          exact mrj_formalHere_72 (F0 := F0) (R0 := R0) (1 : Int32) ((((F 42) + (1 : Int32)) + (1 : Int32)) - (1 : Int32)) F5 G5 g_6 g_7 (Or.inl ⟨rfl, q_10, (by first | with_reducible rfl | (simp only [h43, q_8, q_9, i_as, fup, Nat.reduceEqDiff, reduceIte, if_false]) | rfl), (hR.trans (by first | with_reducible rfl | (simp only [rformal, rform2, rsq, rclose, h_3, h43, q_8, q_9, i_as, fup, i_a0, i0m, i10, eq_self, rb_yes, rb_no, ryes, rno, if_true, if_false, f_tt (p := True), reduceIte, Nat.reduceEqDiff]) | rfl))⟩)
      · skip
        exact absurd (i_npos (show ¬ ((F 44) ≤ (0 : Int32)) from c_4)) (by rw [h44]; decide)
    · dsimp only
      have g_18 : G1 4 = K := Eq.trans (u1.2.2.2 4 rfl) g4
      have g_19 : G1 5 = V := Eq.trans (u1.2.2.2 5 rfl) g5
      have q_20 : F1 42 = ((F 42) + (1 : Int32)) := u1.2.2.1 42 rfl
      have q_21 : F1 43 = (F0 43) := Eq.trans (u1.2.2.1 43 rfl) (show (F 43) = (F0 43) by simp only [h43, i_as])
      rcases u1b with q | q
      · exact absurd q (show ¬ 0 < (F 44).toInt by rw [h44]; decide)
      · skip
        have h_22 : ¬ K ((F 42) + (1 : Int32)).toNatClampNeg = 1 := by
          rw [← g4]
          have q := q
          first | exact q | (simp only [h43, i_as] at q; exact q) | (simp only [h43, i_as, fup, Nat.reduceEqDiff, reduceIte, if_false] at q; exact q)
        unfold mb_formalHere_40
        refine PP.ite (fun c_23 => ?_) (fun c_23 => ?_)
        · skip
          exact absurd (i_le.mp (show (F1 44) ≤ (0 : Int32) from c_23)) (by have := u1.1; have l0 : (0 : Int32).toInt = 0 := rfl; omega)
        · skip
          unfold mb_formalHere_48
          refine PP.ret ?_
          refine Or.inr ⟨trivial, u1.1, hR.trans ?_⟩
          first | with_reducible rfl | (simp only [rformal, rform2, rsq, rclose, h_22, h43, q_20, q_21, i_as, fup, i_a0, i0m, i10, eq_self, rb_yes, rb_no, ryes, rno, if_true, if_false, f_tt (p := True), reduceIte, Nat.reduceEqDiff]) | rfl
  · skip
    unfold mb_formalHere_26
    unfold mb_formalHere_36
    refine PP.bind (mp_name (fup F 42 ((F 42) + (1 : Int32))) G) ?_
    rintro r24 F24 G24 (⟨rfl, rfl, rfl, u24⟩ | ⟨rfl, u24, u24b⟩)
    · dsimp only
      have h_25 : K ((F 42) + (1 : Int32)).toNatClampNeg = 1 := by
        rw [← g4]
        have q := u24.1
        first | exact q | (simp only [h43, i_as] at q; exact q) | (simp only [h43, i_as, fup, Nat.reduceEqDiff, reduceIte, if_false] at q; exact q)
      have h_26 := eq_true h_25
      unfold mb_formalHere_40
      refine PP.ite (fun c_27 => ?_) (fun c_27 => ?_)
      · skip
        unfold mb_formalHere_50
        refine PP.bind (mw_twice ((((F 42) + (1 : Int32)) + (1 : Int32)) - (1 : Int32)) (fup (fup F 42 ((F 42) + (1 : Int32))) 42 (((F 42) + (1 : Int32)) + (1 : Int32))) G) ?_
        intro r28 F28 G28 hK28
        dsimp only
        have g_29 : G28 4 = K := Eq.trans (hK28.2 4 rfl) g4
        have g_30 : G28 5 = V := Eq.trans (hK28.2 5 rfl) g5
        have q_31 : F28 42 = (((F 42) + (1 : Int32)) + (1 : Int32)) := hK28.1 42 rfl
        have q_32 : F28 43 = (F0 43) := Eq.trans (hK28.1 43 rfl) (show (F 43) = (F0 43) by simp only [h43, i_as])
        have q_33 : F28 44 = 0 := Eq.trans (hK28.1 44 rfl) h44
        unfold mb_formalHere_55
        refine PP.ite (fun c_34 => ?_) (fun c_34 => ?_)
        · skip
          unfold mb_formalHere_60
          refine PP.ix (fun _ => ?_)
          refine PP.bind (mw_note (11 : Int32) (G28 6 ((((F 42) + (1 : Int32)) + (1 : Int32)) - (1 : Int32)).toNatClampNeg) F28 G28) ?_
          intro r35 F35 G35 hK35
          dsimp only
          have g_36 : G35 4 = K := Eq.trans (hK35.2 4 rfl) g_29
          have g_37 : G35 5 = V := Eq.trans (hK35.2 5 rfl) g_30
          have q_38 : F35 42 = (((F 42) + (1 : Int32)) + (1 : Int32)) := Eq.trans (hK35.1 42 rfl) (show (F28 42) = (((F 42) + (1 : Int32)) + (1 : Int32)) by simp only [q_31, q_32, i_as])
          have q_39 : F35 43 = (F0 43) := Eq.trans (hK35.1 43 rfl) (show (F28 43) = (F0 43) by simp only [q_31, q_32, i_as])
          have q_40 : F35 44 = 0 := Eq.trans (hK35.1 44 rfl) q_33
          exact mrj_formalHere_72 (F0 := F0) (R0 := R0) (0 : Int32) ((((F 42) + (1 : Int32)) + (1 : Int32)) - (1 : Int32)) F35 G35 g_36 g_37 (Or.inr ⟨rfl, q_40, (by first | with_reducible rfl | (simp only [h43, q_31, q_32, q_38, q_39, i_as, fup, Nat.reduceEqDiff, reduceIte, if_false]) | rfl), (hR.trans (by first | with_reducible rfl | (simp only [rformal, rform2, rsq, rclose, h_26, h43, q_31, q_32, q_38, q_39, i_as, fup, i_a0, i0m, i10, eq_self, rb_yes, rb_no, ryes, rno, if_true, if_false, f_tt (p := True), reduceIte, Nat.reduceEqDiff]) | rfl))⟩)
        · skip
          exact mrj_formalHere_72 (F0 := F0) (R0 := R0) (0 : Int32) ((((F 42) + (1 : Int32)) + (1 : Int32)) - (1 : Int32)) F28 G28 g_29 g_30 (Or.inr ⟨rfl, q_33, (by first | with_reducible rfl | (simp only [h43, q_31, q_32, i_as, fup, Nat.reduceEqDiff, reduceIte, if_false]) | rfl), (hR.trans (by first | with_reducible rfl | (simp only [rformal, rform2, rsq, rclose, h_26, h43, q_31, q_32, i_as, fup, i_a0, i0m, i10, eq_self, rb_yes, rb_no, ryes, rno, if_true, if_false, f_tt (p := True), reduceIte, Nat.reduceEqDiff]) | rfl))⟩)
      · skip
        exact absurd (i_npos (show ¬ ((F 44) ≤ (0 : Int32)) from c_27)) (by rw [h44]; decide)
    · dsimp only
      have g_41 : G24 4 = K := Eq.trans (u24.2.2.2 4 rfl) g4
      have g_42 : G24 5 = V := Eq.trans (u24.2.2.2 5 rfl) g5
      have q_43 : F24 42 = ((F 42) + (1 : Int32)) := u24.2.2.1 42 rfl
      have q_44 : F24 43 = (F0 43) := Eq.trans (u24.2.2.1 43 rfl) (show (F 43) = (F0 43) by simp only [h43, i_as])
      rcases u24b with q | q
      · exact absurd q (show ¬ 0 < (F 44).toInt by rw [h44]; decide)
      · skip
        have h_45 : ¬ K ((F 42) + (1 : Int32)).toNatClampNeg = 1 := by
          rw [← g4]
          have q := q
          first | exact q | (simp only [h43, i_as] at q; exact q) | (simp only [h43, i_as, fup, Nat.reduceEqDiff, reduceIte, if_false] at q; exact q)
        unfold mb_formalHere_40
        refine PP.ite (fun c_46 => ?_) (fun c_46 => ?_)
        · skip
          exact absurd (i_le.mp (show (F24 44) ≤ (0 : Int32) from c_46)) (by have := u24.1; have l0 : (0 : Int32).toInt = 0 := rfl; omega)
        · skip
          unfold mb_formalHere_48
          refine PP.ret ?_
          refine Or.inr ⟨trivial, u24.1, hR.trans ?_⟩
          first | with_reducible rfl | (simp only [rformal, rform2, rsq, rclose, h_45, h43, q_43, q_44, i_as, fup, i_a0, i0m, i10, eq_self, rb_yes, rb_no, ryes, rno, if_true, if_false, f_tt (p := True), reduceIte, Nat.reduceEqDiff]) | rfl
